/-! the next token, for class and reference alike -/
def wdK (bt : Nat → Nat) (s L : Nat) (v0 : Int32) : Nat → Int32 × Int32
  | 0 => (4, v0)
  | i + 1 => if wdM bt s L i = true then (1, nI i) else wdK bt s L v0 i
theorem wdK_s (bt : Nat → Nat) (s L : Nat) (v0 : Int32) (i : Nat) : wdK bt s L v0 (i + 1) = if wdM bt s L i = true then (1, nI i) else wdK bt s L v0 i := rfl
theorem wdK_hit {bt : Nat → Nat} {s L : Nat} {v0 : Int32} {j : Nat} (h : wdM bt s L j = true) (hu : ∀ i, i < 6 → wdM bt s L i = true → i = j) : ∀ i, i ≤ 6 → wdK bt s L v0 i = if j < i then (1, nI j) else (4, v0)
  | 0, _ => by rw [if_neg (by omega)]; rfl
  | i + 1, hi => by
    rw [wdK_s, wdK_hit h hu i (by omega)]
    by_cases c : wdM bt s L i = true
    · have e := hu i (by omega) c
      rw [if_pos c, e, if_pos (by omega)]
    · have ne : ¬ i = j := fun e => c (by rw [e]; exact h)
      rw [if_neg c]
      by_cases k : j < i
      · rw [if_pos k, if_pos (by omega)]
      · rw [if_neg k, if_neg (by omega)]
theorem wdK_miss {bt : Nat → Nat} {s L : Nat} {v0 : Int32} (h : ∀ j, j < 6 → wdM bt s L j = false) : ∀ i, i ≤ 6 → wdK bt s L v0 i = (4, v0)
  | 0, _ => rfl
  | i + 1, hi => by rw [wdK_s, h i (by omega), if_neg (by decide)]; exact wdK_miss h i (by omega)
theorem nameOf_n : ∀ j, j < 6 → f_X3_nameOf (nI j) = j := by decide
theorem nextWord6 {n s e : Nat} {bt : Nat → Nat} {tb text : Nat → Int32} {tx : K3} {N : Nat} (hN : 400 < N) (h : txB n bt tb text) (h1 : tx.1 = nI n) (h2 : tx.2.1 = nI s) (h3 : tx.2.2.1 = nI s) (hp : s ≤ e) (hq : e ≤ n) (ha : ∀ j, s ≤ j → j < e → 97 ≤ bt j ∧ bt j ≤ 122) (he : e < n → ¬ (97 ≤ bt e ∧ bt e ≤ 122)) : f_X3_nextWord N tx tb = some (nI n, nI e, nI s, (wdK bt s (e - s) tx.2.2.2.2.1 6).1, (wdK bt s (e - s) tx.2.2.2.2.1 6).2, tx.2.2.2.2.2) := by
  obtain ⟨v, e1, e2⟩ := xlp_rel (st := s_X3_nextWord_46 N tx tb (nI e)) (fun i v => v.1 = nI i ∧ v.2 = wdK bt s (e - s) tx.2.2.2.2.1 i) 6 (fun v => v.2 = wdK bt s (e - s) tx.2.2.2.2.1 6) (n := N) (x := (0, 4, tx.2.2.2.2.1))
    (fun i x hi ⟨a1, a2⟩ => by
      have ht := tokIs6 (tx := (tx.1, nI e, tx.2.2.1, x.2.1, x.2.2, tx.2.2.2.2.2)) (j := i) hN h rfl h3 hp hq hi
      unfold s_X3_nextWord_46
      rw [a1, if_neg (by rw [nlit, nle] <;> omega), nameOf_n i hi, ht, Option.bind_some]
      by_cases c : wdM bt s (e - s) i = true
      · rw [if_pos c, if_neg ne10]
        exact Or.inl ⟨_, rfl, nI_1 i, by rw [wdK_s, if_pos c]⟩
      · rw [if_neg c, if_pos rfl]
        exact Or.inl ⟨_, rfl, nI_1 i, by rw [wdK_s, if_neg c]; exact a2⟩)
    (fun x ⟨a1, a2⟩ => ⟨x, by unfold s_X3_nextWord_46; rw [a1, if_pos (by rw [nlit, nle] <;> omega), ← a1], a2⟩) (by omega) ⟨rfl, rfl⟩
  unfold f_X3_nextWord
  rw [h2, lets6 hN h h1 hp hq ha he, Option.bind_some, e1, Option.bind_some, h1, h3, e2]
/-- what the next token is -/
def tokC (n p s e6 e7 : Nat) (kd vl sr vr : Int32) : Prop := p ≤ s ∧ s ≤ n ∧ ((kd = 0 ∧ sr = 20) ∨ (kd = 3 ∧ sr = 22 ∧ e6 = e7 ∧ e6 ≤ n) ∨ (kd = 2 ∧ sr = 21 ∧ e6 = e7 ∧ e6 ≤ n ∧ vl = vr ∧ ∃ v : Nat, v ≤ 100 ∧ vl = nI v) ∨ (kd = 1 ∧ e6 = e7 ∧ e6 ≤ n ∧ ∃ j : Nat, j < 6 ∧ vl = nI j ∧ sr = nI (sloN j)) ∨ (kd = 4 ∧ sr = 23))
theorem tok_ok {n p : Nat} {bt : Nat → Nat} {tb text : Nat → Int32} {tx : K3} {o : K7} {N : Nat} (hN : 400 < N) (h : txB n bt tb text) (h1 : tx.1 = nI n) (h2 : tx.2.1 = nI p) (o1 : o.2.1 = nI n) (o2 : o.2.2.1 = nI p) (hp : p ≤ n) : ∃ (s e6 e7 : Nat) (kd vl sr vr : Int32), f_X3_nextToken N tx tb = some (nI n, nI e6, nI s, kd, vl, tx.2.2.2.2.2) ∧ f_X7_next N o text = some (o.1, nI n, nI e7, nI s, sr, vr, o.2.2.2.2.2.2.1, o.2.2.2.2.2.2.2.1, o.2.2.2.2.2.2.2.2.1, o.2.2.2.2.2.2.2.2.2.1, o.2.2.2.2.2.2.2.2.2.2.1, o.2.2.2.2.2.2.2.2.2.2.2) ∧ tokC n p s e6 e7 kd vl sr vr := by
  have hn := h.1
  obtain ⟨s, s1, s2, s3, s4⟩ := run_ex (fun j => bt j = 32) n (n - p) p rfl hp
  unfold f_X3_nextToken f_X7_next
  rw [h2, o2, skip6 hN h h1 s1 s2 s3 s4, skip7 hN h o1 s1 s2 s3 s4, Option.bind_some, Option.bind_some, h1, o1]
  rcases Nat.eq_or_lt_of_le s2 with k | k
  · rw [if_neg (by rw [nlt] <;> omega), hereU h (by omega) (by omega), Option.bind_some, if_neg (by decide)]
    exact ⟨s, s, s, _, _, _, _, rfl, rfl, s1, s2, Or.inl ⟨rfl, rfl⟩⟩
  · have hb := h.2 s k
    have hge : (0 : Int32) ≤ nI (bt s) := by rw [zle, z0, nI_toInt (by omega)]; omega
    rw [if_pos (by rw [nlt] <;> omega), if_pos (xin_n (by omega) (by omega)), nI_clamp (by omega), hb.2.1, hereT h k, Option.bind_some, if_pos hge, digX6 hb.1, letX6 hb.1, digX7 hb.1, letX7 hb.1]
    by_cases c59 : bt s = 59
    · rw [if_pos (show nI (bt s) = 59 by rw [c59]; rfl), if_neg (show ¬ (97 ≤ bt s ∧ bt s ≤ 122) by omega), if_neg (show ¬ (48 ≤ bt s ∧ bt s ≤ 57) by omega), if_pos rfl, if_pos rfl, if_pos (show nI (bt s) = 59 by rw [c59]; rfl), show nI s + 1 = nI (s + 1) from nI_1 s]
      exact ⟨s, s + 1, s + 1, _, _, _, _, rfl, rfl, s1, s2, Or.inr (Or.inl ⟨rfl, rfl, rfl, by omega⟩)⟩
    · have n59 : ¬ nI (bt s) = 59 := fun q => c59 ((nIeq (b := 59) hb.1 (by omega)).mp q)
      rw [if_neg n59]
      by_cases cd : 48 ≤ bt s ∧ bt s ≤ 57
      · have cl : ¬ (97 ≤ bt s ∧ bt s ≤ 122) := by omega
        obtain ⟨e, d1, d2, d3, d4⟩ := run_ex (fun j => 48 ≤ bt j ∧ bt j ≤ 57) n (n - s) s rfl s2
        have hlt : s < e := by
          rcases Nat.eq_or_lt_of_le d1 with q | q
          · subst q; exact absurd cd (d4 k)
          · exact q
        obtain ⟨q1, q2, q3, q4⟩ := num_ok (bt := bt) (p := s) (e - s) (fun j hj => (d3 (s + j) (by omega) (by omega)).2)
        rw [if_pos cd, if_neg ne10, if_neg cl, if_pos rfl, if_neg ne10, num7 (nI s) hN h o1 d1 d2 d3 d4, Option.bind_some]
        unfold f_X3_nextNumber
        dsimp only
        rw [if_pos (xin_n (by omega) (by omega)), nI_clamp (by omega), hb.2.1, num6 (tx := (nI n, nI s, nI s, tx.2.2.2.1, tx.2.2.2.2.1, tx.2.2.2.2.2)) hN h rfl d1 d2 d3 d4]
        generalize numC bt s (e - s) = cC at *
        generalize numR bt s (e - s) = cR at *
        by_cases c100 : 100 < cC
        · have hR : 100 < cR := q4 c100
          rw [if_pos (show (100 : Int32) < nI cR by rw [nlit, nlt] <;> omega)]
          refine ⟨s, e, e, 4, nI cC, 23, nI cR, ?_, rfl, s1, s2, Or.inr (Or.inr (Or.inr (Or.inr ⟨rfl, rfl⟩)))⟩
          split <;> (rw [Option.bind_some, Option.bind_some]; dsimp only; rw [if_pos (show (100 : Int32) < nI cC by rw [nlit, nlt] <;> omega), Option.bind_some, if_neg ne10]; rfl)
        · have hR : cR = cC := q3 (by omega)
          subst hR
          rw [if_neg (show ¬ (100 : Int32) < nI cR by rw [nlit, nlt] <;> omega), nI_sub (by omega) (by omega)]
          by_cases c48 : nI (bt s) = 48
          · rw [if_pos c48, if_pos c48, Option.bind_some, Option.bind_some]
            dsimp only
            rw [if_neg (show ¬ (100 : Int32) < nI cR by rw [nlit, nlt] <;> omega), if_neg ne10, nI_sub (by omega) (by omega)]
            by_cases c1 : e - s ≤ 1
            · rw [if_pos (show nI (e - s) ≤ 1 by rw [nlit, nle] <;> omega), if_pos (show nI (e - s) ≤ 1 by rw [nlit, nle] <;> omega), Option.bind_some, if_pos rfl]
              exact ⟨s, e, e, _, _, _, _, rfl, rfl, s1, s2, Or.inr (Or.inr (Or.inl ⟨rfl, rfl, rfl, d2, rfl, cR, by omega, rfl⟩))⟩
            · rw [if_neg (show ¬ nI (e - s) ≤ 1 by rw [nlit, nle] <;> omega), if_neg (show ¬ nI (e - s) ≤ 1 by rw [nlit, nle] <;> omega), Option.bind_some, if_neg ne10]
              exact ⟨s, e, e, _, _, _, _, rfl, rfl, s1, s2, Or.inr (Or.inr (Or.inr (Or.inr ⟨rfl, rfl⟩)))⟩
          · rw [if_neg c48, if_neg c48, Option.bind_some, Option.bind_some]
            dsimp only
            rw [if_neg (show ¬ (100 : Int32) < nI cR by rw [nlit, nlt] <;> omega), if_pos rfl, Option.bind_some, if_pos rfl]
            exact ⟨s, e, e, _, _, _, _, rfl, rfl, s1, s2, Or.inr (Or.inr (Or.inl ⟨rfl, rfl, rfl, d2, rfl, cR, by omega, rfl⟩))⟩
      · rw [if_neg cd, if_pos rfl]
        by_cases cl : 97 ≤ bt s ∧ bt s ≤ 122
        · obtain ⟨e, d1, d2, d3, d4⟩ := run_ex (fun j => 97 ≤ bt j ∧ bt j ≤ 122) n (n - s) s rfl s2
          have hlt : s < e := by
            rcases Nat.eq_or_lt_of_le d1 with q | q
            · subst q; exact absurd cl (d4 k)
            · exact q
          rw [if_pos cl, if_neg ne10, if_neg ne10, word7 hN h o1 d1 d2 d3 d4, Option.bind_some, nextWord6 (tx := (nI n, nI s, nI s, tx.2.2.2.1, tx.2.2.2.2.1, tx.2.2.2.2.2)) hN h rfl rfl rfl d1 d2 d3 d4, Option.bind_some]
          rcases mean_ok (bt := bt) (s := s) (L := e - s) (by omega) (fun j hj => d3 (s + j) (by omega) (by omega)) with ⟨j, hj, m1, m2, m3⟩ | ⟨m1, m3⟩
          · refine ⟨s, e, e, 1, nI j, nI (sloN j), 0, ?_, ?_, s1, s2, Or.inr (Or.inr (Or.inr (Or.inl ⟨rfl, rfl, d2, j, hj, rfl, rfl⟩)))⟩
            · dsimp only
              rw [wdK_hit m1 m2 6 (by omega), if_pos hj]
            · dsimp only
              rw [m3]
          · refine ⟨s, e, e, 4, tx.2.2.2.2.1, 23, 0, ?_, ?_, s1, s2, Or.inr (Or.inr (Or.inr (Or.inr ⟨rfl, rfl⟩)))⟩
            · dsimp only
              rw [wdK_miss m1 6 (by omega)]
            · dsimp only
              rw [m3]
        · rw [if_neg cl, if_pos rfl, if_pos rfl, if_pos rfl, if_neg n59, show nI s + 1 = nI (s + 1) from nI_1 s]
          exact ⟨s, s, s + 1, _, _, _, _, rfl, rfl, s1, s2, Or.inr (Or.inr (Or.inr (Or.inr ⟨rfl, rfl⟩)))⟩
