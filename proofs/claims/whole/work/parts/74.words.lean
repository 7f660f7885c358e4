/-! the words of a typed text -/
def codeF (bt : Nat → Nat) (s : Nat) : Nat → Nat
  | 0 => 0
  | i + 1 => if 6 ≤ i then codeF bt s i else 27 * codeF bt s i + (bt (s + i) - 96)
def exF (bt : Nat → Nat) (s : Nat) : Nat → Nat
  | 0 => 0
  | i + 1 => if i = 6 then bt (s + i) - 96 else if i ≤ 6 then exF bt s i else 99
theorem codeF_s (bt : Nat → Nat) (s i : Nat) : codeF bt s (i + 1) = if 6 ≤ i then codeF bt s i else 27 * codeF bt s i + (bt (s + i) - 96) := rfl
theorem exF_s (bt : Nat → Nat) (s i : Nat) : exF bt s (i + 1) = if i = 6 then bt (s + i) - 96 else if i ≤ 6 then exF bt s i else 99 := rfl
theorem codeF_lt {bt : Nat → Nat} {s : Nat} : ∀ i, (∀ j, j < i → bt (s + j) ≤ 122) → codeF bt s i < 387420489 ∧ (i ≤ 5 → codeF bt s i < 14348907) ∧ (i ≤ 4 → codeF bt s i < 531441) ∧ (i ≤ 3 → codeF bt s i < 19683) ∧ (i ≤ 2 → codeF bt s i < 729) ∧ (i ≤ 1 → codeF bt s i < 27) ∧ (i = 0 → codeF bt s i = 0)
  | 0, _ => by
    have e : codeF bt s 0 = 0 := rfl
    rw [e]; omega
  | i + 1, h => by
    obtain ⟨h1, h2, h3, h4, h5, h6, h7⟩ := codeF_lt i (fun j hj => h j (by omega))
    have hb := h i (by omega)
    rw [codeF_s]
    by_cases c : 6 ≤ i
    · rw [if_pos c]; omega
    · rw [if_neg c]; omega
theorem exF_lt {bt : Nat → Nat} {s : Nat} : ∀ i, (∀ j, j < i → bt (s + j) ≤ 122) → exF bt s i ≤ 99
  | 0, _ => by
    have e : exF bt s 0 = 0 := rfl
    rw [e]; omega
  | i + 1, h => by
    have h1 := exF_lt i (fun j hj => h j (by omega))
    have hb := h i (by omega)
    rw [exF_s]
    by_cases c : i = 6
    · rw [if_pos c]; omega
    · rw [if_neg c]
      by_cases c2 : i ≤ 6
      · rw [if_pos c2]; omega
      · rw [if_neg c2]; omega
theorem m27 (a : Nat) : (27 : Int32) * nI a = nI (27 * a) := by rw [show (27 : Int32) = nI 27 from rfl, pk_mul]
theorem word7 {n s e : Nat} {bt : Nat → Nat} {tb text : Nat → Int32} {o : K7} {N : Nat} (hN : 400 < N) (h : txB n bt tb text) (h1 : o.2.1 = nI n) (hp : s ≤ e) (hq : e ≤ n) (ha : ∀ j, s ≤ j → j < e → 97 ≤ bt j ∧ bt j ≤ 122) (he : e < n → ¬ (97 ≤ bt e ∧ bt e ≤ 122)) : xlp (s_X7_next_68 o text (nI s)) N (0, 0, nI s) = some (nI (codeF bt s (e - s)), nI (exF bt s (e - s)), nI e) := by
  have hn := h.1
  obtain ⟨v, e1, e2⟩ := xlp_rel (st := s_X7_next_68 o text (nI s)) (fun i v => v = (nI (codeF bt s i), nI (exF bt s i), nI (s + i))) (e - s) (fun v => v = (nI (codeF bt s (e - s)), nI (exF bt s (e - s)), nI e)) (n := N) (x := (0, 0, nI s))
    (fun i x hi a => by
      subst a
      have hb := h.2 (s + i) (by omega)
      have hd := ha (s + i) (by omega) (by omega)
      have hk := codeF_lt (bt := bt) (s := s) i (fun j hj => (ha (s + j) (by omega) (by omega)).2)
      refine Or.inl ⟨(nI (codeF bt s (i + 1)), nI (exF bt s (i + 1)), nI (s + (i + 1))), ?_, rfl⟩
      unfold s_X7_next_68
      dsimp only
      rw [h1, hereT h (by omega), Option.bind_some, letX7 hb.1, if_pos hd, if_neg ne10, nI_sub (by omega) (by omega), show s + i - s = i by omega, Option.bind_some, Option.bind_some]
      have e3 : (if 6 ≤ nI i then some (nI (codeF bt s i)) else some (27 * nI (codeF bt s i) + nI (bt (s + i)) - 96) : Option Int32) = some (nI (codeF bt s (i + 1))) := by
        rw [codeF_s]
        by_cases c : 6 ≤ i
        · rw [if_pos (by rw [nlit, nle] <;> omega), if_pos c]
        · rw [if_neg (by rw [nlit, nle] <;> omega), if_neg c, m27, nI_add, show (96 : Int32) = nI 96 from rfl, nI_sub (by omega) (by omega), show 27 * codeF bt s i + bt (s + i) - 96 = 27 * codeF bt s i + (bt (s + i) - 96) by omega]
      have e4 : (if nI i = 6 then some (nI (bt (s + i)) - 96) else if nI i ≤ 6 then some (nI (exF bt s i)) else some 99 : Option Int32) = some (nI (exF bt s (i + 1))) := by
        rw [exF_s]
        by_cases c : i = 6
        · rw [if_pos (show nI i = 6 by rw [c]; rfl), if_pos c, show (96 : Int32) = nI 96 from rfl, nI_sub (by omega) (by omega)]
        · rw [if_neg (show ¬ nI i = 6 from fun q => c ((nI_eq (b := 6) (by omega) (by omega)).mp q)), if_neg c]
          by_cases c2 : i ≤ 6
          · rw [if_pos (by rw [nlit, nle] <;> omega), if_pos c2]
          · rw [if_neg (by rw [nlit, nle] <;> omega), if_neg c2]; rfl
      rw [e3, Option.bind_some, e4, Option.bind_some, nI_1]; rfl)
    (fun x a => by
      have e : s + (e - s) = e := by omega
      rw [e] at a
      subst a
      unfold s_X7_next_68
      dsimp only
      rcases Nat.eq_or_lt_of_le hq with k | k
      · rw [h1, hereU h (by omega) (by omega), Option.bind_some, letM, if_pos rfl]; exact ⟨_, rfl, rfl⟩
      · have hb := h.2 _ k
        rw [h1, hereT h k, Option.bind_some, letX7 hb.1, if_neg (he k), if_pos rfl]
        exact ⟨_, rfl, rfl⟩) (by omega) rfl
  rw [e1, e2]
/-- letters, in the class -/
theorem lets6 {n s e : Nat} {bt : Nat → Nat} {tb text : Nat → Int32} {tx : K3} {N : Nat} (hN : 400 < N) (h : txB n bt tb text) (h1 : tx.1 = nI n) (hp : s ≤ e) (hq : e ≤ n) (ha : ∀ j, s ≤ j → j < e → 97 ≤ bt j ∧ bt j ≤ 122) (he : e < n → ¬ (97 ≤ bt e ∧ bt e ≤ 122)) : xlp (s_X3_nextWord_0 tx tb) N (nI s) = some (nI e) := by
  have hn := h.1
  obtain ⟨v, e1, e2⟩ := xlp_rel (st := s_X3_nextWord_0 tx tb) (fun i v => v = nI (s + i)) (e - s) (fun v => v = nI e) (n := N) (x := nI s)
    (fun i x hi a => by
      subst a
      have hb := h.2 (s + i) (by omega)
      refine Or.inl ⟨nI (s + (i + 1)), ?_, rfl⟩
      unfold s_X3_nextWord_0
      rw [h1, if_neg (by rw [nle] <;> omega), if_pos (xin_n (by omega) (by omega)), nI_clamp (by omega), hb.2.1, letX6 hb.1, if_pos (ha (s + i) (by omega) (by omega)), if_neg ne10, nI_1]; rfl)
    (fun x a => by
      have e : s + (e - s) = e := by omega
      rw [e] at a
      subst a
      unfold s_X3_nextWord_0
      rw [h1]
      rcases Nat.eq_or_lt_of_le hq with k | k
      · rw [if_pos (by rw [nle] <;> omega)]; exact ⟨_, rfl, rfl⟩
      · have hb := h.2 _ k
        rw [if_neg (by rw [nle] <;> omega), if_pos (xin_n (by omega) (by omega)), nI_clamp (by omega), hb.2.1, letX6 hb.1, if_neg (he k), if_pos rfl]
        exact ⟨_, rfl, rfl⟩) (by omega) rfl
  rw [e1, e2]
/-- is it the word j? -/
def wdN (j : Nat) : List Nat := [[112, 117, 109, 112], [119, 101, 108, 108], [102, 108, 97, 112], [106, 111, 105, 110, 116], [108, 101, 97, 116, 104, 101, 114], [112, 108, 97, 99, 101]].getD j []
theorem xch_wd : ∀ j, j < 6 → ∀ i, i < xlen.getD j 0 → xch j (nI i) = nI ((wdN j).getD i 0) ∧ (wdN j).getD i 0 < 256 := by decide +kernel
def wdB (bt : Nat → Nat) (s j : Nat) : Nat → Bool
  | 0 => true
  | i + 1 => wdB bt s j i && decide (bt (s + i) = (wdN j).getD i 0)
theorem wdB_s (bt : Nat → Nat) (s j i : Nat) : wdB bt s j (i + 1) = (wdB bt s j i && decide (bt (s + i) = (wdN j).getD i 0)) := rfl
theorem wdB_F {bt : Nat → Nat} {s j : Nat} : ∀ {i k : Nat}, wdB bt s j i = false → wdB bt s j (i + k) = false
  | i, 0, h => h
  | i, k + 1, h => by rw [← Nat.add_assoc, wdB_s, wdB_F h]; rfl
def wdM (bt : Nat → Nat) (s L j : Nat) : Bool := decide (L = xlen.getD j 0) && wdB bt s j (xlen.getD j 0)
theorem tokIs6 {n s e j : Nat} {bt : Nat → Nat} {tb text : Nat → Int32} {tx : K3} {N : Nat} (hN : 400 < N) (h : txB n bt tb text) (h2 : tx.2.1 = nI e) (h3 : tx.2.2.1 = nI s) (hp : s ≤ e) (hq : e ≤ n) (hj : j < 6) : f_X3_tokenIs N tx tb j = some (if wdM bt s (e - s) j = true then 1 else 0) := by
  have hn := h.1
  have hl := xlen_lt j hj
  unfold f_X3_tokenIs wdM
  rw [h2, h3, nI_sub (by omega) (by omega)]
  by_cases c : e - s = xlen.getD j 0
  · rw [if_pos (by rw [c]), decide_eq_true c, Bool.true_and]
    obtain ⟨v, e1, e2⟩ := xlp_rel (st := s_X3_tokenIs_20 tx tb j) (fun i v => v = nI i ∧ wdB bt s j i = true) (xlen.getD j 0) (fun v => v = if wdB bt s j (xlen.getD j 0) = true then 1 else 0) (n := N) (x := 0)
      (fun i x hi ⟨a1, a2⟩ => by
        subst a1
        have hb := h.2 (s + i) (by omega)
        have hw := xch_wd j hj i hi
        unfold s_X3_tokenIs_20
        rw [if_neg (by rw [nle] <;> omega), h3, nI_add, if_pos (xin_n (by omega) (by omega)), if_pos (xin_n hi (by omega)), nI_clamp (by omega), hb.2.1, hw.1]
        by_cases k : bt (s + i) = (wdN j).getD i 0
        · rw [if_pos (by rw [k])]
          exact Or.inl ⟨nI i + 1, rfl, nI_1 i, by rw [wdB_s, a2, decide_eq_true k]; rfl⟩
        · rw [if_neg (fun q => k ((nIeq hb.1 hw.2).mp q))]
          refine Or.inr ⟨0, rfl, ?_⟩
          have f1 : wdB bt s j (i + 1) = false := by rw [wdB_s, decide_eq_false k, Bool.and_false]
          have f2 := wdB_F (k := xlen.getD j 0 - (i + 1)) f1
          rw [show i + 1 + (xlen.getD j 0 - (i + 1)) = xlen.getD j 0 by omega] at f2
          rw [f2]; rfl)
      (fun x ⟨a1, a2⟩ => by
        subst a1
        exact ⟨1, by unfold s_X3_tokenIs_20; exact if_pos (by rw [nle] <;> omega), by rw [a2]; rfl⟩) (by omega) ⟨rfl, rfl⟩
    rw [e1, e2]
  · rw [if_neg (fun q => c ((nI_eq (by omega) (by omega)).mp q)), decide_eq_false c]; rfl
