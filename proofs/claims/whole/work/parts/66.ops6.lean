/-! the steps, one by one -/
theorem n10 : (10 : Int32) = nI 10 := rfl
theorem ten_mul (q : Nat) : (10 : Int32) * nI q = nI (10 * q) := by rw [n10, pk_mul]
theorem iadd_sub (a b : Int32) : a + b - a = b := by rw [Int32.add_comm, Int32.add_sub_cancel]
theorem firstOfTwo_eq {y : K4} (o : K6) (sh : K0) {N a b n : Nat} (hN : 400 < N) (hy : VY y) (ha : a ≤ 9) (hb : b ≤ 9) (hn : n ≤ 24) : f_X6_firstOfTwo N o y sh (nI a) (nI b) (nI n) = some ((dayS y (10 * a) (10 * b) n).1, (dayS y (10 * a) (10 * b) n).2.2) := by
  obtain ⟨v, e1, e2, e3⟩ := xlp_rel (st := s_X6_firstOfTwo_13 N y (nI a) (nI b) (nI n)) (fun i v => v = ((dayS y (10 * a) (10 * b) i).1, nI i, (dayS y (10 * a) (10 * b) i).2.2)) n (fun v => v.1 = (dayS y (10 * a) (10 * b) n).1 ∧ v.2.2 = (dayS y (10 * a) (10 * b) n).2.2) (n := N) (x := (0, 0, full0))
    (fun i x hi a1 => by
      subst a1
      refine Or.inl ⟨((dayS y (10 * a) (10 * b) (i + 1)).1, nI (i + 1), (dayS y (10 * a) (10 * b) (i + 1)).2.2), ?_, rfl⟩
      have hv := dayS_VC hy (10 * a) (10 * b) i
      unfold s_X6_firstOfTwo_13
      show (if nI n ≤ nI i then _ else (f_X0_pull N (dayS y (10 * a) (10 * b) i).2.2 y (10 * nI a)).bind _) = _
      rw [ten_mul, ten_mul, if_neg (by rw [nle] <;> omega), pull_eq hy hv (by omega) (by omega), Option.bind_some, pull_eq hy (pullS_VC hy hv _) (by omega) (by omega), Option.bind_some, stand1_eq hy hN, Option.bind_some, dayS_s, ← nI_1])
    (fun x a1 => by
      subst a1
      exact ⟨((dayS y (10 * a) (10 * b) n).1, nI n, (dayS y (10 * a) (10 * b) n).2.2), by unfold s_X6_firstOfTwo_13; exact if_pos (by show nI n ≤ nI n; rw [nle] <;> omega), rfl, rfl⟩) (by omega) rfl
  unfold f_X6_firstOfTwo
  show (xlp (s_X6_firstOfTwo_13 N y (nI a) (nI b) (nI n)) N (0, 0, full0)).bind _ = _
  rw [e1, Option.bind_some, e2, e3]
set_option maxHeartbeats 4000000 in
theorem op_two {N : Nat} (hN : 400 < N) {u : CX} {w : CM} (hR : Rel u w) (a1 : Int32) (a2 : Int32) (a3 : Int32) (a4 : Int32) : ∃ (rx : Int32 × K0) (rm : Int32 × K7 × (Nat → Int32) × (Nat → Int32)), f_X6_two N u.1 u.2.2.2.1 u.2.2.2.2.2.2.2.2.2.2.2.2.2.2.2.2.2.2.2.2.2.1 a1 a2 a3 a4 = some rx ∧ f_X7_two N w.1 w.2.2.1 w.2.2.2.1 w.2.2.2.2.1 a1 a2 a3 a4 = some rm ∧ rx.1 = rm.1 ∧ Rel (u.1, u.2.1, u.2.2.1, u.2.2.2.1, u.2.2.2.2.1, u.2.2.2.2.2.1, u.2.2.2.2.2.2.1, u.2.2.2.2.2.2.2.1, u.2.2.2.2.2.2.2.2.1, u.2.2.2.2.2.2.2.2.2.1, u.2.2.2.2.2.2.2.2.2.2.1, u.2.2.2.2.2.2.2.2.2.2.2.1, u.2.2.2.2.2.2.2.2.2.2.2.2.1, u.2.2.2.2.2.2.2.2.2.2.2.2.2.1, u.2.2.2.2.2.2.2.2.2.2.2.2.2.2.1, u.2.2.2.2.2.2.2.2.2.2.2.2.2.2.2.1, u.2.2.2.2.2.2.2.2.2.2.2.2.2.2.2.2.1, u.2.2.2.2.2.2.2.2.2.2.2.2.2.2.2.2.2.1, u.2.2.2.2.2.2.2.2.2.2.2.2.2.2.2.2.2.2.1, u.2.2.2.2.2.2.2.2.2.2.2.2.2.2.2.2.2.2.2.1, u.2.2.2.2.2.2.2.2.2.2.2.2.2.2.2.2.2.2.2.2.1, rx.2, u.2.2.2.2.2.2.2.2.2.2.2.2.2.2.2.2.2.2.2.2.2.2.1, u.2.2.2.2.2.2.2.2.2.2.2.2.2.2.2.2.2.2.2.2.2.2.2.1, u.2.2.2.2.2.2.2.2.2.2.2.2.2.2.2.2.2.2.2.2.2.2.2.2) (rm.2.1, w.2.1, w.2.2.1, rm.2.2.1, rm.2.2.2, w.2.2.2.2.2.1, w.2.2.2.2.2.2.1, w.2.2.2.2.2.2.2.1, w.2.2.2.2.2.2.2.2.1, w.2.2.2.2.2.2.2.2.2.1, w.2.2.2.2.2.2.2.2.2.2.1, w.2.2.2.2.2.2.2.2.2.2.2.1, w.2.2.2.2.2.2.2.2.2.2.2.2.1, w.2.2.2.2.2.2.2.2.2.2.2.2.2.1, w.2.2.2.2.2.2.2.2.2.2.2.2.2.2.1, w.2.2.2.2.2.2.2.2.2.2.2.2.2.2.2.1, w.2.2.2.2.2.2.2.2.2.2.2.2.2.2.2.2.1, w.2.2.2.2.2.2.2.2.2.2.2.2.2.2.2.2.2.1, w.2.2.2.2.2.2.2.2.2.2.2.2.2.2.2.2.2.2) := by
  obtain ⟨h1, h2, ⟨hy, hp⟩, ⟨hc, ht⟩, h5, h6, h7, h8, h9, h10, h11⟩ := id hR
  by_cases ha : (0 : Int32).toInt ≤ a1.toInt ∧ a1.toInt ≤ (9 : Int32).toInt
  · by_cases hb : (0 : Int32).toInt ≤ a2.toInt ∧ a2.toInt ≤ (9 : Int32).toInt
    · by_cases hd : (1 : Int32).toInt ≤ a3.toInt ∧ a3.toInt ≤ (24 : Int32).toInt
      · by_cases he : (0 : Int32).toInt ≤ a4.toInt ∧ a4.toInt ≤ (1 : Int32).toInt
        · obtain ⟨a, qa, -, rfl⟩ := rng (n := 9) (by decide) (by decide) ha
          obtain ⟨b, qb, -, rfl⟩ := rng (n := 9) (by decide) (by decide) hb
          obtain ⟨n, hn, -, rfl⟩ := rng (n := 24) (by decide) (by decide) hd
          obtain ⟨p', t', e1⟩ := goDay_eq (a := 10 * a) (b := 10 * b) w.1 w.2.2.2.1 w.2.2.2.2.1 hN hp hy (by omega) (by omega) hn
          have dc := day_cups u.2.2.2.1 (10 * a) (10 * b) n
          by_cases k : a4 = 0
          · refine ⟨_, _, by unfold f_X6_two; rw [out0 ha, out0 hb, out0 hd, out0 he, if_pos rfl, if_pos rfl, if_pos rfl, if_pos rfl, firstOfTwo_eq _ _ hN hy qa qb hn, Option.bind_some, if_pos k], by unfold f_X7_two; rw [in1 ha, in1 hb, in1 hd, in1 he, if_neg ne10, if_neg ne10, if_neg ne10, if_neg ne10, ten_mul, ten_mul, e1, Option.bind_some, if_pos k], ?_, ?_⟩
            · rfl
            · exact mkRel h1 h2 ⟨hy, hp⟩ ⟨hc, ht⟩ h5 h6 h7 h8 h9 h10 h11
          · refine ⟨_, _, by unfold f_X6_two; rw [out0 ha, out0 hb, out0 hd, out0 he, if_pos rfl, if_pos rfl, if_pos rfl, if_pos rfl, firstOfTwo_eq _ _ hN hy qa qb hn, Option.bind_some, if_neg k], by unfold f_X7_two; rw [in1 ha, in1 hb, in1 hd, in1 he, if_neg ne10, if_neg ne10, if_neg ne10, if_neg ne10, ten_mul, ten_mul, e1, Option.bind_some, if_neg k], ?_, ?_⟩
            · show (dayS u.2.2.2.1 (10 * a) (10 * b) n).2.2.2.2.2.1 - (dayS u.2.2.2.1 (10 * a) (10 * b) n).1 = (dayS u.2.2.2.1 (10 * a) (10 * b) n).2.1
              rw [dc, iadd_sub]
            · exact mkRel h1 h2 ⟨hy, hp⟩ ⟨hc, ht⟩ h5 h6 h7 h8 h9 h10 h11
        · refine ⟨_, _, by unfold f_X6_two; rw [out0 ha, out0 hb, out0 hd, out1 he, if_pos rfl, if_pos rfl, if_pos rfl, if_neg ne10], by unfold f_X7_two; rw [in1 ha, in1 hb, in1 hd, in0 he, if_neg ne10, if_neg ne10, if_neg ne10, if_pos rfl], ?_, ?_⟩
          · rfl
          · exact mkRel h1 h2 ⟨hy, hp⟩ ⟨hc, ht⟩ h5 h6 h7 h8 h9 h10 h11
      · refine ⟨_, _, by unfold f_X6_two; rw [out0 ha, out0 hb, out1 hd, if_pos rfl, if_pos rfl, if_neg ne10], by unfold f_X7_two; rw [in1 ha, in1 hb, in0 hd, if_neg ne10, if_neg ne10, if_pos rfl], ?_, ?_⟩
        · rfl
        · exact mkRel h1 h2 ⟨hy, hp⟩ ⟨hc, ht⟩ h5 h6 h7 h8 h9 h10 h11
    · refine ⟨_, _, by unfold f_X6_two; rw [out0 ha, out1 hb, if_pos rfl, if_neg ne10], by unfold f_X7_two; rw [in1 ha, in0 hb, if_neg ne10, if_pos rfl], ?_, ?_⟩
      · rfl
      · exact mkRel h1 h2 ⟨hy, hp⟩ ⟨hc, ht⟩ h5 h6 h7 h8 h9 h10 h11
  · refine ⟨_, _, by unfold f_X6_two; rw [out1 ha, if_neg ne10], by unfold f_X7_two; rw [in0 ha, if_pos rfl], ?_, ?_⟩
    · rfl
    · exact mkRel h1 h2 ⟨hy, hp⟩ ⟨hc, ht⟩ h5 h6 h7 h8 h9 h10 h11
theorem div10 {i : Nat} (h : i < 100) : nI i / 10 = nI (i / 10) := by
  rw [n10, pk_div (by omega) (by omega) (by omega)]
theorem nI_sub {a b : Nat} (h : b ≤ a) (ha : a < 2 ^ 31) : nI a - nI b = nI (a - b) := by
  have h1 : (nI a).toInt = a := nI_toInt (by omega)
  have h2 : (nI b).toInt = b := nI_toInt (by omega)
  rw [zeq, zsub (by omega) (by omega), h1, h2, nI_toInt (by omega)]
  omega
theorem mod10 {i : Nat} (h : i < 100) : nI i - nI i / 10 * 10 = nI (i % 10) := by
  rw [div10 h, n10, pk_mul, nI_sub (by omega) (by omega)]
  congr 1
  omega
/-- a pair that neither would leave: by the first i of each -/
def restB (f g : Nat → Int32) (a b : Nat) : Nat → Bool
  | 0 => true
  | i + 1 => restB f g a b i && (decide (f (10 * i + b) ≤ f (10 * a + b)) && decide (g (10 * a + i) ≤ g (10 * a + b)))
theorem restB_s (f g : Nat → Int32) (a b i : Nat) : restB f g a b (i + 1) = (restB f g a b i && (decide (f (10 * i + b) ≤ f (10 * a + b)) && decide (g (10 * a + i) ≤ g (10 * a + b)))) := rfl
theorem restB_F {f g : Nat → Int32} {a b : Nat} : ∀ {i k : Nat}, restB f g a b i = false → restB f g a b (i + k) = false
  | i, 0, h => h
  | i, k + 1, h => by rw [← Nat.add_assoc, restB_s, restB_F h]; rfl
theorem isRestX6 (o : K6) (f g : Nat → Int32) {N k : Nat} (hN : 400 < N) (hk : k < 100) : f_X6_isRest N o f g (nI k) = some (if restB f g (k / 10) (k % 10) 10 = true then 1 else 0) := by
  have ek : 10 * (k / 10) + k % 10 = k := by omega
  obtain ⟨v, e1, e2⟩ := xlp_rel (st := s_X6_isRest_13 f g (nI k)) (fun i v => v = nI i ∧ restB f g (k / 10) (k % 10) i = true) 10 (fun v => v = (if restB f g (k / 10) (k % 10) 10 = true then 1 else 0)) (n := N) (x := 0)
    (fun i x hi ⟨a1, a2⟩ => by
      subst a1
      unfold s_X6_isRest_13
      have m1 : nI i * 10 + nI (k % 10) = nI (10 * i + k % 10) := by rw [n10, pk_mul, nI_add, Nat.mul_comm]
      have m2 : nI (k / 10) * 10 + nI i = nI (10 * (k / 10) + i) := by rw [n10, pk_mul, nI_add, Nat.mul_comm]
      rw [if_neg (by rw [nlit, nle] <;> omega), mod10 hk, div10 hk, m1, m2, if_pos (xin_n (by omega) (by omega)), if_pos (xin_n (by omega) (by omega)), if_pos (xin_n (by omega) (by omega)), nI_clamp (by omega), nI_clamp (by omega), nI_clamp (by omega)]
      have hs := restB_s f g (k / 10) (k % 10) i
      rw [ek, a2] at hs
      have fl : restB f g (k / 10) (k % 10) (i + 1) = false → restB f g (k / 10) (k % 10) 10 = false := fun h => by
        have := restB_F (k := 10 - (i + 1)) h
        rwa [show i + 1 + (10 - (i + 1)) = 10 by omega] at this
      by_cases c1 : f (10 * i + k % 10) ≤ f k
      · rw [if_pos c1]
        by_cases c2 : g (10 * (k / 10) + i) ≤ g k
        · rw [if_pos c2]
          refine Or.inl ⟨nI i + 1, rfl, nI_1 i, ?_⟩
          rw [hs, decide_eq_true c1, decide_eq_true c2]; rfl
        · rw [if_neg c2]
          refine Or.inr ⟨0, rfl, ?_⟩
          rw [fl (by rw [hs, decide_eq_true c1, decide_eq_false c2]; rfl)]; rfl
      · rw [if_neg c1]
        refine Or.inr ⟨0, rfl, ?_⟩
        rw [fl (by rw [hs, decide_eq_false c1]; rfl)]; rfl)
    (fun x ⟨a1, a2⟩ => by
      subst a1
      refine ⟨1, by unfold s_X6_isRest_13; exact if_pos (by rw [nlit, nle] <;> omega), ?_⟩
      rw [a2]; rfl) (by omega) ⟨rfl, rfl⟩
  unfold f_X6_isRest
  rw [e1, e2]
theorem isRestX7 (o : K7) (f g : Nat → Int32) {N a b : Nat} (hN : 400 < N) (ha : a < 10) (hb : b < 10) : f_X7_isRest N o f g (nI a) (nI b) = some (if restB f g a b 10 = true then 1 else 0) := by
  obtain ⟨v, e1, e2⟩ := xlp_rel (st := s_X7_isRest_5 f g (nI a) (nI b)) (fun i v => v.2 = nI i ∧ v.1 = (if restB f g a b i = true then 1 else 0)) 10 (fun v => v.1 = (if restB f g a b 10 = true then 1 else 0)) (n := N) (x := (1, 0))
    (fun i x hi ⟨a1, a2⟩ => by
      have m1 : (10 : Int32) * nI i + nI b = nI (10 * i + b) := by rw [ten_mul, nI_add]
      have m2 : (10 : Int32) * nI a + nI b = nI (10 * a + b) := by rw [ten_mul, nI_add]
      have m3 : (10 : Int32) * nI a + nI i = nI (10 * a + i) := by rw [ten_mul, nI_add]
      refine Or.inl ⟨((if restB f g a b (i + 1) = true then 1 else 0), nI (i + 1)), ?_, rfl, rfl⟩
      unfold s_X7_isRest_5
      rw [a1, a2, if_neg (by rw [nlit, nle] <;> omega), restB_s, nI_1]
      by_cases c0 : restB f g a b i = true
      · rw [c0, if_pos rfl, if_neg (by decide), m1, m2, m3, if_pos (xin_n (by omega) (by omega)), if_pos (xin_n (by omega) (by omega)), nI_clamp (by omega), nI_clamp (by omega)]
        by_cases c1 : f (10 * i + b) ≤ f (10 * a + b)
        · rw [if_neg (by rw [zlt]; rw [zle] at c1; omega), if_pos (xin_n (by omega) (by omega)), nI_clamp (by omega)]
          by_cases c2 : g (10 * a + i) ≤ g (10 * a + b)
          · rw [if_neg (by rw [zlt]; rw [zle] at c2; omega), decide_eq_true c1, decide_eq_true c2]; rfl
          · rw [if_pos (by rw [zlt]; rw [zle] at c2; omega), decide_eq_true c1, decide_eq_false c2]; rfl
        · rw [if_pos (by rw [zlt]; rw [zle] at c1; omega), decide_eq_false c1]; rfl
      · rw [Bool.not_eq_true] at c0
        rw [c0]; rfl)
    (fun x ⟨a1, a2⟩ => ⟨x, by unfold s_X7_isRest_5; rw [a1, if_pos (by rw [nlit, nle] <;> omega), ← a1], a2⟩) (by omega) ⟨rfl, rfl⟩
  unfold f_X7_isRest
  rw [e1, Option.bind_some, e2]
/-- how many, and the first -/
def rstF (f g : Nat → Int32) : Nat → Int32 × Int32
  | 0 => (0, -9)
  | i + 1 => if restB f g (i / 10) (i % 10) 10 = true then ((rstF f g i).1 + 1, if (rstF f g i).1 = 0 then nI i else (rstF f g i).2) else rstF f g i
theorem rstF_s (f g : Nat → Int32) (i : Nat) : rstF f g (i + 1) = if restB f g (i / 10) (i % 10) 10 = true then ((rstF f g i).1 + 1, if (rstF f g i).1 = 0 then nI i else (rstF f g i).2) else rstF f g i := rfl
theorem restB_congr {f g f' g' : Nat → Int32} {a b : Nat} (ha : a < 10) (hb : b < 10) (hf : ∀ j, j < 100 → f j = f' j) (hg : ∀ j, j < 100 → g j = g' j) : ∀ i, i ≤ 10 → restB f g a b i = restB f' g' a b i
  | 0, _ => rfl
  | i + 1, h => by rw [restB_s, restB_s, restB_congr ha hb hf hg i (by omega), hf _ (by omega), hf _ (by omega), hg _ (by omega), hg _ (by omega)]
theorem rstF_congr {f g f' g' : Nat → Int32} (hf : ∀ j, j < 100 → f j = f' j) (hg : ∀ j, j < 100 → g j = g' j) : ∀ i, i ≤ 100 → rstF f g i = rstF f' g' i
  | 0, _ => rfl
  | i + 1, h => by rw [rstF_s, rstF_s, rstF_congr hf hg i (by omega), restB_congr (by omega) (by omega) hf hg 10 (by omega)]
theorem restsX6 (o : K6) (r : K0 × (Nat → Int32) × (Nat → Int32)) {N : Nat} (hN : 400 < N) : ∃ v, xlp (s_X6_rests_35 N o r) N (0, -9, 0) = some v ∧ v.1 = (rstF r.2.1 r.2.2 100).1 ∧ v.2.1 = (rstF r.2.1 r.2.2 100).2 :=
  xlp_rel (st := s_X6_rests_35 N o r) (fun i v => v.1 = (rstF r.2.1 r.2.2 i).1 ∧ v.2.1 = (rstF r.2.1 r.2.2 i).2 ∧ v.2.2 = nI i) 100 (fun v => v.1 = (rstF r.2.1 r.2.2 100).1 ∧ v.2.1 = (rstF r.2.1 r.2.2 100).2) (n := N) (x := (0, -9, 0))
    (fun i x hi ⟨a1, a2, a3⟩ => by
      refine Or.inl ⟨((rstF r.2.1 r.2.2 (i + 1)).1, (rstF r.2.1 r.2.2 (i + 1)).2, nI (i + 1)), ?_, rfl, rfl, rfl⟩
      unfold s_X6_rests_35
      rw [a3, if_neg (by rw [nlit, nle] <;> omega), isRestX6 o _ _ hN hi, Option.bind_some, rstF_s, a1, a2, nI_1]
      by_cases c0 : restB r.2.1 r.2.2 (i / 10) (i % 10) 10 = true
      · rw [if_pos c0, if_neg ne10, if_pos c0]
        by_cases c1 : (rstF r.2.1 r.2.2 i).1 = 0
        · rw [if_pos c1, if_pos c1]
        · rw [if_neg c1, if_neg c1]
      · rw [if_neg c0, if_pos rfl, if_neg c0])
    (fun x ⟨a1, a2, a3⟩ => ⟨x, by unfold s_X6_rests_35; rw [a3, if_pos (by rw [nlit, nle] <;> omega), ← a3], a1, a2⟩) (by omega) ⟨rfl, rfl, rfl⟩
theorem restsX7 (v7 : Int32 × K7 × (Nat → Int32) × (Nat → Int32) × (Nat → Int32) × (Nat → Int32)) {N : Nat} (hN : 400 < N) : ∃ v, xlp (s_X7_rests_83 N v7) N (0, -9, 0) = some v ∧ v.1 = (rstF v7.2.2.2.2.1 v7.2.2.2.2.2 100).1 ∧ v.2.1 = (rstF v7.2.2.2.2.1 v7.2.2.2.2.2 100).2 :=
  xlp_rel (st := s_X7_rests_83 N v7) (fun i v => v.1 = (rstF v7.2.2.2.2.1 v7.2.2.2.2.2 i).1 ∧ v.2.1 = (rstF v7.2.2.2.2.1 v7.2.2.2.2.2 i).2 ∧ v.2.2 = nI i) 100 (fun v => v.1 = (rstF v7.2.2.2.2.1 v7.2.2.2.2.2 100).1 ∧ v.2.1 = (rstF v7.2.2.2.2.1 v7.2.2.2.2.2 100).2) (n := N) (x := (0, -9, 0))
    (fun i x hi ⟨a1, a2, a3⟩ => by
      refine Or.inl ⟨((rstF v7.2.2.2.2.1 v7.2.2.2.2.2 (i + 1)).1, (rstF v7.2.2.2.2.1 v7.2.2.2.2.2 (i + 1)).2, nI (i + 1)), ?_, rfl, rfl, rfl⟩
      unfold s_X7_rests_83
      rw [a3, if_neg (by rw [nlit, nle] <;> omega), mod10 hi, div10 hi, isRestX7 _ _ _ hN (by omega) (by omega), Option.bind_some, rstF_s, a1, a2, nI_1]
      by_cases c0 : restB v7.2.2.2.2.1 v7.2.2.2.2.2 (i / 10) (i % 10) 10 = true
      · rw [if_pos c0, if_neg ne10, if_pos c0]
        by_cases c1 : (rstF v7.2.2.2.2.1 v7.2.2.2.2.2 i).1 = 0
        · rw [if_pos c1, if_pos c1]
        · rw [if_neg c1, if_neg c1]
      · rw [if_neg c0, if_pos rfl, if_neg c0])
    (fun x ⟨a1, a2, a3⟩ => ⟨x, by unfold s_X7_rests_83; rw [a3, if_pos (by rw [nlit, nle] <;> omega), ← a3], a1, a2⟩) (by omega) ⟨rfl, rfl, rfl⟩
set_option maxHeartbeats 4000000 in
theorem op_rests {N : Nat} (hN : 400 < N) {u : CX} {w : CM} (hR : Rel u w) (a1 : Int32) (a2 : Int32) : ∃ (rx : Int32 × K0 × (Nat → Int32) × (Nat → Int32)) (rm : Int32 × K7 × (Nat → Int32) × (Nat → Int32) × (Nat → Int32) × (Nat → Int32)), f_X6_rests N u.1 u.2.2.2.1 u.2.2.2.2.2.2.2.2.2.2.2.2.2.2.2.2.2.2.2.2.2.1 u.2.2.2.2.2.2.2.2.2.2.2.2.2.2.2.2.2.2.2.2.2.2.2.1 u.2.2.2.2.2.2.2.2.2.2.2.2.2.2.2.2.2.2.2.2.2.2.2.2 a1 a2 = some rx ∧ f_X7_rests N w.1 w.2.2.1 w.2.2.2.1 w.2.2.2.2.1 w.2.2.2.2.2.2.2.2.2.2.2.2.1 w.2.2.2.2.2.2.2.2.2.2.2.2.2.1 a1 a2 = some rm ∧ rx.1 = rm.1 ∧ Rel (u.1, u.2.1, u.2.2.1, u.2.2.2.1, u.2.2.2.2.1, u.2.2.2.2.2.1, u.2.2.2.2.2.2.1, u.2.2.2.2.2.2.2.1, u.2.2.2.2.2.2.2.2.1, u.2.2.2.2.2.2.2.2.2.1, u.2.2.2.2.2.2.2.2.2.2.1, u.2.2.2.2.2.2.2.2.2.2.2.1, u.2.2.2.2.2.2.2.2.2.2.2.2.1, u.2.2.2.2.2.2.2.2.2.2.2.2.2.1, u.2.2.2.2.2.2.2.2.2.2.2.2.2.2.1, u.2.2.2.2.2.2.2.2.2.2.2.2.2.2.2.1, u.2.2.2.2.2.2.2.2.2.2.2.2.2.2.2.2.1, u.2.2.2.2.2.2.2.2.2.2.2.2.2.2.2.2.2.1, u.2.2.2.2.2.2.2.2.2.2.2.2.2.2.2.2.2.2.1, u.2.2.2.2.2.2.2.2.2.2.2.2.2.2.2.2.2.2.2.1, u.2.2.2.2.2.2.2.2.2.2.2.2.2.2.2.2.2.2.2.2.1, rx.2.1, u.2.2.2.2.2.2.2.2.2.2.2.2.2.2.2.2.2.2.2.2.2.2.1, rx.2.2.1, rx.2.2.2) (rm.2.1, w.2.1, w.2.2.1, rm.2.2.1, rm.2.2.2.1, w.2.2.2.2.2.1, w.2.2.2.2.2.2.1, w.2.2.2.2.2.2.2.1, w.2.2.2.2.2.2.2.2.1, w.2.2.2.2.2.2.2.2.2.1, w.2.2.2.2.2.2.2.2.2.2.1, w.2.2.2.2.2.2.2.2.2.2.2.1, rm.2.2.2.2.1, rm.2.2.2.2.2, w.2.2.2.2.2.2.2.2.2.2.2.2.2.2.1, w.2.2.2.2.2.2.2.2.2.2.2.2.2.2.2.1, w.2.2.2.2.2.2.2.2.2.2.2.2.2.2.2.2.1, w.2.2.2.2.2.2.2.2.2.2.2.2.2.2.2.2.2.1, w.2.2.2.2.2.2.2.2.2.2.2.2.2.2.2.2.2.2) := by
  obtain ⟨h1, h2, ⟨hy, hp⟩, ⟨hc, ht⟩, h5, h6, h7, h8, h9, h10, h11⟩ := id hR
  by_cases ha : (1 : Int32).toInt ≤ a1.toInt ∧ a1.toInt ≤ (24 : Int32).toInt
  · by_cases hb : (0 : Int32).toInt ≤ a2.toInt ∧ a2.toInt ≤ (1 : Int32).toInt
    · obtain ⟨n, hn, -, rfl⟩ := rng (n := 24) (by decide) (by decide) ha
      obtain ⟨v, c1, c2, c3⟩ := xlp_rel (st := s_X6_pumpAllPairs_2 N u.1 u.2.2.2.1 (nI n)) (fun i v => v.1 = nI i ∧ (∀ j, j < i → v.2.2.1 j = (dayS u.2.2.2.1 (10 * (j / 10)) (10 * (j % 10)) n).1) ∧ ∀ j, j < i → v.2.2.2 j = (dayS u.2.2.2.1 (10 * (j / 10)) (10 * (j % 10)) n).2.1) 100 (fun v => (∀ j, j < 100 → v.2.2.1 j = (dayS u.2.2.2.1 (10 * (j / 10)) (10 * (j % 10)) n).1) ∧ ∀ j, j < 100 → v.2.2.2 j = (dayS u.2.2.2.1 (10 * (j / 10)) (10 * (j % 10)) n).2.1) (n := N) (x := (0, u.2.2.2.2.2.2.2.2.2.2.2.2.2.2.2.2.2.2.2.2.2.1, u.2.2.2.2.2.2.2.2.2.2.2.2.2.2.2.2.2.2.2.2.2.2.2.1, u.2.2.2.2.2.2.2.2.2.2.2.2.2.2.2.2.2.2.2.2.2.2.2.2))
        (fun i x hi ⟨b1, b2, b3⟩ => by
          refine Or.inl ⟨(nI (i + 1), (dayS u.2.2.2.1 (10 * (i / 10)) (10 * (i % 10)) n).2.2, upd x.2.2.1 i (dayS u.2.2.2.1 (10 * (i / 10)) (10 * (i % 10)) n).1, upd x.2.2.2 i (dayS u.2.2.2.1 (10 * (i / 10)) (10 * (i % 10)) n).2.1), ?_, rfl, fun j hj => ?_, fun j hj => ?_⟩
          · unfold s_X6_pumpAllPairs_2
            rw [b1, if_neg (by rw [nlit, nle] <;> omega), mod10 hi, div10 hi, firstOfTwo_eq _ _ hN hy (by omega) (by omega) hn, Option.bind_some, if_pos (xin_n (by omega) (by omega)), nI_clamp (by omega), day_cups, iadd_sub, nI_1]
          · show upd x.2.2.1 i _ j = _
            unfold upd
            split
            · rename_i e; rw [e]
            · exact b2 j (by omega)
          · show upd x.2.2.2 i _ j = _
            unfold upd
            split
            · rename_i e; rw [e]
            · exact b3 j (by omega))
        (fun x ⟨b1, b2, b3⟩ => ⟨x, by unfold s_X6_pumpAllPairs_2; rw [b1, if_pos (by rw [nlit, nle] <;> omega), ← b1], b2, b3⟩) (by omega) ⟨rfl, fun j hj => by omega, fun j hj => by omega⟩
      obtain ⟨v', d1, ⟨d2, d3⟩, q1, q2, d4⟩ := xlp_rel (st := s_X7_rests_23 N w.2.2.1 (nI n)) (fun i v => v.1 = nI i ∧ ((∀ j, j < i → v.2.2.2.2.1 j = (dayS u.2.2.2.1 (10 * (j / 10)) (10 * (j % 10)) n).1) ∧ ∀ j, j < i → v.2.2.2.2.2 j = (dayS u.2.2.2.1 (10 * (j / 10)) (10 * (j % 10)) n).2.1) ∧ ∃ q1 q2, v.2.1 = (w.1.1, w.1.2.1, w.1.2.2.1, w.1.2.2.2.1, w.1.2.2.2.2.1, w.1.2.2.2.2.2.1, w.1.2.2.2.2.2.2.1, w.1.2.2.2.2.2.2.2.1, q1, q2, w.1.2.2.2.2.2.2.2.2.2.2.1, w.1.2.2.2.2.2.2.2.2.2.2.2)) 100 (fun v => ((∀ j, j < 100 → v.2.2.2.2.1 j = (dayS u.2.2.2.1 (10 * (j / 10)) (10 * (j % 10)) n).1) ∧ ∀ j, j < 100 → v.2.2.2.2.2 j = (dayS u.2.2.2.1 (10 * (j / 10)) (10 * (j % 10)) n).2.1) ∧ ∃ q1 q2, v.2.1 = (w.1.1, w.1.2.1, w.1.2.2.1, w.1.2.2.2.1, w.1.2.2.2.2.1, w.1.2.2.2.2.2.1, w.1.2.2.2.2.2.2.1, w.1.2.2.2.2.2.2.2.1, q1, q2, w.1.2.2.2.2.2.2.2.2.2.2.1, w.1.2.2.2.2.2.2.2.2.2.2.2)) (n := N) (x := (0, w.1, w.2.2.2.1, w.2.2.2.2.1, w.2.2.2.2.2.2.2.2.2.2.2.2.1, w.2.2.2.2.2.2.2.2.2.2.2.2.2.1))
        (fun i x hi ⟨b1, ⟨b2, b3⟩, q1, q2, b4⟩ => by
          obtain ⟨p', t', e1⟩ := goDay_eq (N := N) (a := 10 * (i / 10)) (b := 10 * (i % 10)) x.2.1 x.2.2.1 x.2.2.2.1 hN hp hy (by omega) (by omega) hn
          rw [b4] at e1
          refine Or.inl ⟨(nI (i + 1), (w.1.1, w.1.2.1, w.1.2.2.1, w.1.2.2.2.1, w.1.2.2.2.2.1, w.1.2.2.2.2.2.1, w.1.2.2.2.2.2.2.1, w.1.2.2.2.2.2.2.2.1, (dayS u.2.2.2.1 (10 * (i / 10)) (10 * (i % 10)) n).1, (dayS u.2.2.2.1 (10 * (i / 10)) (10 * (i % 10)) n).2.1, w.1.2.2.2.2.2.2.2.2.2.2.1, w.1.2.2.2.2.2.2.2.2.2.2.2), p', t', upd x.2.2.2.2.1 i (dayS u.2.2.2.1 (10 * (i / 10)) (10 * (i % 10)) n).1, upd x.2.2.2.2.2 i (dayS u.2.2.2.1 (10 * (i / 10)) (10 * (i % 10)) n).2.1), ?_, rfl, ⟨fun j hj => ?_, fun j hj => ?_⟩, _, _, rfl⟩
          · unfold s_X7_rests_23
            rw [b1, if_neg (by rw [nlit, nle] <;> omega), mod10 hi, div10 hi, ten_mul, ten_mul, b4, e1, Option.bind_some, if_pos (xin_n (by omega) (by omega)), nI_clamp (by omega), nI_1]
          · show upd x.2.2.2.2.1 i _ j = _
            unfold upd
            split
            · rename_i e; rw [e]
            · exact b2 j (by omega)
          · show upd x.2.2.2.2.2 i _ j = _
            unfold upd
            split
            · rename_i e; rw [e]
            · exact b3 j (by omega))
        (fun x ⟨b1, b2, b3⟩ => ⟨x, by unfold s_X7_rests_23; rw [b1, if_pos (by rw [nlit, nle] <;> omega), ← b1], b2, b3⟩) (by omega) ⟨rfl, ⟨fun j hj => by omega, fun j hj => by omega⟩, _, _, rfl⟩
      obtain ⟨s, f1, f2, f3⟩ := restsX6 u.1 (v.2.1, v.2.2.1, v.2.2.2) hN
      obtain ⟨s', f4, f5, f6⟩ := restsX7 v' hN
      have ec : rstF v.2.2.1 v.2.2.2 100 = rstF v'.2.2.2.2.1 v'.2.2.2.2.2 100 := rstF_congr (fun j hj => (c2 j hj).trans (d2 j hj).symm) (fun j hj => (c3 j hj).trans (d3 j hj).symm) 100 (by omega)
      have g1 : s.1 = s'.1 := by rw [f2, f5]; exact congrArg Prod.fst ec
      have g2 : s.2.1 = s'.2.1 := by rw [f3, f6]; exact congrArg Prod.snd ec
      have fin : ∀ (r : Int32) (wf : K7), wf = v'.2.1 → Rel (u.1, u.2.1, u.2.2.1, u.2.2.2.1, u.2.2.2.2.1, u.2.2.2.2.2.1, u.2.2.2.2.2.2.1, u.2.2.2.2.2.2.2.1, u.2.2.2.2.2.2.2.2.1, u.2.2.2.2.2.2.2.2.2.1, u.2.2.2.2.2.2.2.2.2.2.1, u.2.2.2.2.2.2.2.2.2.2.2.1, u.2.2.2.2.2.2.2.2.2.2.2.2.1, u.2.2.2.2.2.2.2.2.2.2.2.2.2.1, u.2.2.2.2.2.2.2.2.2.2.2.2.2.2.1, u.2.2.2.2.2.2.2.2.2.2.2.2.2.2.2.1, u.2.2.2.2.2.2.2.2.2.2.2.2.2.2.2.2.1, u.2.2.2.2.2.2.2.2.2.2.2.2.2.2.2.2.2.1, u.2.2.2.2.2.2.2.2.2.2.2.2.2.2.2.2.2.2.1, u.2.2.2.2.2.2.2.2.2.2.2.2.2.2.2.2.2.2.2.1, u.2.2.2.2.2.2.2.2.2.2.2.2.2.2.2.2.2.2.2.2.1, v.2.1, u.2.2.2.2.2.2.2.2.2.2.2.2.2.2.2.2.2.2.2.2.2.2.1, v.2.2.1, v.2.2.2) (wf, w.2.1, w.2.2.1, v'.2.2.1, v'.2.2.2.1, w.2.2.2.2.2.1, w.2.2.2.2.2.2.1, w.2.2.2.2.2.2.2.1, w.2.2.2.2.2.2.2.2.1, w.2.2.2.2.2.2.2.2.2.1, w.2.2.2.2.2.2.2.2.2.2.1, w.2.2.2.2.2.2.2.2.2.2.2.1, v'.2.2.2.2.1, v'.2.2.2.2.2, w.2.2.2.2.2.2.2.2.2.2.2.2.2.2.1, w.2.2.2.2.2.2.2.2.2.2.2.2.2.2.2.1, w.2.2.2.2.2.2.2.2.2.2.2.2.2.2.2.2.1, w.2.2.2.2.2.2.2.2.2.2.2.2.2.2.2.2.2.1, w.2.2.2.2.2.2.2.2.2.2.2.2.2.2.2.2.2.2) := fun r wf e => by
        rw [e, d4]
        exact mkRel h1 h2 ⟨hy, hp⟩ ⟨hc, ht⟩ h5 h6 h7 h8 h9 h10 h11
      have p6 : f_X6_pumpAllPairs N u.1 u.2.2.2.1 u.2.2.2.2.2.2.2.2.2.2.2.2.2.2.2.2.2.2.2.2.2.1 u.2.2.2.2.2.2.2.2.2.2.2.2.2.2.2.2.2.2.2.2.2.2.2.1 u.2.2.2.2.2.2.2.2.2.2.2.2.2.2.2.2.2.2.2.2.2.2.2.2 (nI n) = some (v.2.1, v.2.2.1, v.2.2.2) := by
        unfold f_X6_pumpAllPairs; rw [c1]; rfl
      by_cases k : a2 = 0
      · refine ⟨_, _, by unfold f_X6_rests; rw [out0 ha, out0 hb, if_pos rfl, if_pos rfl, p6, Option.bind_some, f1, Option.bind_some, if_pos k], by unfold f_X7_rests; rw [in1 ha, in1 hb, if_neg ne10, if_neg ne10, d1, Option.bind_some, f4, Option.bind_some, if_pos k], ?_, ?_⟩
        · exact g1
        · exact fin 0 _ rfl
      · refine ⟨_, _, by unfold f_X6_rests; rw [out0 ha, out0 hb, if_pos rfl, if_pos rfl, p6, Option.bind_some, f1, Option.bind_some, if_neg k], by unfold f_X7_rests; rw [in1 ha, in1 hb, if_neg ne10, if_neg ne10, d1, Option.bind_some, f4, Option.bind_some, if_neg k], ?_, ?_⟩
        · exact g2
        · exact fin 0 _ rfl
    · refine ⟨_, _, by unfold f_X6_rests; rw [out0 ha, out1 hb, if_pos rfl, if_neg ne10], by unfold f_X7_rests; rw [in1 ha, in0 hb, if_neg ne10, if_pos rfl], ?_, ?_⟩
      · rfl
      · exact mkRel h1 h2 ⟨hy, hp⟩ ⟨hc, ht⟩ h5 h6 h7 h8 h9 h10 h11
  · refine ⟨_, _, by unfold f_X6_rests; rw [out1 ha, if_neg ne10], by unfold f_X7_rests; rw [in0 ha, if_pos rfl], ?_, ?_⟩
    · rfl
    · exact mkRel h1 h2 ⟨hy, hp⟩ ⟨hc, ht⟩ h5 h6 h7 h8 h9 h10 h11
