/-! the steps, one by one -/
def S1 (f : Nat → Nat) : Nat → Nat
  | 0 => 0
  | i + 1 => S1 f i + f i
theorem S1_s (f : Nat → Nat) (i : Nat) : S1 f (i + 1) = S1 f i + f i := rfl
theorem S1_le {f : Nat → Nat} {B : Nat} : ∀ n, (∀ j, j < n → f j ≤ B) → S1 f n ≤ n * B
  | 0, _ => Nat.zero_le _
  | n + 1, h => by
    have ih := S1_le n (fun j hj => h j (by omega))
    have h1 := h n (by omega)
    rw [S1_s, Nat.add_mul, Nat.one_mul]
    omega
theorem two_sq (x t : Nat) : 2 * (t * x) ≤ x * x + t * t := by
  rcases Nat.le_total x t with h | h
  · obtain ⟨d, rfl⟩ := Nat.exists_eq_add_of_le h
    have e1 : (x + d) * x = x * x + d * x := Nat.add_mul _ _ _
    have e2 : (x + d) * (x + d) = x * x + d * x + (x * d + d * d) := by rw [Nat.mul_add, Nat.add_mul, Nat.add_mul]
    rw [e1, e2, Nat.mul_comm x d]
    omega
  · obtain ⟨d, rfl⟩ := Nat.exists_eq_add_of_le h
    have e1 : t * (t + d) = t * t + t * d := Nat.mul_add _ _ _
    have e2 : (t + d) * (t + d) = t * t + d * t + (t * d + d * d) := by rw [Nat.mul_add, Nat.add_mul, Nat.add_mul]
    rw [e1, e2, Nat.mul_comm d t]
    omega
theorem sqS (f : Nat → Nat) (t : Nat) : ∀ i, 2 * (t * S1 f i) ≤ S1 (fun j => f j * f j) i + i * (t * t)
  | 0 => by simp [S1]
  | i + 1 => by
    have ih := sqS f t i
    have h := two_sq (f i) t
    have e1 : t * (S1 f i + f i) = t * S1 f i + t * f i := Nat.mul_add _ _ _
    have e2 : (i + 1) * (t * t) = i * (t * t) + t * t := by rw [Nat.add_mul, Nat.one_mul]
    show 2 * (t * (S1 f i + f i)) ≤ (S1 (fun j => f j * f j) i + f i * f i) + (i + 1) * (t * t)
    rw [e1, e2]
    omega
theorem cauchy (f : Nat → Nat) : ∀ i, S1 f i * S1 f i ≤ i * S1 (fun j => f j * f j) i
  | 0 => by simp [S1]
  | i + 1 => by
    have ih := cauchy f i
    have h := sqS f (f i) i
    have e1 : (S1 f i + f i) * (S1 f i + f i) = S1 f i * S1 f i + 2 * (f i * S1 f i) + f i * f i := by
      rw [Nat.add_mul, Nat.mul_add, Nat.mul_add, Nat.mul_comm (S1 f i) (f i)]; omega
    have e2 : (i + 1) * (S1 (fun j => f j * f j) i + f i * f i) = i * S1 (fun j => f j * f j) i + i * (f i * f i) + S1 (fun j => f j * f j) i + f i * f i := by
      rw [Nat.add_mul, Nat.mul_add, Nat.one_mul]; omega
    show (S1 f i + f i) * (S1 f i + f i) ≤ (i + 1) * (S1 (fun j => f j * f j) i + f i * f i)
    rw [e1, e2]
    omega
theorem LI_add {a b : Nat} (h : a + b < 9223372036854775808) : LI a + LI b = LI (a + b) := by
  refine LI_ext h ?_
  rw [ladd] <;> rw [LIi (by omega), LIi (by omega)] <;> omega
theorem LI_mul {a b : Nat} (h : a * b < 9223372036854775808) (ha : a < 9223372036854775808) (hb : b < 9223372036854775808) : LI a * LI b = LI (a * b) := by
  have hc : (a : Int) * (b : Int) = ((a * b : Nat) : Int) := (Int.natCast_mul _ _).symm
  refine LI_ext h ?_
  rw [lmul] <;> rw [LIi ha, LIi hb, hc] <;> omega
theorem mulB {x y : Int} {M K : Nat} (hx : x.natAbs ≤ M) (hy : y.natAbs ≤ K) : (x * y).natAbs ≤ M * K := by
  rw [Int.natAbs_mul]; exact Nat.mul_le_mul hx hy
set_option maxHeartbeats 4000000 in
theorem op_ahead {N : Nat} (hN : 400 < N) {u : CX} {w : CM} (hR : Rel u w) (a1 : Int32) (a2 : Int32) : ∃ (rx : Int64) (rm : Int64), f_X6_ahead N u.1 u.2.2.2.2.2.2.2.2.2.2.2.2.2.2.2.2.2.1 u.2.2.2.2.2.2.2.2.2.2.2.2.2.2.2.2.2.2.1 u.2.2.2.2.2.2.2.2.2.2.2.2.2.2.2.2.2.2.2.1 a1 a2 = some rx ∧ f_X7_ahead N w.1 w.2.2.2.2.2.2.2.2.2.2.2.2.2.2.2.2.2.1 w.2.2.2.2.2.2.2.2.2.2.2.2.2.2.2.2.2.2 a1 a2 = some rm ∧ rx = rm ∧ Rel u w := by
  obtain ⟨h1, h2, h3, h4, h5, h6, h7, h8, h9, h10, ⟨n, hn, t1, t2, t3⟩⟩ := id hR
  by_cases ha : (0 : Int32).toInt ≤ a1.toInt ∧ a1.toInt ≤ (999 : Int32).toInt
  · by_cases hb : (0 : Int32).toInt ≤ a2.toInt ∧ a2.toInt ≤ (3 : Int32).toInt
    · obtain ⟨t, ht, -, rfl⟩ := rng (n := 999) (by decide) (by decide) ha
      obtain ⟨q, hq, -, rfl⟩ := rng (n := 3) (by decide) (by decide) hb
      obtain ⟨fx, hfx⟩ : ∃ fx : Nat → Nat, fx = fun j => (u.2.2.2.2.2.2.2.2.2.2.2.2.2.2.2.2.2.2.1 j).toInt.toNat := ⟨_, rfl⟩
      obtain ⟨fz, hfz⟩ : ∃ fz : Nat → Nat, fz = fun j => (u.2.2.2.2.2.2.2.2.2.2.2.2.2.2.2.2.2.2.2.1 j).toInt.toNat := ⟨_, rfl⟩
      have fxb : ∀ j, j < n → u.2.2.2.2.2.2.2.2.2.2.2.2.2.2.2.2.2.2.1 j = nI (fx j) ∧ fx j ≤ 999 := fun j hj => by
        obtain ⟨-, -, ⟨a, ha, e⟩, -⟩ := t3 j hj
        have : fx j = a := by rw [hfx]; show (u.2.2.2.2.2.2.2.2.2.2.2.2.2.2.2.2.2.2.1 j).toInt.toNat = a; rw [e, nI_toInt (by omega)]; omega
        rw [this]; exact ⟨e, ha⟩
      have fzb : ∀ j, j < n → u.2.2.2.2.2.2.2.2.2.2.2.2.2.2.2.2.2.2.2.1 j = nI (fz j) ∧ fz j ≤ 999 := fun j hj => by
        obtain ⟨-, -, -, ⟨a, ha, e⟩⟩ := t3 j hj
        have : fz j = a := by rw [hfz]; show (u.2.2.2.2.2.2.2.2.2.2.2.2.2.2.2.2.2.2.2.1 j).toInt.toNat = a; rw [e, nI_toInt (by omega)]; omega
        rw [this]; exact ⟨e, ha⟩
      have gxb : ∀ j, j < n → w.2.2.2.2.2.2.2.2.2.2.2.2.2.2.2.2.2.1 j = nI (fx j) := fun j hj => by rw [← (t3 j hj).1]; exact (fxb j hj).1
      have gzb : ∀ j, j < n → w.2.2.2.2.2.2.2.2.2.2.2.2.2.2.2.2.2.2 j = nI (fz j) := fun j hj => by rw [← (t3 j hj).2.1]; exact (fzb j hj).1
      have pxx : ∀ j, j < n → fx j * fx j ≤ 998001 := fun j hj => Nat.mul_le_mul (fxb j hj).2 (fxb j hj).2
      have pxz : ∀ j, j < n → fx j * fz j ≤ 998001 := fun j hj => Nat.mul_le_mul (fxb j hj).2 (fzb j hj).2
      have bX : ∀ i, i ≤ n → S1 fx i ≤ i * 999 := fun i hi => S1_le i (fun j hj => (fxb j (by omega)).2)
      have bZ : ∀ i, i ≤ n → S1 fz i ≤ i * 999 := fun i hi => S1_le i (fun j hj => (fzb j (by omega)).2)
      have bXX : ∀ i, i ≤ n → S1 (fun j => fx j * fx j) i ≤ i * 998001 := fun i hi => S1_le i (fun j hj => pxx j (by omega))
      have bXZ : ∀ i, i ≤ n → S1 (fun j => fx j * fz j) i ≤ i * 998001 := fun i hi => S1_le i (fun j hj => pxz j (by omega))
      obtain ⟨v, c1, c2, c3, c4, c5⟩ := xlp_rel (st := s_X5_look_14 (nI n) u.2.2.2.2.2.2.2.2.2.2.2.2.2.2.2.2.2.2.1 u.2.2.2.2.2.2.2.2.2.2.2.2.2.2.2.2.2.2.2.1) (fun i v => v.1 = LI (S1 fx i) ∧ v.2.1 = LI (S1 fz i) ∧ v.2.2.1 = LI (S1 (fun j => fx j * fx j) i) ∧ v.2.2.2.1 = LI (S1 (fun j => fx j * fz j) i) ∧ v.2.2.2.2 = nI i) n (fun v => v.1 = LI (S1 fx n) ∧ v.2.1 = LI (S1 fz n) ∧ v.2.2.1 = LI (S1 (fun j => fx j * fx j) n) ∧ v.2.2.2.1 = LI (S1 (fun j => fx j * fz j) n)) (n := N) (x := (0, 0, 0, 0, 0))
        (fun i x hi ⟨b1, b2, b3, b4, b5⟩ => by
          have k1 := bX i (by omega); have k2 := bZ i (by omega); have k3 := bXX i (by omega); have k4 := bXZ i (by omega)
          have m1 := (fxb i hi).2; have m2 := (fzb i hi).2; have m3 := pxx i hi; have m4 := pxz i hi
          refine Or.inl ⟨(LI (S1 fx (i + 1)), LI (S1 fz (i + 1)), LI (S1 (fun j => fx j * fx j) (i + 1)), LI (S1 (fun j => fx j * fz j) (i + 1)), nI (i + 1)), ?_, rfl, rfl, rfl, rfl, rfl⟩
          unfold s_X5_look_14
          rw [b1, b2, b3, b4, b5, if_neg (by rw [nle] <;> omega), if_pos (xin_n (by omega) (by omega)), nI_clamp (by omega), (fxb i hi).1, (fzb i hi).1, pk_mul, pk_mul, nI64 (by omega), nI64 (by omega), nI64 (by omega), nI64 (by omega), LI_add (by omega), LI_add (by omega), LI_add (by omega), LI_add (by omega), nI_1]; rfl)
        (fun x ⟨b1, b2, b3, b4, b5⟩ => ⟨x, by unfold s_X5_look_14; rw [b5, if_pos (by rw [nle] <;> omega), ← b5], b1, b2, b3, b4⟩) (by omega) ⟨rfl, rfl, rfl, rfl, rfl⟩
      obtain ⟨v', d1, d2, d3, d4, d5⟩ := xlp_rel (st := s_X7_ahead_38 w.1 w.2.2.2.2.2.2.2.2.2.2.2.2.2.2.2.2.2.1 w.2.2.2.2.2.2.2.2.2.2.2.2.2.2.2.2.2.2) (fun i v => v.1 = LI (S1 fx i) ∧ v.2.1 = LI (S1 fz i) ∧ v.2.2.1 = LI (S1 (fun j => fx j * fx j) i) ∧ v.2.2.2.1 = LI (S1 (fun j => fx j * fz j) i) ∧ v.2.2.2.2 = nI i) n (fun v => v.1 = LI (S1 fx n) ∧ v.2.1 = LI (S1 fz n) ∧ v.2.2.1 = LI (S1 (fun j => fx j * fx j) n) ∧ v.2.2.2.1 = LI (S1 (fun j => fx j * fz j) n)) (n := N) (x := (0, 0, 0, 0, 0))
        (fun i x hi ⟨b1, b2, b3, b4, b5⟩ => by
          have k1 := bX i (by omega); have k2 := bZ i (by omega); have k3 := bXX i (by omega); have k4 := bXZ i (by omega)
          have m1 := (fxb i hi).2; have m2 := (fzb i hi).2; have m3 := pxx i hi; have m4 := pxz i hi
          refine Or.inl ⟨(LI (S1 fx (i + 1)), LI (S1 fz (i + 1)), LI (S1 (fun j => fx j * fx j) (i + 1)), LI (S1 (fun j => fx j * fz j) (i + 1)), nI (i + 1)), ?_, rfl, rfl, rfl, rfl, rfl⟩
          unfold s_X7_ahead_38
          rw [b1, b2, b3, b4, b5, t2, if_neg (by rw [nle] <;> omega), if_pos (xin_n (by omega) (by omega)), nI_clamp (by omega), gxb i hi, gzb i hi, nI64 (by omega), nI64 (by omega), LI_mul (by omega) (by omega) (by omega), LI_mul (by omega) (by omega) (by omega), LI_add (by omega), LI_add (by omega), LI_add (by omega), LI_add (by omega), nI_1]; rfl)
        (fun x ⟨b1, b2, b3, b4, b5⟩ => ⟨x, by unfold s_X7_ahead_38; rw [b5, t2, if_pos (by rw [nle] <;> omega), ← b5], b1, b2, b3, b4⟩) (by omega) ⟨rfl, rfl, rfl, rfl, rfl⟩
      have k1 := bX n (by omega); have k2 := bZ n (by omega); have k3 := bXX n (by omega); have k4 := bXZ n (by omega)
      have hca := cauchy fx n
      generalize S1 fx n = SX at *
      generalize S1 fz n = SZ at *
      generalize S1 (fun j => fx j * fx j) n = XX at *
      generalize S1 (fun j => fx j * fz j) n = XZ at *
      have l1 : n * XX ≤ 20 * 19960020 := Nat.mul_le_mul hn (by omega)
      have l2 : SX * SX ≤ 19980 * 19980 := Nat.mul_le_mul (by omega) (by omega)
      have l3 : n * XZ ≤ 20 * 19960020 := Nat.mul_le_mul hn (by omega)
      have l4 : SX * SZ ≤ 19980 * 19980 := Nat.mul_le_mul (by omega) (by omega)
      have l5 : n * t ≤ 20 * 999 := Nat.mul_le_mul hn ht
      obtain ⟨r, hr⟩ : ∃ r, r = n * XX - SX * SX := ⟨_, rfl⟩
      have eR : LI n * LI XX - LI SX * LI SX = LI r := by
        refine LI_ext (by omega) ?_
        rw [LI_mul (by omega) (by omega) (by omega), LI_mul (by omega) (by omega) (by omega), lsub] <;> rw [LIi (by omega), LIi (by omega)] <;> omega
      have eA : (LI n * LI XZ - LI SX * LI SZ).toInt = ((n * XZ : Nat) : Int) - ((SX * SZ : Nat) : Int) := by
        rw [LI_mul (by omega) (by omega) (by omega), LI_mul (by omega) (by omega) (by omega), lsub] <;> rw [LIi (by omega), LIi (by omega)] <;> omega
      have z064 : (0 : Int64).toInt = 0 := by decide
      have rI : (LI r).toInt = r := LIi (by omega)
      have e6 : f_X6_ahead N u.1 (nI n) u.2.2.2.2.2.2.2.2.2.2.2.2.2.2.2.2.2.2.1 u.2.2.2.2.2.2.2.2.2.2.2.2.2.2.2.2.2.2.2.1 (nI t) (nI q) = if r = 0 then some (-1000000000000000000) else if 2 ≤ nI q then f_X6_leastTerms N (LI SZ * LI r + (LI n * LI XZ - LI SX * LI SZ) * (LI (n * t) - LI SX)) (LI n * LI r) (if nI q = 2 then 1 else 0) else f_X6_leastTerms N (LI n * LI XZ - LI SX * LI SZ) (LI r) (if nI q = 0 then 1 else 0) := by
        have ei : ∀ p : Prop, [Decidable p] → (if p then some 1 else some 0 : Option Int32) = some (if p then 1 else 0) := fun p _ => by split <;> rfl
        unfold f_X6_ahead f_X5_look
        rw [out0 ha, out0 hb, if_pos rfl, if_pos rfl, c1, Option.bind_some, c2, c3, c4, c5, nI64 (by omega), eR, pk_mul, nI64 (by omega)]
        by_cases k : r = 0
        · subst k
          rw [if_pos rfl, if_neg (by decide)]; rfl
        · rw [if_neg k, if_pos (by rw [lg_cmp_gt, Int64.lt_iff_toInt_lt, rI, z064]; omega)]
          by_cases k2 : 2 ≤ nI q
          · rw [if_pos k2, if_pos k2, ei, Option.bind_some]
            cases f_X6_leastTerms N (LI SZ * LI r + (LI n * LI XZ - LI SX * LI SZ) * (LI (n * t) - LI SX)) (LI n * LI r) (if nI q = 2 then 1 else 0) <;> rfl
          · rw [if_neg k2, if_neg k2, ei, Option.bind_some]
            cases f_X6_leastTerms N (LI n * LI XZ - LI SX * LI SZ) (LI r) (if nI q = 0 then 1 else 0) <;> rfl
      have e7 : f_X7_ahead N w.1 w.2.2.2.2.2.2.2.2.2.2.2.2.2.2.2.2.2.1 w.2.2.2.2.2.2.2.2.2.2.2.2.2.2.2.2.2.2 (nI t) (nI q) = if r = 0 then some (-1000000000000000000) else if 2 ≤ nI q then f_X7_inLeast N (LI SZ * LI r + (LI n * LI XZ - LI SX * LI SZ) * (LI (n * t) - LI SX)) (LI n * LI r) (nI q - 2) else f_X7_inLeast N (LI n * LI XZ - LI SX * LI SZ) (LI r) (nI q) := by
        unfold f_X7_ahead
        rw [in1 ha, in1 hb, if_neg ne10, if_neg ne10, d1, Option.bind_some, d2, d3, d4, d5, t2, nI64 (by omega), eR, pk_mul, nI64 (by omega)]
        by_cases k : r = 0
        · subst k
          rw [if_pos rfl, if_pos (by decide)]
        · rw [if_neg k, if_neg (by rw [lg_cmp_eq]; intro e; have := congrArg Int64.toInt e; rw [rI, z064] at this; omega)]
          by_cases k2 : 2 ≤ nI q
          · rw [if_pos k2, if_pos k2]
            cases f_X7_inLeast N (LI SZ * LI r + (LI n * LI XZ - LI SX * LI SZ) * (LI (n * t) - LI SX)) (LI n * LI r) (nI q - 2) <;> rfl
          · rw [if_neg k2, if_neg k2]
            cases f_X7_inLeast N (LI n * LI XZ - LI SX * LI SZ) (LI r) (nI q) <;> rfl
      rw [t1]
      by_cases k : r = 0
      · rw [if_pos k] at e6 e7
        exact ⟨_, _, e6, e7, rfl, hR⟩
      · rw [if_neg k] at e6 e7
        have hn1 : 1 ≤ n := by
          rcases Nat.eq_zero_or_pos n with h0 | h0
          · subst h0; rw [Nat.zero_mul] at hr; omega
          · exact h0
        by_cases k2 : 2 ≤ nI q
        · rw [if_pos k2] at e6 e7
          have l6 : n * r ≤ 20 * 399200400 := Nat.mul_le_mul hn (by omega)
          have l7 : 1 * 1 ≤ n * r := Nat.mul_le_mul hn1 (by omega)
          have l8 : SZ * r ≤ 19980 * 399200400 := Nat.mul_le_mul (by omega) (by omega)
          have eD : (LI (n * t) - LI SX).toInt = ((n * t : Nat) : Int) - (SX : Int) := by
            rw [lsub] <;> rw [LIi (by omega), LIi (by omega)] <;> omega
          have bm := mulB (x := (LI n * LI XZ - LI SX * LI SZ).toInt) (y := (LI (n * t) - LI SX).toInt) (M := 399200400) (K := 19980) (by rw [eA]; omega) (by rw [eD]; omega)
          have eM := lmul (x := LI n * LI XZ - LI SX * LI SZ) (y := LI (n * t) - LI SX) (by omega) (by omega)
          have eS : (LI SZ * LI r).toInt = ((SZ * r : Nat) : Int) := by rw [LI_mul (by omega) (by omega) (by omega), LIi (by omega)]
          have eT := ladd (x := LI SZ * LI r) (y := (LI n * LI XZ - LI SX * LI SZ) * (LI (n * t) - LI SX)) (by rw [eS, eM]; omega) (by rw [eS, eM]; omega)
          rw [eS, eM] at eT
          rw [LI_mul (a := n) (b := r) (by omega) (by omega) (by omega)] at e6 e7
          obtain ⟨g, g1, g2⟩ := least_eq (p1 := LI SZ * LI r + (LI n * LI XZ - LI SX * LI SZ) * (LI (n * t) - LI SX)) (b := n * r) (v := if nI q = 2 then 1 else 0) (q := nI q - 2) hN (by omega) (by omega) (by rw [eT]; omega) (by rw [eT]; omega) (by
            rcases (show q = 0 ∨ q = 1 ∨ q = 2 ∨ q = 3 by omega) with rfl | rfl | rfl | rfl
            · exact absurd k2 (by decide)
            · exact absurd k2 (by decide)
            · decide
            · decide)
          exact ⟨g, g, e6.trans g1, e7.trans g2, rfl, hR⟩
        · rw [if_neg k2] at e6 e7
          obtain ⟨g, g1, g2⟩ := least_eq (p1 := LI n * LI XZ - LI SX * LI SZ) (b := r) (v := if nI q = 0 then 1 else 0) (q := nI q) hN (by omega) (by omega) (by rw [eA]; omega) (by rw [eA]; omega) (by
            rcases (show q = 0 ∨ q = 1 ∨ q = 2 ∨ q = 3 by omega) with rfl | rfl | rfl | rfl
            · decide
            · decide
            · exact absurd (by decide) k2
            · exact absurd (by decide) k2)
          exact ⟨g, g, e6.trans g1, e7.trans g2, rfl, hR⟩
    · exact ⟨_, _, by unfold f_X6_ahead; rw [out0 ha, out1 hb, if_pos rfl, if_neg ne10], by unfold f_X7_ahead; rw [in1 ha, in0 hb, if_neg ne10, if_pos rfl], rfl, hR⟩
  · exact ⟨_, _, by unfold f_X6_ahead; rw [out1 ha, if_neg ne10], by unfold f_X7_ahead; rw [in0 ha, if_pos rfl], rfl, hR⟩
