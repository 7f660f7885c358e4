/-! the steps, one by one -/
abbrev LI (n : Nat) : Int64 := Int64.ofNat n
theorem zbm64 {z : Int} (h1 : -9223372036854775808 ≤ z) (h2 : z < 9223372036854775808) : z.bmod (2 ^ 64) = z := by
  rw [Int.bmod_eq_of_le] <;> omega
theorem ladd {x y : Int64} (h1 : -9223372036854775808 ≤ x.toInt + y.toInt) (h2 : x.toInt + y.toInt < 9223372036854775808) : (x + y).toInt = x.toInt + y.toInt := by
  rw [Int64.toInt_add]; exact zbm64 h1 h2
theorem lsub {x y : Int64} (h1 : -9223372036854775808 ≤ x.toInt - y.toInt) (h2 : x.toInt - y.toInt < 9223372036854775808) : (x - y).toInt = x.toInt - y.toInt := by
  rw [Int64.toInt_sub]; exact zbm64 h1 h2
theorem lmul {x y : Int64} (h1 : -9223372036854775808 ≤ x.toInt * y.toInt) (h2 : x.toInt * y.toInt < 9223372036854775808) : (x * y).toInt = x.toInt * y.toInt := by
  rw [Int64.toInt_mul]; exact zbm64 h1 h2
theorem LIi {n : Nat} (h : n < 9223372036854775808) : (LI n).toInt = n := lg_ofNat_toInt h
theorem LI_ext {x : Int64} {n : Nat} (h : n < 9223372036854775808) (e : x.toInt = n) : x = LI n := Int64.toInt_inj.mp (by rw [e, LIi h])
theorem Lmod {a b : Nat} (ha : a < 4611686018427387904) (hb : 0 < b) (hb2 : b < 4611686018427387904) : LI a - LI a / LI b * LI b = LI (a % b) := by
  have e1 : (LI a / LI b).toInt = ((a / b : Nat) : Int) := by
    rw [lg_ldiv_nonneg (by rw [LIi (by omega)]; omega) (by rw [LIi (by omega)]; omega), LIi (by omega), LIi (by omega)]
    exact (Int.natCast_ediv _ _).symm
  have hle : a / b * b ≤ a := Nat.div_mul_le_self a b
  have hm := Nat.div_add_mod a b
  rw [Nat.mul_comm] at hm
  have hc : ((a / b : Nat) : Int) * ((b : Nat) : Int) = ((a / b * b : Nat) : Int) := (Int.natCast_mul _ _).symm
  have e2 : (LI a / LI b * LI b).toInt = ((a / b * b : Nat) : Int) := by
    rw [lmul] <;> rw [e1, LIi (by omega), hc]
    · omega
    · omega
  refine LI_ext (by omega) ?_
  rw [lsub] <;> rw [e2, LIi (by omega)]
  · omega
  · omega
  · omega
theorem stepz6 (a : Nat) {i : Nat} (hi : i < 100) : s_X6_greatestDivisor_9 (LI a, LI 0, nI i) = some (.inr (LI a, LI 0, nI i)) := by
  unfold s_X6_greatestDivisor_9
  show (if 100 ≤ nI i then _ else if lg_cmp (LI 0) 0 ≤ 0 then _ else _) = _
  rw [if_neg (by rw [nlit, nle] <;> omega), if_pos (by decide)]
theorem stepb6 {a b i : Nat} (ha : a < 4611686018427387904) (hb : 0 < b) (hb2 : b < 4611686018427387904) (hi : i < 100) : s_X6_greatestDivisor_9 (LI a, LI b, nI i) = some (.inl (LI b, LI (a % b), nI (i + 1))) := by
  have hz : (LI b).toInt = b := LIi (by omega)
  have z064 : (0 : Int64).toInt = 0 := by decide
  unfold s_X6_greatestDivisor_9
  show (if 100 ≤ nI i then _ else if lg_cmp (LI b) 0 ≤ 0 then _ else if LI b = 0 then none else some (Sum.inl (LI b, LI a - LI a / LI b * LI b, nI i + 1))) = _
  rw [if_neg (by rw [nlit, nle] <;> omega), if_neg (by rw [lg_cmp_le, Int64.le_iff_toInt_le, hz, z064]; omega), if_neg (fun e => by have := congrArg Int64.toInt e; rw [hz, z064] at this; omega), Lmod ha hb hb2, nI_1]
theorem gcd_st (a b : Nat) : Nat.gcd a b = Nat.gcd b (a % b) := by rw [Nat.gcd_comm a b, Nat.gcd_rec b a, Nat.gcd_comm]
theorem half {b r : Nat} (h0 : 0 < r) (h : r < b) : 2 * (b % r) < b := by
  have h1 := Nat.div_add_mod b r
  have h2 := Nat.mod_lt b h0
  have h3 : 1 ≤ b / r := Nat.div_pos (by omega) h0
  have h4 : r * 1 ≤ r * (b / r) := Nat.mul_le_mul_left r h3
  omega
theorem gcdX6 : ∀ (m a b i n : Nat), b < 2 ^ m → i + 2 * m < 100 → 2 * m < n → a < 4611686018427387904 → b < 4611686018427387904 → ∃ z, xlp s_X6_greatestDivisor_9 n (LI a, LI b, nI i) = some z ∧ z.1 = LI (Nat.gcd a b)
  | 0, a, b, i, n, h1, h2, h3, h4, h5 => by
    have hb : b = 0 := by omega
    subst hb
    obtain ⟨k, rfl⟩ : ∃ k, n = k + 1 := ⟨n - 1, by omega⟩
    exact ⟨(LI a, LI 0, nI i), by rw [xlp, stepz6 a (by omega)]; rfl, by rw [Nat.gcd_zero_right]⟩
  | m + 1, a, b, i, n, h1, h2, h3, h4, h5 => by
    rcases Nat.eq_zero_or_pos b with hb | hb
    · subst hb
      obtain ⟨k, rfl⟩ : ∃ k, n = k + 1 := ⟨n - 1, by omega⟩
      exact ⟨(LI a, LI 0, nI i), by rw [xlp, stepz6 a (by omega)]; rfl, by rw [Nat.gcd_zero_right]⟩
    · obtain ⟨k, rfl⟩ : ∃ k, n = k + 2 := ⟨n - 2, by omega⟩
      have hr := Nat.mod_lt a hb
      rcases Nat.eq_zero_or_pos (a % b) with h0 | h0
      · refine ⟨(LI b, LI 0, nI (i + 1)), ?_, ?_⟩
        · rw [xlp, stepb6 h4 hb h5 (by omega), h0]
          show xlp s_X6_greatestDivisor_9 (k + 1) (LI b, LI 0, nI (i + 1)) = _
          rw [xlp, stepz6 b (by omega)]; rfl
        · rw [gcd_st, h0, Nat.gcd_zero_right]
      · have hh := half h0 hr
        have hp : 2 ^ (m + 1) = 2 * 2 ^ m := by rw [Nat.pow_succ, Nat.mul_comm]
        obtain ⟨z, g1, g2⟩ := gcdX6 m (a % b) (b % (a % b)) (i + 2) k (by omega) (by omega) (by omega) (by omega) (by omega)
        refine ⟨z, ?_, ?_⟩
        · rw [xlp, stepb6 h4 hb h5 (by omega)]
          show xlp s_X6_greatestDivisor_9 (k + 1) (LI b, LI (a % b), nI (i + 1)) = _
          rw [xlp, stepb6 h5 h0 (by omega) (by omega)]
          exact g1
        · rw [g2, gcd_st a b, gcd_st b (a % b)]
theorem stepz7 (a : Nat) : s_X7_common_17 (LI a, LI 0) = some (.inr (LI a, LI 0)) := by
  unfold s_X7_common_17
  show (if lg_cmp (LI 0) 0 = 0 then _ else _) = _
  rw [if_pos (by decide)]
theorem stepb7 {a b : Nat} (ha : a < 4611686018427387904) (hb : 0 < b) (hb2 : b < 4611686018427387904) : s_X7_common_17 (LI a, LI b) = some (.inl (LI b, LI (a % b))) := by
  have hz : (LI b).toInt = b := LIi (by omega)
  have z064 : (0 : Int64).toInt = 0 := by decide
  have hne : ¬ LI b = 0 := fun e => by have := congrArg Int64.toInt e; rw [hz, z064] at this; omega
  unfold s_X7_common_17
  show (if lg_cmp (LI b) 0 = 0 then _ else if LI b = 0 then none else some (Sum.inl (LI b, LI a - LI a / LI b * LI b))) = _
  rw [if_neg (by rw [lg_cmp_eq]; exact hne), if_neg hne, Lmod ha hb hb2]
theorem gcdX7 : ∀ (m a b n : Nat), b < 2 ^ m → 2 * m < n → a < 4611686018427387904 → b < 4611686018427387904 → ∃ z, xlp s_X7_common_17 n (LI a, LI b) = some z ∧ z.1 = LI (Nat.gcd a b)
  | 0, a, b, n, h1, h3, h4, h5 => by
    have hb : b = 0 := by omega
    subst hb
    obtain ⟨k, rfl⟩ : ∃ k, n = k + 1 := ⟨n - 1, by omega⟩
    exact ⟨(LI a, LI 0), by rw [xlp, stepz7 a]; rfl, by rw [Nat.gcd_zero_right]⟩
  | m + 1, a, b, n, h1, h3, h4, h5 => by
    rcases Nat.eq_zero_or_pos b with hb | hb
    · subst hb
      obtain ⟨k, rfl⟩ : ∃ k, n = k + 1 := ⟨n - 1, by omega⟩
      exact ⟨(LI a, LI 0), by rw [xlp, stepz7 a]; rfl, by rw [Nat.gcd_zero_right]⟩
    · obtain ⟨k, rfl⟩ : ∃ k, n = k + 2 := ⟨n - 2, by omega⟩
      have hr := Nat.mod_lt a hb
      rcases Nat.eq_zero_or_pos (a % b) with h0 | h0
      · refine ⟨(LI b, LI 0), ?_, ?_⟩
        · rw [xlp, stepb7 h4 hb h5, h0]
          show xlp s_X7_common_17 (k + 1) (LI b, LI 0) = _
          rw [xlp, stepz7 b]; rfl
        · rw [gcd_st, h0, Nat.gcd_zero_right]
      · have hh := half h0 hr
        have hp : 2 ^ (m + 1) = 2 * 2 ^ m := by rw [Nat.pow_succ, Nat.mul_comm]
        obtain ⟨z, g1, g2⟩ := gcdX7 m (a % b) (b % (a % b)) k (by omega) (by omega) (by omega) (by omega)
        refine ⟨z, ?_, ?_⟩
        · rw [xlp, stepb7 h4 hb h5]
          show xlp s_X7_common_17 (k + 1) (LI b, LI (a % b)) = _
          rw [xlp, stepb7 h5 h0 (by omega)]
          exact g1
        · rw [g2, gcd_st a b, gcd_st b (a % b)]
theorem least_eq {p1 : Int64} {b : Nat} {v q : Int32} {N : Nat} (hN : 400 < N) (hb : 0 < b) (hb2 : b < 1099511627776) (hp1 : -4611686018427387904 < p1.toInt) (hp2 : p1.toInt < 4611686018427387904) (hvq : v = 0 ↔ ¬ q = 0) : ∃ r, f_X6_leastTerms N p1 (LI b) v = some r ∧ f_X7_inLeast N p1 (LI b) q = some r := by
  have z064 : (0 : Int64).toInt = 0 := by decide
  have hn : (-p1).toInt = -p1.toInt := by rw [Int64.toInt_neg]; exact zbm64 (by omega) (by omega)
  have hx : xabsl p1 = LI p1.toInt.natAbs := by
    refine LI_ext (by omega) ?_
    unfold xabsl
    by_cases k : 0 < p1
    · rw [if_pos k]; rw [Int64.lt_iff_toInt_lt, z064] at k; omega
    · rw [if_neg k, hn]; rw [Int64.lt_iff_toInt_lt, z064] at k; omega
  have hy : (if 0 ≤ lg_cmp p1 0 then some p1 else some (-p1) : Option Int64) = some (LI p1.toInt.natAbs) := by
    by_cases k : 0 ≤ lg_cmp p1 0
    · rw [if_pos k]
      rw [lg_cmp_ge, Int64.le_iff_toInt_le, z064] at k
      exact congrArg some (LI_ext (by omega) (by omega))
    · rw [if_neg k]
      rw [lg_cmp_ge, Int64.le_iff_toInt_le, z064] at k
      exact congrArg some (LI_ext (by omega) (by rw [hn]; omega))
  obtain ⟨z, g1, g2⟩ := gcdX6 40 p1.toInt.natAbs b 0 N (by omega) (by omega) (by omega) (by omega) (by omega)
  obtain ⟨z', g3, g4⟩ := gcdX7 40 p1.toInt.natAbs b N (by omega) (by omega) (by omega) (by omega)
  have gp : 0 < Nat.gcd p1.toInt.natAbs b := Nat.gcd_pos_of_pos_right _ hb
  have gl : Nat.gcd p1.toInt.natAbs b ≤ b := Nat.le_of_dvd hb (Nat.gcd_dvd_right _ _)
  have gz : (LI (Nat.gcd p1.toInt.natAbs b)).toInt = Nat.gcd p1.toInt.natAbs b := LIi (by omega)
  have gne : ¬ LI (Nat.gcd p1.toInt.natAbs b) = 0 := fun e => by have := congrArg Int64.toInt e; rw [gz, z064] at this; omega
  have d1 : f_X6_greatestDivisor N (LI p1.toInt.natAbs) (LI b) = some (LI (Nat.gcd p1.toInt.natAbs b)) := by
    unfold f_X6_greatestDivisor
    show (xlp s_X6_greatestDivisor_9 N (LI p1.toInt.natAbs, LI b, nI 0)).bind _ = _
    rw [g1, Option.bind_some, g2]
  have d2 : f_X7_common N p1 (LI b) = some (LI (Nat.gcd p1.toInt.natAbs b)) := by
    unfold f_X7_common
    rw [hy, Option.bind_some, g3, Option.bind_some, g4]
  unfold f_X6_leastTerms f_X7_inLeast
  rw [hx, d1, d2, Option.bind_some, Option.bind_some, if_pos (by rw [lg_cmp_gt, Int64.lt_iff_toInt_lt, gz, z064]; omega), if_neg gne, if_neg gne]
  by_cases k : v = 0
  · rw [if_pos k, if_neg (hvq.mp k)]; exact ⟨_, rfl, rfl⟩
  · rw [if_neg k, if_pos (Classical.not_not.mp (fun e => k (hvq.mpr e)))]; exact ⟨_, rfl, rfl⟩
theorem nI64 {q : Nat} (h : q < 2 ^ 31) : (nI q).toInt64 = LI q := LI_ext (by omega) (by rw [Int32.toInt_toInt64, nI_toInt h])
def sumF (y : K4) (sw sh ss ch : Nat → Int32) (n : Nat) : Nat → Int32
  | 0 => 0
  | k + 1 => sumF y sw sh ss ch n k + ch k * fitF y sw sh ss n k 9
theorem sumF_s (y : K4) (sw sh ss ch : Nat → Int32) (n k : Nat) : sumF y sw sh ss ch n (k + 1) = sumF y sw sh ss ch n k + ch k * fitF y sw sh ss n k 9 := rfl
theorem prodF (y : K4) (sw sh ss ch : Nat → Int32) (n : Nat) {k : Nat} (hk : k < 6) (h : ∀ j, j < 6 → ∃ q : Nat, q ≤ 9 ∧ ch j = nI q) : ∃ q : Nat, q ≤ 81 ∧ ch k * fitF y sw sh ss n k 9 = nI q := by
  obtain ⟨a, ha, ea⟩ := h k hk
  obtain ⟨b, hb, eb⟩ := fitF_int y sw sh ss n k 9 (by omega)
  have hab : a * b ≤ 9 * 9 := Nat.mul_le_mul ha hb
  exact ⟨a * b, by omega, by rw [ea, eb, pk_mul]⟩
theorem sumF_n (y : K4) (sw sh ss ch : Nat → Int32) (n : Nat) (h : ∀ j, j < 6 → ∃ q : Nat, q ≤ 9 ∧ ch j = nI q) : ∀ k, k ≤ 6 → ∃ q : Nat, q ≤ 81 * k ∧ sumF y sw sh ss ch n k = nI q
  | 0, _ => ⟨0, by omega, rfl⟩
  | k + 1, hk => by
    obtain ⟨q, hq, e⟩ := sumF_n y sw sh ss ch n h k (by omega)
    obtain ⟨a, ha, ea⟩ := prodF y sw sh ss ch n (k := k) (by omega) h
    rw [sumF_s, e, ea, nI_add]
    exact ⟨q + a, by omega, rfl⟩
set_option maxHeartbeats 4000000 in
theorem op_odds {N : Nat} (hN : 400 < N) {u : CX} {w : CM} (hR : Rel u w) (a1 : Int32) (a2 : Int32) : ∃ (rx : Int32 × K4 × K0) (rm : Int32 × (Nat → Int32) × (Nat → Int32)), f_X6_odds N u.1 u.2.2.2.1 u.2.2.2.2.2.2.2.2.1 u.2.2.2.2.2.2.2.2.2.1 u.2.2.2.2.2.2.2.2.2.2.1 u.2.2.2.2.2.2.2.2.2.2.2.1 u.2.2.2.2.2.2.2.2.2.2.2.2.1 u.2.2.2.2.2.2.2.2.2.2.2.2.2.2.2.2.2.2.2.2.1 u.2.2.2.2.2.2.2.2.2.2.2.2.2.2.2.2.2.2.2.2.2.1 a1 a2 = some rx ∧ f_X7_odds N w.1 w.2.2.1 w.2.2.2.1 w.2.2.2.2.1 w.2.2.2.2.2.2.2.1 w.2.2.2.2.2.2.2.2.1 w.2.2.2.2.2.2.2.2.2.1 w.2.2.2.2.2.2.2.2.2.2.1 a1 a2 = some rm ∧ rx.1 = rm.1 ∧ Rel (u.1, u.2.1, u.2.2.1, u.2.2.2.1, u.2.2.2.2.1, u.2.2.2.2.2.1, u.2.2.2.2.2.2.1, u.2.2.2.2.2.2.2.1, u.2.2.2.2.2.2.2.2.1, u.2.2.2.2.2.2.2.2.2.1, u.2.2.2.2.2.2.2.2.2.2.1, u.2.2.2.2.2.2.2.2.2.2.2.1, u.2.2.2.2.2.2.2.2.2.2.2.2.1, u.2.2.2.2.2.2.2.2.2.2.2.2.2.1, u.2.2.2.2.2.2.2.2.2.2.2.2.2.2.1, u.2.2.2.2.2.2.2.2.2.2.2.2.2.2.2.1, u.2.2.2.2.2.2.2.2.2.2.2.2.2.2.2.2.1, u.2.2.2.2.2.2.2.2.2.2.2.2.2.2.2.2.2.1, u.2.2.2.2.2.2.2.2.2.2.2.2.2.2.2.2.2.2.1, u.2.2.2.2.2.2.2.2.2.2.2.2.2.2.2.2.2.2.2.1, rx.2.1, rx.2.2, u.2.2.2.2.2.2.2.2.2.2.2.2.2.2.2.2.2.2.2.2.2.2.1, u.2.2.2.2.2.2.2.2.2.2.2.2.2.2.2.2.2.2.2.2.2.2.2.1, u.2.2.2.2.2.2.2.2.2.2.2.2.2.2.2.2.2.2.2.2.2.2.2.2) (w.1, w.2.1, w.2.2.1, rm.2.1, rm.2.2, w.2.2.2.2.2.1, w.2.2.2.2.2.2.1, w.2.2.2.2.2.2.2.1, w.2.2.2.2.2.2.2.2.1, w.2.2.2.2.2.2.2.2.2.1, w.2.2.2.2.2.2.2.2.2.2.1, w.2.2.2.2.2.2.2.2.2.2.2.1, w.2.2.2.2.2.2.2.2.2.2.2.2.1, w.2.2.2.2.2.2.2.2.2.2.2.2.2.1, w.2.2.2.2.2.2.2.2.2.2.2.2.2.2.1, w.2.2.2.2.2.2.2.2.2.2.2.2.2.2.2.1, w.2.2.2.2.2.2.2.2.2.2.2.2.2.2.2.2.1, w.2.2.2.2.2.2.2.2.2.2.2.2.2.2.2.2.2.1, w.2.2.2.2.2.2.2.2.2.2.2.2.2.2.2.2.2.2) := by
  obtain ⟨h1, h2, ⟨hy, hp⟩, ⟨hc, ht⟩, h5, h6, ⟨n, hn, t1, t2, t3⟩, h8, h9, h10, h11⟩ := id hR
  by_cases ha : (0 : Int32).toInt ≤ a1.toInt ∧ a1.toInt ≤ (5 : Int32).toInt
  · by_cases hb : (0 : Int32).toInt ≤ a2.toInt ∧ a2.toInt ≤ (1 : Int32).toInt
    · obtain ⟨p, hpp, -, rfl⟩ := rng (n := 5) (by decide) (by decide) ha
      have hok : ∀ j, j < n → okA (u.2.2.2.2.2.2.2.2.2.1 j) (u.2.2.2.2.2.2.2.2.2.2.1 j) := fun j hj => (t3 j hj).2.2.2
      have hcg : ∀ j, j < n → u.2.2.2.2.2.2.2.2.2.1 j = w.2.2.2.2.2.2.2.1 j ∧ u.2.2.2.2.2.2.2.2.2.2.1 j = w.2.2.2.2.2.2.2.2.1 j ∧ u.2.2.2.2.2.2.2.2.2.2.2.1 j = w.2.2.2.2.2.2.2.2.2.1 j := fun j hj => ⟨(t3 j hj).1, (t3 j hj).2.1, (t3 j hj).2.2.1⟩
      have hok' : ∀ j, j < n → okA (w.2.2.2.2.2.2.2.1 j) (w.2.2.2.2.2.2.2.2.1 j) := fun j hj => by
        rw [← (hcg j hj).1, ← (hcg j hj).2.1]; exact hok j hj
      have hch : ∀ j, j < 6 → u.2.2.2.2.2.2.2.2.2.2.2.2.1 j = w.2.2.2.2.2.2.2.2.2.2.1 j := fun j hj => (h8 j hj).1
      have hcn : ∀ j, j < 6 → ∃ q : Nat, q ≤ 9 ∧ w.2.2.2.2.2.2.2.2.2.2.1 j = nI q := fun j hj => by rw [← hch j hj]; exact (h8 j hj).2
      obtain ⟨v, c1, c2⟩ := xlp_rel (st := s_X6_odds_25 N u.1 u.2.2.2.1 u.2.2.2.2.2.2.2.2.1 u.2.2.2.2.2.2.2.2.2.1 u.2.2.2.2.2.2.2.2.2.2.1 u.2.2.2.2.2.2.2.2.2.2.2.1 u.2.2.2.2.2.2.2.2.2.2.2.2.1) (fun i v => v.1 = sumF u.2.2.2.1 w.2.2.2.2.2.2.2.1 w.2.2.2.2.2.2.2.2.1 w.2.2.2.2.2.2.2.2.2.1 w.2.2.2.2.2.2.2.2.2.2.1 n i ∧ v.2.1 = nI i) 6 (fun v => v.1 = sumF u.2.2.2.1 w.2.2.2.2.2.2.2.1 w.2.2.2.2.2.2.2.2.1 w.2.2.2.2.2.2.2.2.2.1 w.2.2.2.2.2.2.2.2.2.2.1 n 6) (n := N) (x := (0, 0, u.2.2.2.2.2.2.2.2.2.2.2.2.2.2.2.2.2.2.2.2.1, u.2.2.2.2.2.2.2.2.2.2.2.2.2.2.2.2.2.2.2.2.2.1))
        (fun i x hi ⟨b1, b2⟩ => by
          obtain ⟨q1, q2, g1⟩ := fitsX6 (N := N) (k := i) u.1 u.2.2.2.2.2.2.2.2.1 u.2.2.2.2.2.2.2.2.2.1 u.2.2.2.2.2.2.2.2.2.2.1 u.2.2.2.2.2.2.2.2.2.2.2.1 x.2.2.1 x.2.2.2 hN hy t1 hn hok (by omega)
          refine Or.inl ⟨(sumF u.2.2.2.1 w.2.2.2.2.2.2.2.1 w.2.2.2.2.2.2.2.2.1 w.2.2.2.2.2.2.2.2.2.1 w.2.2.2.2.2.2.2.2.2.2.1 n (i + 1), nI (i + 1), q1, q2), ?_, rfl, rfl⟩
          · unfold s_X6_odds_25
            rw [b1, b2, if_neg (by rw [nlit, nle] <;> omega), if_pos (xin_n (by omega) (by omega)), g1, Option.bind_some, nI_clamp (by omega), hch i hi, fitF_congr hcg 9, sumF_s, nI_1])
        (fun x ⟨b1, b2⟩ => ⟨x, by unfold s_X6_odds_25; rw [b2, if_pos (by rw [nlit, nle] <;> omega), ← b2], b1⟩) (by omega) ⟨rfl, rfl⟩
      obtain ⟨v', d1, d2, d3⟩ := xlp_rel (st := s_X7_odds_26 N w.1 w.2.2.1 w.2.2.2.2.2.2.2.1 w.2.2.2.2.2.2.2.2.1 w.2.2.2.2.2.2.2.2.2.1 w.2.2.2.2.2.2.2.2.2.2.1 (nI p)) (fun i v => v.1 = sumF u.2.2.2.1 w.2.2.2.2.2.2.2.1 w.2.2.2.2.2.2.2.2.1 w.2.2.2.2.2.2.2.2.2.1 w.2.2.2.2.2.2.2.2.2.2.1 n i ∧ v.2.2.1 = nI i ∧ (p < i → v.2.1 = w.2.2.2.2.2.2.2.2.2.2.1 p * fitF u.2.2.2.1 w.2.2.2.2.2.2.2.1 w.2.2.2.2.2.2.2.2.1 w.2.2.2.2.2.2.2.2.2.1 n p 9)) 6 (fun v => v.1 = sumF u.2.2.2.1 w.2.2.2.2.2.2.2.1 w.2.2.2.2.2.2.2.2.1 w.2.2.2.2.2.2.2.2.2.1 w.2.2.2.2.2.2.2.2.2.2.1 n 6 ∧ v.2.1 = w.2.2.2.2.2.2.2.2.2.2.1 p * fitF u.2.2.2.1 w.2.2.2.2.2.2.2.1 w.2.2.2.2.2.2.2.2.1 w.2.2.2.2.2.2.2.2.2.1 n p 9) (n := N) (x := (0, 0, 0, w.2.2.2.1, w.2.2.2.2.1))
        (fun i x hi ⟨b1, b2, b3⟩ => by
          obtain ⟨q3, q4, g2⟩ := fitsX7 (N := N) (k := i) w.1 w.2.2.2.2.2.2.2.1 w.2.2.2.2.2.2.2.2.1 w.2.2.2.2.2.2.2.2.2.1 x.2.2.2.1 x.2.2.2.2 hN hp hy t2 hn hok' (by omega)
          unfold s_X7_odds_26
          rw [b1, b2, if_neg (by rw [nlit, nle] <;> omega), if_pos (xin_n (by omega) (by omega)), g2, Option.bind_some, nI_clamp (by omega), sumF_s, nI_1]
          by_cases k : i = p
          · subst k
            rw [if_pos rfl]
            exact Or.inl ⟨_, rfl, rfl, rfl, fun _ => rfl⟩
          · rw [if_neg (fun e => k ((nI_eq (by omega) (by omega)).mp e))]
            exact Or.inl ⟨_, rfl, rfl, rfl, fun h => b3 (by omega)⟩)
        (fun x ⟨b1, b2, b3⟩ => ⟨x, by unfold s_X7_odds_26; rw [b2, if_pos (by rw [nlit, nle] <;> omega), ← b2], b1, b3 (by omega)⟩) (by omega) ⟨rfl, rfl, fun h => by omega⟩
      obtain ⟨T, hT, eT⟩ := sumF_n u.2.2.2.1 w.2.2.2.2.2.2.2.1 w.2.2.2.2.2.2.2.2.1 w.2.2.2.2.2.2.2.2.2.1 w.2.2.2.2.2.2.2.2.2.2.1 n hcn 6 (by omega)
      obtain ⟨P, hP, eP⟩ := prodF u.2.2.2.1 w.2.2.2.2.2.2.2.1 w.2.2.2.2.2.2.2.2.1 w.2.2.2.2.2.2.2.2.2.1 w.2.2.2.2.2.2.2.2.2.2.1 n (k := p) (by omega) hcn
      rw [eT] at c2 d2
      rw [eP] at d3
      by_cases k : T = 0
      · subst k
        refine ⟨_, _, by unfold f_X6_odds; rw [out0 ha, out0 hb, if_pos rfl, if_pos rfl, c1, Option.bind_some, c2, if_pos (by decide)], by unfold f_X7_odds f_X7_isTrouble; rw [in1 ha, in1 hb, if_neg ne10, if_neg ne10, d1, Option.bind_some, d2, if_pos (by decide)], ?_, ?_⟩
        · rfl
        · exact mkRel h1 h2 ⟨hy, hp⟩ ⟨hc, ht⟩ h5 h6 ⟨n, hn, t1, t2, t3⟩ h8 h9 h10 h11
      · obtain ⟨q1, q2, g1⟩ := fitsX6 (N := N) (k := p) u.1 u.2.2.2.2.2.2.2.2.1 u.2.2.2.2.2.2.2.2.2.1 u.2.2.2.2.2.2.2.2.2.2.1 u.2.2.2.2.2.2.2.2.2.2.2.1 v.2.2.1 v.2.2.2 hN hy t1 hn hok hpp
        have hPi : (LI P).toInt = P := LIi (by omega)
        have h01 : a2 = 0 ∨ a2 = 1 := by
          rw [z0, z1] at hb
          rw [zeq, zeq, z0, z1]; omega
        obtain ⟨r, e1, e2⟩ := least_eq (p1 := LI P) (b := T) (v := if a2 = 0 then 1 else 0) (q := a2) hN (by omega) (by omega) (by omega) (by omega) (by
          rcases h01 with rfl | rfl
          · decide
          · decide)
        have ev : (if a2 = 0 then some 1 else some 0 : Option Int32) = some (if a2 = 0 then 1 else 0) := by split <;> rfl
        refine ⟨(r.toInt32, q1, q2), (r.toInt32, v'.2.2.2.1, v'.2.2.2.2), ?_, ?_, ?_, ?_⟩
        · unfold f_X6_odds
          rw [out0 ha, out0 hb, if_pos rfl, if_pos rfl, c1, Option.bind_some, c2, if_neg (nI_ne0 (by omega) (by omega)), if_pos (xin_n (by omega) (by omega)), g1, Option.bind_some, nI_clamp (by omega), hch p (by omega), fitF_congr hcg 9, eP, ev, Option.bind_some, nI64 (by omega), nI64 (by omega), e1]; rfl
        · unfold f_X7_odds f_X7_isTrouble
          rw [in1 ha, in1 hb, if_neg ne10, if_neg ne10, d1, Option.bind_some, d2, if_neg (nI_ne0 (by omega) (by omega)), d3, nI64 (by omega), nI64 (by omega), e2]; rfl
        · rfl
        · exact mkRel h1 h2 ⟨hy, hp⟩ ⟨hc, ht⟩ h5 h6 ⟨n, hn, t1, t2, t3⟩ h8 h9 h10 h11
    · refine ⟨_, _, by unfold f_X6_odds; rw [out0 ha, out1 hb, if_pos rfl, if_neg ne10], by unfold f_X7_odds f_X7_isTrouble; rw [in1 ha, in0 hb, if_neg ne10, if_pos rfl], ?_, ?_⟩
      · rfl
      · exact mkRel h1 h2 ⟨hy, hp⟩ ⟨hc, ht⟩ h5 h6 ⟨n, hn, t1, t2, t3⟩ h8 h9 h10 h11
  · refine ⟨_, _, by unfold f_X6_odds; rw [out1 ha, if_neg ne10], by unfold f_X7_odds f_X7_isTrouble; rw [in0 ha, if_pos rfl], ?_, ?_⟩
    · rfl
    · exact mkRel h1 h2 ⟨hy, hp⟩ ⟨hc, ht⟩ h5 h6 ⟨n, hn, t1, t2, t3⟩ h8 h9 h10 h11
