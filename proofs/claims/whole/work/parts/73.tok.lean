/-! the tokens of a typed text: runs, numbers -/
theorem run_ex (P : Nat → Prop) (n : Nat) : ∀ k p, n - p = k → p ≤ n → ∃ q, p ≤ q ∧ q ≤ n ∧ (∀ j, p ≤ j → j < q → P j) ∧ (q < n → ¬ P q)
  | 0, p, h, hp => ⟨p, Nat.le_refl _, hp, fun j h1 h2 => by omega, fun h2 => by omega⟩
  | k + 1, p, h, hp => by
    by_cases c : P p
    · obtain ⟨q, h1, h2, h3, h4⟩ := run_ex P n k (p + 1) (by omega) (by omega)
      refine ⟨q, by omega, h2, fun j j1 j2 => ?_, h4⟩
      rcases Nat.eq_or_lt_of_le j1 with e | e
      · rw [← e]; exact c
      · exact h3 j (by omega) j2
    · exact ⟨p, Nat.le_refl _, hp, fun j h1 h2 => by omega, fun _ => c⟩
/-- both texts: n bytes bt -/
def txB (n : Nat) (bt : Nat → Nat) (tb text : Nat → Int32) : Prop := n ≤ 300 ∧ ∀ j, j < n → bt j < 256 ∧ tb j = nI (bt j) ∧ text j &&& 255 = nI (bt j)
theorem txB_of {tx : K3} {tb : Nat → Int32} {o : K7} {text : Nat → Int32} (h : relT tx tb o text) : ∃ n bt, tx.1 = nI n ∧ o.2.1 = nI n ∧ txB n bt tb text := by
  obtain ⟨n, hn, h1, h2, h3⟩ := h
  refine ⟨n, fun j => (tb j).toInt.toNat, h1, h2, hn, fun j hj => ?_⟩
  obtain ⟨v, g1, g2, g3⟩ := h3 j hj
  have e : (tb j).toInt.toNat = v := by rw [g2, nI_toInt (by omega)]; omega
  show (tb j).toInt.toNat < 256 ∧ tb j = nI (tb j).toInt.toNat ∧ text j &&& 255 = nI (tb j).toInt.toNat
  rw [e]; exact ⟨g1, g2, g3⟩
theorem hereI {n p : Nat} {bt : Nat → Nat} {tb text : Nat → Int32} {o : K7} (h : txB n bt tb text) (h1 : o.2.1 = nI n) (h2 : o.2.2.1 = nI p) (hp : p < n) : f_X7_here o text = some (nI (bt p)) := by
  have hn := h.1
  unfold f_X7_here
  rw [h1, h2, if_neg (by rw [nle] <;> omega), if_pos (xin_n (by omega) (by omega)), nI_clamp (by omega), (h.2 p hp).2.2]
theorem hereO {n p : Nat} {bt : Nat → Nat} {tb text : Nat → Int32} {o : K7} (h : txB n bt tb text) (h1 : o.2.1 = nI n) (h2 : o.2.2.1 = nI p) (hp : n ≤ p) (hp2 : p < 2 ^ 31) : f_X7_here o text = some (-1) := by
  have hn := h.1
  unfold f_X7_here
  rw [h1, h2, if_pos (by rw [nle] <;> omega)]
theorem hereT {n p : Nat} {bt : Nat → Nat} {tb text : Nat → Int32} (h : txB n bt tb text) (hp : p < n) (a1 : Int64) (a4 a5 a6 a7 a8 a9 a10 a11 a12 : Int32) : f_X7_here (a1, nI n, nI p, a4, a5, a6, a7, a8, a9, a10, a11, a12) text = some (nI (bt p)) := hereI (o := (a1, nI n, nI p, a4, a5, a6, a7, a8, a9, a10, a11, a12)) h rfl rfl hp
theorem hereU {n p : Nat} {bt : Nat → Nat} {tb text : Nat → Int32} (h : txB n bt tb text) (hp : n ≤ p) (hp2 : p < 2 ^ 31) (a1 : Int64) (a4 a5 a6 a7 a8 a9 a10 a11 a12 : Int32) : f_X7_here (a1, nI n, nI p, a4, a5, a6, a7, a8, a9, a10, a11, a12) text = some (-1) := hereO (o := (a1, nI n, nI p, a4, a5, a6, a7, a8, a9, a10, a11, a12)) h rfl rfl hp hp2
theorem nIeq {a b : Nat} (ha : a < 256) (hb : b < 256) : nI a = nI b ↔ a = b := nI_eq (by omega) (by omega)
theorem nm1 {k : Nat} (hk : k < 256) : ¬ (-1 : Int32) = nI k := by
  intro e
  have := congrArg Int32.toInt e
  rw [nI_toInt (by omega), show (-1 : Int32).toInt = -1 from by decide] at this
  omega
/-- blanks, in the class -/
theorem skip6 {n p q : Nat} {bt : Nat → Nat} {tb text : Nat → Int32} {tx : K3} {N : Nat} (hN : 400 < N) (h : txB n bt tb text) (h1 : tx.1 = nI n) (hp : p ≤ q) (hq : q ≤ n) (ha : ∀ j, p ≤ j → j < q → bt j = 32) (he : q < n → ¬ bt q = 32) : xlp (s_X3_nextToken_0 tx tb) N (nI p) = some (nI q) := by
  have hn := h.1
  obtain ⟨v, e1, e2⟩ := xlp_rel (st := s_X3_nextToken_0 tx tb) (fun i v => v = nI (p + i)) (q - p) (fun v => v = nI q) (n := N) (x := nI p)
    (fun i x hi a => by
      subst a
      have hb := h.2 (p + i) (by omega)
      refine Or.inl ⟨nI (p + (i + 1)), ?_, rfl⟩
      unfold s_X3_nextToken_0
      rw [h1, if_neg (by rw [nle] <;> omega), if_pos (xin_n (by omega) (by omega)), nI_clamp (by omega), hb.2.1, ha (p + i) (by omega) (by omega), if_pos (by decide), nI_1]; rfl)
    (fun x a => by
      have e : p + (q - p) = q := by omega
      rw [e] at a
      subst a
      unfold s_X3_nextToken_0
      rw [h1]
      rcases Nat.eq_or_lt_of_le hq with k | k
      · rw [if_pos (by rw [nle] <;> omega)]; exact ⟨_, rfl, rfl⟩
      · have hb := h.2 q k
        rw [if_neg (by rw [nle] <;> omega), if_pos (xin_n (by omega) (by omega)), nI_clamp (by omega), hb.2.1, if_neg (show ¬ nI (bt q) = 32 from fun e => he k ((nIeq (b := 32) hb.1 (by omega)).mp e))]
        exact ⟨_, rfl, rfl⟩) (by omega) rfl
  rw [e1, e2]
/-- blanks, in the reference -/
theorem skip7 {n p q : Nat} {bt : Nat → Nat} {tb text : Nat → Int32} {o : K7} {N : Nat} (hN : 400 < N) (h : txB n bt tb text) (h1 : o.2.1 = nI n) (hp : p ≤ q) (hq : q ≤ n) (ha : ∀ j, p ≤ j → j < q → bt j = 32) (he : q < n → ¬ bt q = 32) : xlp (s_X7_next_0 o text) N (nI p) = some (nI q) := by
  have hn := h.1
  obtain ⟨v, e1, e2⟩ := xlp_rel (st := s_X7_next_0 o text) (fun i v => v = nI (p + i)) (q - p) (fun v => v = nI q) (n := N) (x := nI p)
    (fun i x hi a => by
      subst a
      refine Or.inl ⟨nI (p + (i + 1)), ?_, rfl⟩
      unfold s_X7_next_0
      rw [h1, hereT h (by omega), Option.bind_some, ha (p + i) (by omega) (by omega), if_pos (by decide), nI_1]; rfl)
    (fun x a => by
      have e : p + (q - p) = q := by omega
      rw [e] at a
      subst a
      unfold s_X7_next_0
      rcases Nat.eq_or_lt_of_le hq with k | k
      · rw [h1, hereU h (by omega) (by omega), Option.bind_some, if_neg (show ¬ (-1 : Int32) = 32 from by decide)]; exact ⟨_, rfl, rfl⟩
      · have hb := h.2 q k
        rw [h1, hereT h k, Option.bind_some, if_neg (show ¬ nI (bt q) = 32 from fun e => he k ((nIeq (b := 32) hb.1 (by omega)).mp e))]
        exact ⟨_, rfl, rfl⟩) (by omega) rfl
  rw [e1, e2]
theorem digX6 {k : Nat} (hk : k < 256) : f_X3_isDigit (nI k) = if 48 ≤ k ∧ k ≤ 57 then 1 else 0 := by
  unfold f_X3_isDigit
  by_cases c1 : k < 48
  · rw [if_pos (by rw [nlit, nlt] <;> omega), if_neg (by omega)]
  · rw [if_neg (by rw [nlit, nlt] <;> omega)]
    by_cases c2 : 57 < k
    · rw [if_pos (by rw [nlit, nlt] <;> omega), if_neg (by omega)]
    · rw [if_neg (by rw [nlit, nlt] <;> omega), if_pos (by omega)]
theorem letX6 {k : Nat} (hk : k < 256) : f_X3_isLetter (nI k) = if 97 ≤ k ∧ k ≤ 122 then 1 else 0 := by
  unfold f_X3_isLetter
  by_cases c1 : k < 97
  · rw [if_pos (by rw [nlit, nlt] <;> omega), if_neg (by omega)]
  · rw [if_neg (by rw [nlit, nlt] <;> omega)]
    by_cases c2 : 122 < k
    · rw [if_pos (by rw [nlit, nlt] <;> omega), if_neg (by omega)]
    · rw [if_neg (by rw [nlit, nlt] <;> omega), if_pos (by omega)]
theorem digX7 {k : Nat} (hk : k < 256) : f_X7_in (nI k) 48 57 = if 48 ≤ k ∧ k ≤ 57 then 1 else 0 := by
  by_cases c : 48 ≤ k ∧ k ≤ 57
  · rw [if_pos c]; exact in1 (by rw [nI_toInt (by omega)]; exact ⟨by rw [show (48 : Int32).toInt = 48 from by decide]; omega, by rw [show (57 : Int32).toInt = 57 from by decide]; omega⟩)
  · rw [if_neg c]; exact in0 (by rw [nI_toInt (by omega), show (48 : Int32).toInt = 48 from by decide, show (57 : Int32).toInt = 57 from by decide]; omega)
theorem letX7 {k : Nat} (hk : k < 256) : f_X7_in (nI k) 97 122 = if 97 ≤ k ∧ k ≤ 122 then 1 else 0 := by
  by_cases c : 97 ≤ k ∧ k ≤ 122
  · rw [if_pos c]; exact in1 (by rw [nI_toInt (by omega)]; exact ⟨by rw [show (97 : Int32).toInt = 97 from by decide]; omega, by rw [show (122 : Int32).toInt = 122 from by decide]; omega⟩)
  · rw [if_neg c]; exact in0 (by rw [nI_toInt (by omega), show (97 : Int32).toInt = 97 from by decide, show (122 : Int32).toInt = 122 from by decide]; omega)
theorem digM : f_X7_in (-1) 48 57 = 0 := by decide
theorem letM : f_X7_in (-1) 97 122 = 0 := by decide
/-- a number's value: the class stops at 101, the reference above 100 -/
def numC (bt : Nat → Nat) (p : Nat) : Nat → Nat
  | 0 => 0
  | i + 1 => min 101 (10 * numC bt p i + (bt (p + i) - 48))
def numR (bt : Nat → Nat) (p : Nat) : Nat → Nat
  | 0 => 0
  | i + 1 => if numR bt p i ≤ 100 then 10 * numR bt p i + (bt (p + i) - 48) else numR bt p i
theorem numC_s (bt : Nat → Nat) (p i : Nat) : numC bt p (i + 1) = min 101 (10 * numC bt p i + (bt (p + i) - 48)) := rfl
theorem numR_s (bt : Nat → Nat) (p i : Nat) : numR bt p (i + 1) = if numR bt p i ≤ 100 then 10 * numR bt p i + (bt (p + i) - 48) else numR bt p i := rfl
theorem num_ok {bt : Nat → Nat} {p : Nat} : ∀ i, (∀ j, j < i → bt (p + j) ≤ 57) → numC bt p i ≤ 101 ∧ numR bt p i ≤ 1009 ∧ (numC bt p i ≤ 100 → numR bt p i = numC bt p i) ∧ (100 < numC bt p i → 100 < numR bt p i)
  | 0, _ => ⟨by show 0 ≤ 101; omega, by show 0 ≤ 1009; omega, fun _ => rfl, fun h => h⟩
  | i + 1, h => by
    obtain ⟨h1, h2, h3, h4⟩ := num_ok i (fun j hj => h j (by omega))
    have hb := h i (by omega)
    rw [numC_s, numR_s]
    by_cases c : numR bt p i ≤ 100
    · rw [if_pos c]; omega
    · rw [if_neg c]; omega
theorem num6 {n p q : Nat} {bt : Nat → Nat} {tb text : Nat → Int32} {tx : K3} {N : Nat} (hN : 400 < N) (h : txB n bt tb text) (h1 : tx.1 = nI n) (hp : p ≤ q) (hq : q ≤ n) (ha : ∀ j, p ≤ j → j < q → 48 ≤ bt j ∧ bt j ≤ 57) (he : q < n → ¬ (48 ≤ bt q ∧ bt q ≤ 57)) : xlp (s_X3_nextNumber_25 tx tb) N (nI p, 0) = some (nI q, nI (numC bt p (q - p))) := by
  have hn := h.1
  obtain ⟨v, e1, e2⟩ := xlp_rel (st := s_X3_nextNumber_25 tx tb) (fun i v => v = (nI (p + i), nI (numC bt p i))) (q - p) (fun v => v = (nI q, nI (numC bt p (q - p)))) (n := N) (x := (nI p, 0))
    (fun i x hi a => by
      subst a
      have hb := h.2 (p + i) (by omega)
      have hd := ha (p + i) (by omega) (by omega)
      have hk := num_ok (bt := bt) (p := p) i (fun j hj => (ha (p + j) (by omega) (by omega)).2)
      refine Or.inl ⟨(nI (p + (i + 1)), nI (numC bt p (i + 1))), ?_, rfl⟩
      unfold s_X3_nextNumber_25
      show (if tx.1 ≤ nI (p + i) then _ else _) = _
      rw [h1, if_neg (by rw [nle] <;> omega)]
      show (if xin (nI (p + i)) 300 = true then _ else _) = _
      rw [if_pos (xin_n (by omega) (by omega))]
      show (if f_X3_isDigit (tb (nI (p + i)).toNatClampNeg) = 0 then _ else some (Sum.inl (nI (p + i) + 1, xmin 101 (10 * nI (numC bt p i) + tb (nI (p + i)).toNatClampNeg - 48)))) = _
      rw [nI_clamp (by omega), hb.2.1, digX6 hb.1, if_pos hd, if_neg ne10, nI_1, ten_mul, nI_add, show (48 : Int32) = nI 48 from rfl, nI_sub (by omega) (by omega), numC_s]
      have ex : xmin 101 (nI (10 * numC bt p i + bt (p + i) - 48)) = nI (min 101 (10 * numC bt p i + (bt (p + i) - 48))) := by
        rw [zeq, xmin_int, nI_toInt (by omega), nI_toInt (by omega), show (101 : Int32).toInt = 101 from by decide]
        split <;> omega
      rw [ex]; rfl)
    (fun x a => by
      have e : p + (q - p) = q := by omega
      rw [e] at a
      subst a
      unfold s_X3_nextNumber_25
      show ∃ t, (if tx.1 ≤ nI q then _ else _) = _ ∧ _
      rw [h1]
      rcases Nat.eq_or_lt_of_le hq with k | k
      · rw [if_pos (by rw [nle] <;> omega)]; exact ⟨_, rfl, rfl⟩
      · have hb := h.2 q k
        rw [if_neg (by rw [nle] <;> omega)]
        show ∃ t, (if xin (nI q) 300 = true then _ else _) = _ ∧ _
        rw [if_pos (xin_n (by omega) (by omega))]
        show ∃ t, (if f_X3_isDigit (tb (nI q).toNatClampNeg) = 0 then _ else _) = _ ∧ _
        rw [nI_clamp (by omega), hb.2.1, digX6 hb.1, if_neg (he k), if_pos rfl]
        exact ⟨_, rfl, rfl⟩) (by omega) rfl
  rw [e1, e2]
theorem num7 {n p q : Nat} {bt : Nat → Nat} {tb text : Nat → Int32} {o : K7} {N : Nat} (v4 : Int32) (hN : 400 < N) (h : txB n bt tb text) (h1 : o.2.1 = nI n) (hp : p ≤ q) (hq : q ≤ n) (ha : ∀ j, p ≤ j → j < q → 48 ≤ bt j ∧ bt j ≤ 57) (he : q < n → ¬ (48 ≤ bt q ∧ bt q ≤ 57)) : xlp (s_X7_next_184 o text v4) N (nI p, 0) = some (nI q, nI (numR bt p (q - p))) := by
  have hn := h.1
  obtain ⟨v, e1, e2⟩ := xlp_rel (st := s_X7_next_184 o text v4) (fun i v => v = (nI (p + i), nI (numR bt p i))) (q - p) (fun v => v = (nI q, nI (numR bt p (q - p)))) (n := N) (x := (nI p, 0))
    (fun i x hi a => by
      subst a
      have hb := h.2 (p + i) (by omega)
      have hd := ha (p + i) (by omega) (by omega)
      have hk := num_ok (bt := bt) (p := p) i (fun j hj => (ha (p + j) (by omega) (by omega)).2)
      refine Or.inl ⟨(nI (p + (i + 1)), nI (numR bt p (i + 1))), ?_, rfl⟩
      unfold s_X7_next_184
      dsimp only
      rw [h1, hereT h (by omega), Option.bind_some, digX7 hb.1, if_pos hd, if_neg ne10]
      show (Option.bind (if nI (numR bt p i) ≤ 100 then _ else some (nI (numR bt p i))) fun v15 => some (Sum.inl (nI (p + i) + 1, v15))) = _
      rw [numR_s, nI_1]
      by_cases c : numR bt p i ≤ 100
      · rw [if_pos (by rw [nlit, nle] <;> omega), if_pos c, Option.bind_some, Option.bind_some]
        show some (Sum.inl (nI (p + i + 1), 10 * nI (numR bt p i) + nI (bt (p + i)) - 48)) = _
        rw [ten_mul, nI_add, show (48 : Int32) = nI 48 from rfl, nI_sub (by omega) (by omega), show 10 * numR bt p i + bt (p + i) - 48 = 10 * numR bt p i + (bt (p + i) - 48) by omega]; rfl
      · rw [if_neg (by rw [nlit, nle] <;> omega), if_neg c, Option.bind_some]; rfl)
    (fun x a => by
      have e : p + (q - p) = q := by omega
      rw [e] at a
      subst a
      unfold s_X7_next_184
      rcases Nat.eq_or_lt_of_le hq with k | k
      · dsimp only
        rw [h1, hereU h (by omega) (by omega), Option.bind_some, digM, if_pos rfl]; exact ⟨_, rfl, rfl⟩
      · have hb := h.2 q k
        dsimp only
        rw [h1, hereT h k, Option.bind_some, digX7 hb.1, if_neg (he k), if_pos rfl]
        exact ⟨_, rfl, rfl⟩) (by omega) rfl
  rw [e1, e2]
