/-! an hour, a jug, many strokes -/
theorem xmin_comm (a b : Int32) : xmin a b = xmin b a := by
  unfold xmin
  by_cases h1 : b < a
  · rw [if_pos h1, if_neg (by rw [zlt] at *; omega)]
  · rw [if_neg h1]
    by_cases h2 : a < b
    · rw [if_pos h2]
    · rw [if_neg h2, zeq]; rw [zlt] at h1 h2; omega
theorem xmin_le (a b : Int32) : (if a ≤ b then a else b) = xmin a b := by
  unfold xmin
  by_cases h1 : a ≤ b
  · rw [if_pos h1, if_neg (by rw [zlt]; rw [zle] at h1; omega)]
  · rw [if_neg h1, if_pos (by rw [zlt]; rw [zle] at h1; omega)]
theorem xmax_0 (a : Int32) : (if 0 ≤ a then a else 0) = xmax 0 a := by
  unfold xmax
  by_cases h1 : 0 < a
  · rw [if_pos h1, if_pos (by rw [zle]; rw [zlt] at h1; omega)]
  · rw [if_neg h1]
    by_cases h2 : 0 ≤ a
    · rw [if_pos h2, zeq]; rw [zlt] at h1; rw [zle] at h2; omega
    · rw [if_neg h2]
theorem xmin_int (a b : Int32) : (xmin a b).toInt = if b.toInt < a.toInt then b.toInt else a.toInt := by
  unfold xmin
  by_cases h : b < a
  · rw [if_pos h, if_pos (zlt.mp h)]
  · rw [if_neg h, if_neg (fun q => h (zlt.mpr q))]
theorem xmax_int (a b : Int32) : (xmax a b).toInt = if a.toInt < b.toInt then b.toInt else a.toInt := by
  unfold xmax
  by_cases h : a < b
  · rw [if_pos h, if_pos (zlt.mp h)]
  · rw [if_neg h, if_neg (fun q => h (zlt.mpr q))]
def hrE (y : K4) (c : K0) : Int32 := xmin (dep y c.2.2.1) ((c.1 + y.2.2.2.2.2.1) + f_X4_airAbove y (dep y c.2.2.1))
def hrD (y : K4) (c : K0) : Int32 := xmax 0 (c.2.2.1 - y.2.2.2.1)
/-- one hour (its count left alone) -/
def hourS (y : K4) (c : K0) : K0 := (xmin (hrE y c) (dep y (hrD y c)), (if hrE y c ≤ 0 then c.2.1 else xmax 0 (c.2.1 - 10)), hrD y c, c.2.2.2.1, c.2.2.2.2.1, c.2.2.2.2.2.1, c.2.2.2.2.2.2)
def bumpH (c : K0) : K0 := (c.1, c.2.1, c.2.2.1, c.2.2.2.1, c.2.2.2.2.1, c.2.2.2.2.2.1 + 1, c.2.2.2.2.2.2)
theorem f_X0_standAnHour_eq {y : K4} (hy : VY y) (c : K0) : f_X0_standAnHour c y = some (hourS y c) := by
  unfold f_X0_standAnHour
  rw [f_X4_depth_eq hy, Option.bind_some]
  have hw : (if xmin (dep y c.2.2.1) ((c.1 + y.2.2.2.2.2.1) + f_X4_airAbove y (dep y c.2.2.1)) ≤ 0 then some c.2.1 else some (xmax 0 (c.2.1 - 10)) : Option Int32) = some (if hrE y c ≤ 0 then c.2.1 else xmax 0 (c.2.1 - 10)) := by
    unfold hrE
    split <;> rfl
  rw [hw, Option.bind_some, f_X4_depth_eq hy]
  rfl
theorem f_X7_goHour_eq {p t : Nat → Int32} {y : K4} {c : K0} (o : K7) (hp : RP p y) (hy : VY y) (ht : RC t c) (hc : VC c) : ∃ t', f_X7_goHour o p t = some t' ∧ RC t' (bumpH (hourS y c)) := by
  unfold f_X7_goHour
  rw [f_X7_depth_eq o hp hy, f_X7_air_eq o hp hy, Option.bind_some, Option.bind_some]
  obtain ⟨q0, q1, q2, q3, q4, q5, -⟩ := id hp
  obtain ⟨g0, g1, g2, g3, g4, g5, g6⟩ := ht
  rw [g0, g1, g2, q5]
  have h4 : (if (c.1 + y.2.2.2.2.2.1) + f_X4_airAbove y (dep y c.2.2.1) ≤ dep y c.2.2.1 then some ((c.1 + y.2.2.2.2.2.1) + f_X4_airAbove y (dep y c.2.2.1)) else some (dep y c.2.2.1) : Option Int32) = some (hrE y c) := by
    rw [← apply_ite some, xmin_le, xmin_comm]; rfl
  rw [h4, Option.bind_some]
  have h6 : (if hrE y c ≤ 0 then some c.2.1 else some (c.2.1 - 10) : Option Int32) = some (if hrE y c ≤ 0 then c.2.1 else c.2.1 - 10) := by split <;> rfl
  rw [h6, Option.bind_some]
  have h8 : (if (0 : Int32) ≤ (if hrE y c ≤ 0 then c.2.1 else c.2.1 - 10) then some (if hrE y c ≤ 0 then c.2.1 else c.2.1 - 10) else some 0 : Option Int32) = some (if hrE y c ≤ 0 then c.2.1 else xmax 0 (c.2.1 - 10)) := by
    by_cases k : hrE y c ≤ 0
    · rw [if_pos k, if_pos k, if_pos (by rw [zle, z0]; exact hc.2.1.1)]
    · rw [if_neg k, if_neg k, ← xmax_0]
      split <;> rfl
  rw [h8, Option.bind_some]
  have u2 : ∀ v : Int32, (upd t 1 v) 2 = c.2.2.1 := fun v => by rw [← g2]; rfl
  rw [u2, q3]
  have h10 : (if (0 : Int32) ≤ c.2.2.1 - y.2.2.2.1 then some (c.2.2.1 - y.2.2.2.1) else some 0 : Option Int32) = some (hrD y c) := by
    rw [← apply_ite some, xmax_0]; rfl
  rw [h10, Option.bind_some, f_X7_depth_eq o hp hy]
  have u3 : ∀ (v w : Int32), (upd (upd t 1 v) 2 w) 2 = w := fun v w => rfl
  rw [u3, Option.bind_some, Option.bind_some, ← apply_ite some, xmin_le, Option.bind_some]
  refine ⟨_, rfl, ?_⟩
  simp [RC, bumpH, hourS, upd, g3, g4, g5, g6]
theorem hourS_VC {y : K4} {c : K0} (hy : VY y) (hc : VC c) : VC (hourS y c) := by
  have hd := (dep_int hy hc.2.2.1 hc.2.2.2).2
  have ha := air_int hy (dep y c.2.2.1)
  obtain ⟨-, -, -, hcm, -, hf, -⟩ := id hy
  obtain ⟨c1, c2, c3⟩ := id hc
  have e1 := zadd (x := c.1) (y := y.2.2.2.2.2.1) (by omega) (by omega)
  have e2 := zadd (x := c.1 + y.2.2.2.2.2.1) (y := f_X4_airAbove y (dep y c.2.2.1)) (by omega) (by omega)
  have e3 := zsub (x := c.2.2.1) (y := y.2.2.2.1) (by omega) (by omega)
  have e4 : (hrD y c).toInt = if 0 < (c.2.2.1 - y.2.2.2.1).toInt then (c.2.2.1 - y.2.2.2.1).toInt else 0 := by
    unfold hrD; rw [xmax_int, z0]
  have d1 : 0 ≤ (hrD y c).toInt ∧ (hrD y c).toInt ≤ 100000 := by
    rw [e4]; split <;> omega
  have hd2 := (dep_int hy d1.1 d1.2).2
  have e5 : (hrE y c).toInt = if ((c.1 + y.2.2.2.2.2.1) + f_X4_airAbove y (dep y c.2.2.1)).toInt < (dep y c.2.2.1).toInt then ((c.1 + y.2.2.2.2.2.1) + f_X4_airAbove y (dep y c.2.2.1)).toInt else (dep y c.2.2.1).toInt := by
    unfold hrE; rw [xmin_int]
  have d2 : 0 ≤ (hrE y c).toInt := by
    rw [e5]; split <;> omega
  refine ⟨?_, ?_, d1⟩
  · show 0 ≤ (xmin (hrE y c) (dep y (hrD y c))).toInt ∧ (xmin (hrE y c) (dep y (hrD y c))).toInt ≤ 2000000
    rw [xmin_int]
    split <;> omega
  · show 0 ≤ (if hrE y c ≤ 0 then c.2.1 else xmax 0 (c.2.1 - 10) : Int32).toInt ∧ (if hrE y c ≤ 0 then c.2.1 else xmax 0 (c.2.1 - 10) : Int32).toInt ≤ 100
    split
    · exact c2
    · have e6 := zsub (x := c.2.1) (y := 10) (by rw [z10]; omega) (by rw [z10]; omega)
      rw [z10] at e6
      rw [xmax_int, z0]
      split <;> omega
theorem f_X7_pour_eq {t : Nat → Int32} {c : K0} {n : Int32} (o : K7) (ht : RC t c) (hc : VC c) (h0 : 0 ≤ n.toInt) (h1 : n.toInt ≤ 99) : ∃ t', f_X7_pour o t n = some ((f_X0_pour c n).1, t') ∧ RC t' (f_X0_pour c n).2 := by
  obtain ⟨c1, c2, c3⟩ := id hc
  obtain ⟨g0, g1, g2, g3, g4, g5, g6⟩ := ht
  have e1 := zsub (x := n) (y := c.1) (by omega) (by omega)
  have e2 := zsub (x := c.1) (y := n) (by omega) (by omega)
  have e5 : ((5 : Int32) * n).toInt = 5 * n.toInt := by rw [zmul] <;> rw [z5] <;> omega
  have e6 := zadd (x := c.2.1) (y := 5 * n) (by omega) (by omega)
  unfold f_X7_pour f_X0_pour
  have hv : (if n ≤ t 0 then some 0 else some (n - t 0) : Option Int32) = some (xmax 0 (n - c.1)) := by
    rw [g0]
    unfold xmax
    by_cases k : n ≤ c.1
    · rw [if_pos k, if_neg (by rw [zlt, z0]; rw [zle] at k; omega)]
    · rw [if_neg k, if_pos (by rw [zlt, z0]; rw [zle] at k; omega)]
  rw [hv, Option.bind_some]
  have u1 : ∀ v : Int32, (upd t 0 v) 1 = c.2.1 := fun v => by rw [← g1]; rfl
  have hw : c.1 - (n - xmax 0 (n - c.1)) = xmax 0 (c.1 - n) := by
    unfold xmax
    by_cases k : (0 : Int32) < n - c.1
    · have k' := k
      rw [zlt, z0] at k'
      have e7 := zsub (x := n) (y := n - c.1) (by omega) (by omega)
      rw [if_pos k, if_neg (by rw [zlt, z0]; omega), zeq, z0, zsub] <;> omega
    · have k' := k
      rw [zlt, z0] at k'
      have e8 : n - 0 = n := by rw [zeq, zsub] <;> rw [z0] <;> omega
      rw [if_neg k, e8]
      by_cases k2 : (0 : Int32) < c.1 - n
      · rw [if_pos k2]
      · rw [if_neg k2, zeq, z0]
        rw [zlt, z0] at k2
        omega
  rw [g0]
  simp only [u1, hw]
  have hx : xmin 100 (c.2.1 + 5 * n) = if c.2.1 + 5 * n ≤ 100 then c.2.1 + 5 * n else 100 := by
    rw [xmin_le, xmin_comm]
  by_cases k : c.2.1 + 5 * n ≤ 100
  · rw [if_pos k]
    rw [if_pos k] at hx
    refine ⟨_, rfl, ?_⟩
    rw [hx]
    simp [RC, upd, g2, g3, g4, g5, g6]
  · rw [if_neg k]
    rw [if_neg k] at hx
    refine ⟨_, rfl, ?_⟩
    rw [hx]
    simp [RC, upd, g2, g3, g4, g5, g6]
theorem pour_VC {c : K0} {n : Int32} (hc : VC c) (h0 : 0 ≤ n.toInt) (h1 : n.toInt ≤ 99) : VC (f_X0_pour c n).2 := by
  obtain ⟨c1, c2, c3⟩ := id hc
  have e2 := zsub (x := c.1) (y := n) (by omega) (by omega)
  have e5 : ((5 : Int32) * n).toInt = 5 * n.toInt := by rw [zmul] <;> rw [z5] <;> omega
  have e6 := zadd (x := c.2.1) (y := 5 * n) (by omega) (by omega)
  refine ⟨?_, ?_, c3⟩
  · show 0 ≤ (xmax 0 (c.1 - n)).toInt ∧ (xmax 0 (c.1 - n)).toInt ≤ 2000000
    rw [xmax_int, z0]
    split <;> omega
  · show 0 ≤ (xmin 100 (c.2.1 + 5 * n)).toInt ∧ (xmin 100 (c.2.1 + 5 * n)).toInt ≤ 100
    rw [xmin_int, z100]
    split <;> omega
theorem gnS_pos_dep {y : K4} {c : K0} (h : 0 < (gnS y c).toInt) : dep y c.2.2.1 ≤ 10 * y.1 := by
  unfold gnS f_X4_gain at h
  by_cases k : dep y c.2.2.1 ≤ 10 * y.1
  · exact k
  · rw [if_neg k, z0] at h; omega
theorem strokeS_VC {y : K4} {c : K0} (hy : VY y) (hc : VC c) : VC (strokeS y c).2 := by
  have hg := gnS_int hy hc
  obtain ⟨hd0, hd⟩ := dep_int hy hc.2.2.1 hc.2.2.2
  have hl := lift_int hy
  obtain ⟨c1, c2, c3⟩ := id hc
  have e1 := zsub (x := dep y c.2.2.1) (y := f_X4_lift y) (by omega) (by omega)
  have e2 := zsub (x := c.1) (y := gnS y c) (by omega) (by omega)
  have e4 := zsub (x := gnS y c) (y := c.1) (by omega) (by omega)
  unfold strokeS
  split
  · split
    · rename_i k
      rw [zle] at k
      exact ⟨by show 0 ≤ (c.1 - gnS y c).toInt ∧ (c.1 - gnS y c).toInt ≤ 2000000; omega, c2, c3⟩
    · rename_i k
      rw [zle] at k
      have k2 := gnS_pos_dep (y := y) (c := c) (by omega)
      obtain ⟨hf, -, hw, -, hb, -⟩ := hy
      have e5 : ((10 : Int32) * y.1).toInt = 10 * y.1.toInt := by rw [zmul] <;> rw [z10] <;> omega
      rw [zle, e5] at k2
      have q1 : c.2.2.1.toInt / y.2.2.2.2.1.toInt ≤ 980 := by omega
      have q2 := Int.lt_ediv_add_one_mul_self c.2.2.1.toInt (b := y.2.2.2.2.1.toInt) (by omega)
      have q3 : (c.2.2.1.toInt / y.2.2.2.2.1.toInt + 1) * y.2.2.2.2.1.toInt ≤ 981 * 99 := Int.mul_le_mul (by omega) (by omega) (by omega) (by omega)
      have e6 := zadd (x := c.2.2.1) (y := gnS y c - c.1) (by omega) (by omega)
      refine ⟨?_, ?_, ?_⟩
      · show 0 ≤ (0 : Int32).toInt ∧ (0 : Int32).toInt ≤ 2000000
        rw [z0]; omega
      · show 0 ≤ (100 : Int32).toInt ∧ (100 : Int32).toInt ≤ 100
        rw [z100]; omega
      · show 0 ≤ (c.2.2.1 + (gnS y c - c.1)).toInt ∧ (c.2.2.1 + (gnS y c - c.1)).toInt ≤ 100000
        omega
  · rename_i k0
    rw [zle] at k0
    refine ⟨?_, c2, c3⟩
    show 0 ≤ (if c.1 < dep y c.2.2.1 - f_X4_lift y then c.1 else if c.1 - gnS y c < dep y c.2.2.1 - f_X4_lift y then dep y c.2.2.1 - f_X4_lift y else c.1 - gnS y c : Int32).toInt ∧ (if c.1 < dep y c.2.2.1 - f_X4_lift y then c.1 else if c.1 - gnS y c < dep y c.2.2.1 - f_X4_lift y then dep y c.2.2.1 - f_X4_lift y else c.1 - gnS y c : Int32).toInt ≤ 2000000
    split
    · exact c1
    · rename_i k1
      rw [zlt] at k1
      split
      · omega
      · rename_i k2
        rw [zlt] at k2
        omega
