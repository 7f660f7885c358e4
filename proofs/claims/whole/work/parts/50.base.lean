/-! the pure side, first: numbers; what a stroke, a jug, an hour do, for class and reference alike -/
theorem zlt {x y : Int32} : x < y ↔ x.toInt < y.toInt := Int32.lt_iff_toInt_lt
theorem zle {x y : Int32} : x ≤ y ↔ x.toInt ≤ y.toInt := Int32.le_iff_toInt_le
theorem zeq {x y : Int32} : x = y ↔ x.toInt = y.toInt := Int32.toInt_inj.symm
theorem zr (x : Int32) : -2147483648 ≤ x.toInt ∧ x.toInt < 2147483648 := by
  have h1 := Int32.le_toInt x
  have h2 := Int32.toInt_lt x
  omega
theorem zbm {z : Int} (h1 : -2147483648 ≤ z) (h2 : z < 2147483648) : z.bmod (2 ^ 32) = z := by
  rw [Int.bmod_eq_of_le] <;> omega
theorem zadd {x y : Int32} (h1 : -2147483648 ≤ x.toInt + y.toInt) (h2 : x.toInt + y.toInt < 2147483648) : (x + y).toInt = x.toInt + y.toInt := by
  rw [Int32.toInt_add]; exact zbm h1 h2
theorem zsub {x y : Int32} (h1 : -2147483648 ≤ x.toInt - y.toInt) (h2 : x.toInt - y.toInt < 2147483648) : (x - y).toInt = x.toInt - y.toInt := by
  rw [Int32.toInt_sub]; exact zbm h1 h2
theorem zmul {x y : Int32} (h1 : -2147483648 ≤ x.toInt * y.toInt) (h2 : x.toInt * y.toInt < 2147483648) : (x * y).toInt = x.toInt * y.toInt := by
  rw [Int32.toInt_mul]; exact zbm h1 h2
theorem zneg {x : Int32} (h1 : -2147483648 < x.toInt) : (-x).toInt = -x.toInt := by
  have := zr x
  rw [Int32.toInt_neg]; exact zbm (by omega) (by omega)
theorem znI {x : Int32} (h : 0 ≤ x.toInt) : x = nI x.toInt.toNat := by
  have := zr x
  rw [zeq, nI_toInt (by omega)]; omega
theorem zdiv {x y : Int32} (h1 : 0 ≤ x.toInt) (h2 : 0 < y.toInt) : (x / y).toInt = x.toInt / y.toInt := by
  have hx := zr x
  have hy := zr y
  have e : x / y = nI (x.toInt.toNat / y.toInt.toNat) := by
    conv => lhs; rw [znI h1, znI (x := y) (by omega)]
    exact pk_div (by omega) (by omega) (by omega)
  have hle : x.toInt.toNat / y.toInt.toNat ≤ x.toInt.toNat := Nat.div_le_self _ _
  rw [e, nI_toInt (by omega)]
  have : ((x.toInt.toNat / y.toInt.toNat : Nat) : Int) = (x.toInt.toNat : Int) / (y.toInt.toNat : Int) := Int.natCast_ediv _ _
  rw [this]
  congr 1 <;> omega
theorem z0 : (0 : Int32).toInt = 0 := by decide
theorem z1 : (1 : Int32).toInt = 1 := by decide
theorem z5 : (5 : Int32).toInt = 5 := by decide
theorem z10 : (10 : Int32).toInt = 10 := by decide
theorem z99 : (99 : Int32).toInt = 99 := by decide
theorem z100 : (100 : Int32).toInt = 100 := by decide
theorem z200 : (200 : Int32).toInt = 200 := by decide
theorem z340 : (340 : Int32).toInt = 340 := by decide
/-- the yard's numbers are as they may be -/
def VY (y : K4) : Prop := (1 ≤ y.1.toInt ∧ y.1.toInt ≤ 99) ∧ (1 ≤ y.2.1.toInt ∧ y.2.1.toInt ≤ 30) ∧ (1 ≤ y.2.2.1.toInt ∧ y.2.2.1.toInt ≤ 99) ∧ (0 ≤ y.2.2.2.1.toInt ∧ y.2.2.2.1.toInt ≤ 99) ∧ (1 ≤ y.2.2.2.2.1.toInt ∧ y.2.2.2.2.1.toInt ≤ 99) ∧ (0 ≤ y.2.2.2.2.2.1.toInt ∧ y.2.2.2.2.2.1.toInt ≤ 99) ∧ (1 ≤ y.2.2.2.2.2.2.1.toInt ∧ y.2.2.2.2.2.2.1.toInt ≤ 99) ∧ (0 ≤ y.2.2.2.2.2.2.2.1.toInt ∧ y.2.2.2.2.2.2.2.1.toInt ≤ 30) ∧ (0 ≤ y.2.2.2.2.2.2.2.2.1.toInt ∧ y.2.2.2.2.2.2.2.2.1.toInt ≤ 100) ∧ (0 ≤ y.2.2.2.2.2.2.2.2.2.1.toInt ∧ y.2.2.2.2.2.2.2.2.2.1.toInt ≤ 99) ∧ (0 ≤ y.2.2.2.2.2.2.2.2.2.2.toInt ∧ y.2.2.2.2.2.2.2.2.2.2.toInt ≤ 40)
/-- the column's numbers are as they come -/
def VC (c : K0) : Prop := (0 ≤ c.1.toInt ∧ c.1.toInt ≤ 2000000) ∧ (0 ≤ c.2.1.toInt ∧ c.2.1.toInt ≤ 100) ∧ (0 ≤ c.2.2.1.toInt ∧ c.2.2.1.toInt ≤ 100000)
/-- the reference's numbers are the class's -/
def RP (p : Nat → Int32) (y : K4) : Prop := p 0 = y.1 ∧ p 1 = y.2.1 ∧ p 2 = y.2.2.1 ∧ p 3 = y.2.2.2.1 ∧ p 4 = y.2.2.2.2.1 ∧ p 5 = y.2.2.2.2.2.1 ∧ p 6 = y.2.2.2.2.2.2.1 ∧ p 7 = y.2.2.2.2.2.2.2.1 ∧ p 8 = y.2.2.2.2.2.2.2.2.1 ∧ p 9 = y.2.2.2.2.2.2.2.2.2.1 ∧ p 10 = y.2.2.2.2.2.2.2.2.2.2
def RC (t : Nat → Int32) (c : K0) : Prop := t 0 = c.1 ∧ t 1 = c.2.1 ∧ t 2 = c.2.2.1 ∧ t 3 = c.2.2.2.1 ∧ t 4 = c.2.2.2.2.1 ∧ t 5 = c.2.2.2.2.2.1 ∧ t 6 = c.2.2.2.2.2.2
/-- DEPTH -/
def dep (y : K4) (d : Int32) : Int32 := 10 * y.2.2.1 + d / y.2.2.2.2.1
theorem dep_int {y : K4} {d : Int32} (hy : VY y) (h0 : 0 ≤ d.toInt) (h1 : d.toInt ≤ 100000) : (dep y d).toInt = 10 * y.2.2.1.toInt + d.toInt / y.2.2.2.2.1.toInt ∧ 10 ≤ (dep y d).toInt ∧ (dep y d).toInt ≤ 100990 := by
  obtain ⟨-, -, hw, -, hb, -⟩ := hy
  have e1 := zdiv (x := d) (y := y.2.2.2.2.1) h0 (by omega)
  have b1 : d.toInt / y.2.2.2.2.1.toInt ≤ d.toInt := Int.ediv_le_self _ h0
  have b2 : 0 ≤ d.toInt / y.2.2.2.2.1.toInt := Int.ediv_nonneg h0 (by omega)
  have e2 : ((10 : Int32) * y.2.2.1).toInt = 10 * y.2.2.1.toInt := by
    rw [zmul] <;> rw [z10] <;> omega
  have e3 : (dep y d).toInt = 10 * y.2.2.1.toInt + d.toInt / y.2.2.2.2.1.toInt := by
    unfold dep
    rw [zadd] <;> rw [e1, e2] <;> omega
  refine ⟨e3, ?_, ?_⟩ <;> omega
theorem f_X4_depth_eq {y : K4} (hy : VY y) (d : Int32) : f_X4_depth y d = some (dep y d) := by
  have hb := hy.2.2.2.2.1
  unfold f_X4_depth dep
  rw [if_neg (by rw [zle, z0]; omega)]
  rfl
theorem f_X7_depth_eq {p t : Nat → Int32} {y : K4} (o : K7) (hp : RP p y) (hy : VY y) : f_X7_depth o p t = some (dep y (t 2)) := by
  have hb := hy.2.2.2.2.1
  obtain ⟨h0, h1, h2, h3, h4, -⟩ := hp
  unfold f_X7_depth dep
  rw [h4, h2, if_neg (by rw [zeq, z0]; omega)]
theorem f_X7_air_eq {p t : Nat → Int32} {y : K4} (o : K7) (hp : RP p y) (hy : VY y) : f_X7_air o p t = some (f_X4_airAbove y (dep y (t 2))) := by
  unfold f_X7_air f_X4_airAbove
  rw [f_X7_depth_eq o hp hy]
  obtain ⟨h0, h1, h2, h3, h4, h5, h6, h7, -⟩ := hp
  rw [Option.bind_some, h6, h7]
  split <;> rfl
theorem air_int {y : K4} (hy : VY y) (d : Int32) : 0 ≤ (f_X4_airAbove y d).toInt ∧ (f_X4_airAbove y d).toInt ≤ 30 := by
  obtain ⟨-, -, -, -, -, -, -, ha, -⟩ := hy
  unfold f_X4_airAbove
  split
  · rw [z0]; omega
  · exact ha
/-- GAIN of the next stroke -/
def gnS (y : K4) (c : K0) : Int32 := f_X4_gain y c.2.1 (dep y c.2.2.1)
theorem gain_raw {y : K4} {w : Int32} (hy : VY y) (h0 : 0 ≤ w.toInt) (h1 : w.toInt ≤ 100) : 0 ≤ ((y.2.1 * w) / 100).toInt ∧ ((y.2.1 * w) / 100).toInt ≤ 30 := by
  obtain ⟨-, hs, -⟩ := hy
  have m0 : 0 ≤ y.2.1.toInt * w.toInt := Int.mul_nonneg (by omega) h0
  have m1 : y.2.1.toInt * w.toInt ≤ 30 * 100 := Int.mul_le_mul (by omega) h1 h0 (by omega)
  have e1 : (y.2.1 * w).toInt = y.2.1.toInt * w.toInt := zmul (by omega) (by omega)
  have e2 := zdiv (x := y.2.1 * w) (y := 100) (by rw [e1]; exact m0) (by rw [z100]; omega)
  rw [e2, e1, z100]
  omega
theorem gnS_int {y : K4} {c : K0} (hy : VY y) (hc : VC c) : 0 ≤ (gnS y c).toInt ∧ (gnS y c).toInt ≤ 30 := by
  have hr := gain_raw hy hc.2.1.1 hc.2.1.2
  have ha := air_int hy (dep y c.2.2.1)
  unfold gnS f_X4_gain
  split
  · have e := zsub (x := (y.2.1 * c.2.1) / 100) (y := f_X4_airAbove y (dep y c.2.2.1)) (by omega) (by omega)
    show 0 ≤ (xmax 0 _).toInt ∧ (xmax 0 _).toInt ≤ 30
    unfold xmax
    split
    · rename_i h; rw [zlt, z0] at h; constructor <;> omega
    · rw [z0]; omega
  · rw [z0]; omega
theorem f_X7_gain_eq {p t : Nat → Int32} {y : K4} {c : K0} (o : K7) (hp : RP p y) (hy : VY y) (ht : RC t c) (hc : VC c) : f_X7_gain o p t = some (gnS y c) := by
  have hr := gain_raw hy hc.2.1.1 hc.2.1.2
  have ha := air_int hy (dep y c.2.2.1)
  have e := zsub (x := (y.2.1 * c.2.1) / 100) (y := f_X4_airAbove y (dep y c.2.2.1)) (by omega) (by omega)
  unfold f_X7_gain gnS f_X4_gain
  rw [f_X7_air_eq o hp hy, f_X7_depth_eq o hp hy]
  obtain ⟨h0, h1, -⟩ := hp
  obtain ⟨-, g1, g2, -⟩ := ht
  rw [Option.bind_some, Option.bind_some, h0, h1, g1, g2]
  unfold xmax
  by_cases k1 : dep y c.2.2.1 ≤ 10 * y.1
  · rw [if_pos k1, if_pos k1]
    by_cases k2 : ((y.2.1 * c.2.1) / 100 - f_X4_airAbove y (dep y c.2.2.1)) < 0
    · rw [if_pos k2, if_neg (by rw [zlt, z0] at *; omega)]
    · rw [if_neg k2]
      by_cases k3 : (0 : Int32) < ((y.2.1 * c.2.1) / 100 - f_X4_airAbove y (dep y c.2.2.1))
      · rw [if_pos k3]
      · rw [if_neg k3]
        congr 1
        rw [zlt, z0] at k2 k3
        rw [zeq, z0]
        omega
  · rw [if_neg k1, if_neg k1]
    split <;> rfl
theorem f_X7_lift_eq {p : Nat → Int32} {y : K4} (o : K7) (hp : RP p y) : f_X7_lift o p = f_X4_lift y := by
  obtain ⟨h0, h1, h2, h3, h4, h5, h6, h7, h8, h9, h10⟩ := hp
  unfold f_X7_lift f_X4_lift
  rw [h9, h10]
theorem lift_int {y : K4} (hy : VY y) : 201 ≤ (f_X4_lift y).toInt ∧ (f_X4_lift y).toInt ≤ 340 := by
  obtain ⟨-, -, -, -, -, -, -, -, -, h9, h10⟩ := hy
  unfold f_X4_lift
  have e1 := zsub (x := 340) (y := y.2.2.2.2.2.2.2.2.2.1) (by rw [z340]; omega) (by rw [z340]; omega)
  rw [z340] at e1
  have e2 := zsub (x := 340 - y.2.2.2.2.2.2.2.2.2.1) (y := y.2.2.2.2.2.2.2.2.2.2) (by omega) (by omega)
  rw [e2, e1]
  omega
def feltS (y : K4) (c : K0) : Int32 := if gnS y c ≤ 0 then 0 else (dep y c.2.2.1 - c.1) / 10
/-- one stroke: cups that come, and the column (its count of strokes left alone) -/
def strokeS (y : K4) (c : K0) : Int32 × K0 :=
  if dep y c.2.2.1 ≤ f_X4_lift y then
    if gnS y c ≤ c.1 then (0, (c.1 - gnS y c, c.2.1, c.2.2.1, c.2.2.2.1, c.2.2.2.2.1, c.2.2.2.2.2.1, feltS y c))
    else (gnS y c - c.1, (0, 100, c.2.2.1 + (gnS y c - c.1), c.2.2.2.1 + (gnS y c - c.1), c.2.2.2.2.1, c.2.2.2.2.2.1, feltS y c))
  else (0, ((if c.1 < dep y c.2.2.1 - f_X4_lift y then c.1 else if c.1 - gnS y c < dep y c.2.2.1 - f_X4_lift y then dep y c.2.2.1 - f_X4_lift y else c.1 - gnS y c), c.2.1, c.2.2.1, c.2.2.2.1, c.2.2.2.2.1, c.2.2.2.2.2.1, feltS y c))
theorem f_X0_pullOnce_eq {y : K4} {c : K0} (hy : VY y) (hc : VC c) : f_X0_pullOnce c y = some (strokeS y c) := by
  have hg := gnS_int hy hc
  have hd := (dep_int hy hc.2.2.1 hc.2.2.2).2
  have hl := lift_int hy
  have hE := hc.1
  have eg : f_X4_gain y c.2.1 (dep y c.2.2.1) = gnS y c := rfl
  have e1 := zsub (x := dep y c.2.2.1) (y := f_X4_lift y) (by omega) (by omega)
  have e2 := zsub (x := c.1) (y := gnS y c) (by omega) (by omega)
  unfold f_X0_pullOnce
  rw [f_X4_depth_eq hy, Option.bind_some]
  simp only [eg]
  have hf : (if gnS y c ≤ 0 then some 0 else some ((dep y c.2.2.1 - c.1) / 10) : Option Int32) = some (feltS y c) := by
    unfold feltS
    split <;> rfl
  rw [hf, Option.bind_some]
  unfold strokeS xmin xmax
  by_cases k1 : dep y c.2.2.1 ≤ f_X4_lift y
  · rw [if_pos k1, if_pos (by rw [zle, z0] at *; omega)]
    by_cases k2 : gnS y c ≤ c.1
    · rw [if_pos k2, if_neg (by rw [zlt, zle] at *; omega)]
    · rw [if_neg k2, if_pos (by rw [zlt, zle] at *; omega)]
  · rw [if_neg k1, if_neg (by rw [zle, z0] at *; omega)]
    rw [zle] at k1
    by_cases k2 : c.1 < dep y c.2.2.1 - f_X4_lift y
    · rw [if_pos k2]
      have k2' := k2
      rw [zlt] at k2'
      by_cases k3 : dep y c.2.2.1 - f_X4_lift y < c.1 - gnS y c
      · rw [zlt] at k3; omega
      · rw [if_neg k3, if_neg (by rw [zlt]; omega)]
    · rw [if_neg k2]
      rw [zlt] at k2
      by_cases k3 : dep y c.2.2.1 - f_X4_lift y < c.1 - gnS y c
      · have k6 : ¬ c.1 - gnS y c < dep y c.2.2.1 - f_X4_lift y := by rw [zlt] at *; omega
        rw [if_pos k3]
        by_cases k4 : c.1 - gnS y c < c.1
        · rw [if_pos k4, if_neg k6]
        · rw [if_neg k4, if_neg k6]
          have : c.1 = c.1 - gnS y c := by rw [zlt] at k4; rw [zeq]; omega
          rw [← this]
      · rw [if_neg k3]
        by_cases k4 : c.1 - gnS y c < dep y c.2.2.1 - f_X4_lift y
        · rw [if_pos k4]
          by_cases k5 : dep y c.2.2.1 - f_X4_lift y < c.1
          · rw [if_pos k5]
          · rw [if_neg k5]
            have : c.1 = dep y c.2.2.1 - f_X4_lift y := by rw [zlt] at k5; rw [zeq]; omega
            rw [← this]
        · rw [if_neg k4]
          have e9 : dep y c.2.2.1 - f_X4_lift y = c.1 - gnS y c := by rw [zlt] at k3 k4; rw [zeq]; omega
          rw [e9]
          by_cases k5 : c.1 - gnS y c < c.1
          · rw [if_pos k5]
          · rw [if_neg k5]
            have : c.1 = c.1 - gnS y c := by rw [zlt] at k5; rw [zeq]; omega
            rw [← this]
/-- one more stroke is counted -/
def bump (c : K0) : K0 := (c.1, c.2.1, c.2.2.1, c.2.2.2.1, c.2.2.2.2.1 + 1, c.2.2.2.2.2.1, c.2.2.2.2.2.2)
theorem f_X7_stroke_eq {p t : Nat → Int32} {y : K4} {c : K0} (o : K7) (hp : RP p y) (hy : VY y) (ht : RC t c) (hc : VC c) : ∃ t', f_X7_stroke o p t = some ((strokeS y c).1, t') ∧ RC t' (bump (strokeS y c).2) := by
  have hg := gnS_int hy hc
  have hd := (dep_int hy hc.2.2.1 hc.2.2.2).2
  have hl := lift_int hy
  have hE := hc.1
  have e1 := zsub (x := dep y c.2.2.1) (y := f_X4_lift y) (by omega) (by omega)
  have e2 := zsub (x := c.1) (y := gnS y c) (by omega) (by omega)
  have e3 := zneg (x := c.1 - gnS y c) (by omega)
  have e4 := zsub (x := gnS y c) (y := c.1) (by omega) (by omega)
  unfold f_X7_stroke
  rw [f_X7_gain_eq o hp hy ht hc, f_X7_depth_eq o hp hy, f_X7_lift_eq o hp, Option.bind_some, Option.bind_some]
  obtain ⟨g0, g1, g2, g3, g4, g5, g6⟩ := ht
  rw [g0, g2]
  have hf : (if gnS y c ≤ 0 then some 0 else some ((dep y c.2.2.1 - c.1) / 10) : Option Int32) = some (feltS y c) := by
    unfold feltS
    split <;> rfl
  rw [hf]
  unfold strokeS
  by_cases k1 : dep y c.2.2.1 ≤ f_X4_lift y
  · rw [if_pos k1, if_pos (by rw [zle, z0] at *; omega), Option.bind_some]
    by_cases k2 : gnS y c ≤ c.1
    · have k3 : (0 : Int32) ≤ c.1 - gnS y c := by rw [zle, z0] at *; omega
      rw [if_pos k2, if_pos k3, if_pos k3]
      simp only [Option.bind_some]
      rw [if_pos (by decide : (0 : Int32) ≤ 0)]
      refine ⟨_, rfl, ?_⟩
      simp [RC, bump, upd, g1, g2, g3, g4, g5]
    · have k3 : ¬ (0 : Int32) ≤ c.1 - gnS y c := by rw [zle, z0] at *; omega
      rw [if_neg k2, if_neg k3, if_neg k3]
      simp only [Option.bind_some]
      have e5 : -(c.1 - gnS y c) = gnS y c - c.1 := by rw [zeq]; omega
      rw [e5, if_neg (by rw [zle, z0] at *; omega)]
      refine ⟨_, rfl, ?_⟩
      simp [RC, bump, upd, g1, g2, g3, g4, g5]
  · rw [if_neg k1, if_neg (by rw [zle, z0] at *; omega)]
    rw [zle] at k1
    have fin : ∀ v : Int32, 0 ≤ v.toInt → (if dep y c.2.2.1 - f_X4_lift y ≤ c.1 then (if dep y c.2.2.1 - f_X4_lift y ≤ c.1 - gnS y c then some (c.1 - gnS y c) else some (dep y c.2.2.1 - f_X4_lift y)) else some c.1 : Option Int32) = some v →
        (if c.1 < dep y c.2.2.1 - f_X4_lift y then c.1 else if c.1 - gnS y c < dep y c.2.2.1 - f_X4_lift y then dep y c.2.2.1 - f_X4_lift y else c.1 - gnS y c) = v := by
      intro v _ hv
      by_cases k2 : c.1 < dep y c.2.2.1 - f_X4_lift y
      · rw [if_pos k2]
        rw [if_neg (by rw [zlt] at k2; rw [zle]; omega)] at hv
        exact Option.some.inj hv
      · rw [if_neg k2]
        rw [if_pos (by rw [zlt] at k2; rw [zle]; omega)] at hv
        by_cases k3 : c.1 - gnS y c < dep y c.2.2.1 - f_X4_lift y
        · rw [if_pos k3]
          rw [if_neg (by rw [zlt] at k3; rw [zle]; omega)] at hv
          exact Option.some.inj hv
        · rw [if_neg k3]
          rw [if_pos (by rw [zlt] at k3; rw [zle]; omega)] at hv
          exact Option.some.inj hv
    obtain ⟨v, hv, hv0⟩ : ∃ v : Int32, (if dep y c.2.2.1 - f_X4_lift y ≤ c.1 then (if dep y c.2.2.1 - f_X4_lift y ≤ c.1 - gnS y c then some (c.1 - gnS y c) else some (dep y c.2.2.1 - f_X4_lift y)) else some c.1 : Option Int32) = some v ∧ 0 ≤ v.toInt := by
      by_cases k2 : dep y c.2.2.1 - f_X4_lift y ≤ c.1
      · rw [if_pos k2]
        by_cases k3 : dep y c.2.2.1 - f_X4_lift y ≤ c.1 - gnS y c
        · rw [if_pos k3]; exact ⟨_, rfl, by rw [zle] at k3; omega⟩
        · rw [if_neg k3]; exact ⟨_, rfl, by omega⟩
      · rw [if_neg k2]; exact ⟨_, rfl, by omega⟩
    rw [fin v hv0 hv, hv]
    have k3 : (0 : Int32) ≤ v := by rw [zle, z0]; exact hv0
    simp only [Option.bind_some]
    rw [if_pos k3, if_pos k3]
    simp only [Option.bind_some]
    rw [if_pos (by decide : (0 : Int32) ≤ 0)]
    refine ⟨_, rfl, ?_⟩
    simp [RC, bump, upd, g1, g2, g3, g4, g5]
