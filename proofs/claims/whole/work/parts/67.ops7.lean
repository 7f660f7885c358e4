/-! the steps, one by one -/
def mixK (i : Nat) (a b : K4) : K4 := (if 0 < i then b.1 else a.1, if 1 < i then b.2.1 else a.2.1, if 2 < i then b.2.2.1 else a.2.2.1, if 3 < i then b.2.2.2.1 else a.2.2.2.1, if 4 < i then b.2.2.2.2.1 else a.2.2.2.2.1, if 5 < i then b.2.2.2.2.2.1 else a.2.2.2.2.2.1, if 6 < i then b.2.2.2.2.2.2.1 else a.2.2.2.2.2.2.1, if 7 < i then b.2.2.2.2.2.2.2.1 else a.2.2.2.2.2.2.2.1, if 8 < i then b.2.2.2.2.2.2.2.2.1 else a.2.2.2.2.2.2.2.2.1, if 9 < i then b.2.2.2.2.2.2.2.2.2.1 else a.2.2.2.2.2.2.2.2.2.1, if 10 < i then b.2.2.2.2.2.2.2.2.2.2 else a.2.2.2.2.2.2.2.2.2.2)
theorem mixK_s (a b : K4) (i : Nat) (h : i < 11) : f_X4_put (mixK i a b) (nI i) (f_X4_get b (nI i)) = mixK (i + 1) a b := by
  rcases (show i = 0 ∨ i = 1 ∨ i = 2 ∨ i = 3 ∨ i = 4 ∨ i = 5 ∨ i = 6 ∨ i = 7 ∨ i = 8 ∨ i = 9 ∨ i = 10 by omega) with rfl | rfl | rfl | rfl | rfl | rfl | rfl | rfl | rfl | rfl | rfl <;> rfl
theorem beLike4 (a b : K4) {N : Nat} (hN : 400 < N) : f_X4_beLike N a b = some b := by
  obtain ⟨v, e1, e2⟩ := xlp_rel (st := s_X4_beLike_2 b) (fun i v => v.1 = nI i ∧ v.2 = mixK i a b) 11 (fun v => v.2 = b) (n := N) (x := (0, a))
    (fun i x hi ⟨a1, a2⟩ => by
      refine Or.inl ⟨(nI (i + 1), mixK (i + 1) a b), ?_, rfl, rfl⟩
      unfold s_X4_beLike_2
      rw [a1, a2, if_neg (by rw [nlit, nle] <;> omega), Option.bind_some, mixK_s a b i hi, nI_1])
    (fun x ⟨a1, a2⟩ => ⟨x, by unfold s_X4_beLike_2; rw [a1, if_pos (by rw [nlit, nle] <;> omega), ← a1], by rw [a2]; rfl⟩) (by omega) ⟨rfl, rfl⟩
  unfold f_X4_beLike
  rw [e1, Option.bind_some, e2]
def bitQ (q i : Nat) : Prop := (nI q >>> (nI i &&& 31)) &&& 1 = 1
theorem bit01 : ∀ q, q < 32 → ∀ i, i < 5 → ((nI q >>> (nI i &&& 31)) &&& 1 = 0 ∨ (nI q >>> (nI i &&& 31)) &&& 1 = 1) := by decide +kernel
theorem bitM0 : ∀ q, q < 32 → decide (nI q &&& 1 = 1) = decide ((nI q >>> (nI 0 &&& 31)) &&& 1 = 1) := by decide +kernel
theorem bitM1 : ∀ q, q < 32 → decide (nI q &&& 2 = 2) = decide ((nI q >>> (nI 1 &&& 31)) &&& 1 = 1) := by decide +kernel
theorem bitM2 : ∀ q, q < 32 → decide (nI q &&& 4 = 4) = decide ((nI q >>> (nI 2 &&& 31)) &&& 1 = 1) := by decide +kernel
theorem bitM3 : ∀ q, q < 32 → decide (nI q &&& 8 = 8) = decide ((nI q >>> (nI 3 &&& 31)) &&& 1 = 1) := by decide +kernel
theorem bitM4 : ∀ q, q < 32 → decide (nI q &&& 16 = 16) = decide ((nI q >>> (nI 4 &&& 31)) &&& 1 = 1) := by decide +kernel
def costB (f : Nat → Int32) (q : Nat) : Nat → Int32
  | 0 => 0
  | i + 1 => if (nI q >>> (nI i &&& 31)) &&& 1 = 1 then costB f q i + f i else costB f q i
theorem costB_s (f : Nat → Int32) (q i : Nat) : costB f q (i + 1) = if (nI q >>> (nI i &&& 31)) &&& 1 = 1 then costB f q i + f i else costB f q i := rfl
theorem costB_congr {f g : Nat → Int32} (h : ∀ j, j < 5 → f j = g j) (q : Nat) : ∀ i, i ≤ 5 → costB f q i = costB g q i
  | 0, _ => rfl
  | i + 1, hi => by rw [costB_s, costB_s, costB_congr h q i (by omega), h i (by omega)]
theorem costX6 (o : K6) (f : Nat → Int32) {N q : Nat} (hN : 400 < N) : f_X6_costOf N o f (nI q) = some (costB f q 5) := by
  obtain ⟨v, e1, e2⟩ := xlp_rel (st := s_X6_costOf_4 f (nI q)) (fun i v => v.1 = costB f q i ∧ v.2 = nI i) 5 (fun v => v.1 = costB f q 5) (n := N) (x := (0, 0))
    (fun i x hi ⟨a1, a2⟩ => by
      refine Or.inl ⟨(costB f q (i + 1), nI (i + 1)), ?_, rfl, rfl⟩
      unfold s_X6_costOf_4
      rw [a1, a2, if_neg (by rw [nlit, nle] <;> omega), costB_s, nI_1]
      by_cases k : (nI q >>> (nI i &&& 31)) &&& 1 = 1
      · rw [if_pos k, if_pos k, if_pos (xin_n (by omega) (by omega)), nI_clamp (by omega)]
      · rw [if_neg k, if_neg k])
    (fun x ⟨a1, a2⟩ => ⟨x, by unfold s_X6_costOf_4; rw [a2, if_pos (by rw [nlit, nle] <;> omega), ← a2], a1⟩) (by omega) ⟨rfl, rfl⟩
  unfold f_X6_costOf
  rw [e1, Option.bind_some, e2]
theorem costX7 (o : K7) (f : Nat → Int32) {N q : Nat} (hN : 400 < N) (hq : q < 32) : f_X7_costsOf N o f (nI q) = some (costB f q 5) := by
  obtain ⟨v, e1, e2⟩ := xlp_rel (st := s_X7_costsOf_4 f (nI q)) (fun i v => v.1 = costB f q i ∧ v.2 = nI i) 5 (fun v => v.1 = costB f q 5) (n := N) (x := (0, 0))
    (fun i x hi ⟨a1, a2⟩ => by
      refine Or.inl ⟨(costB f q (i + 1), nI (i + 1)), ?_, rfl, rfl⟩
      unfold s_X7_costsOf_4
      rw [a1, a2, if_neg (by rw [nlit, nle] <;> omega), if_pos (xin_n (by omega) (by omega)), nI_clamp (by omega), costB_s, nI_1]
      rcases bit01 q hq i hi with k | k
      · rw [k, if_neg (by decide), Int32.zero_mul, iadd0]
      · rw [k, if_pos rfl, Int32.one_mul])
    (fun x ⟨a1, a2⟩ => ⟨x, by unfold s_X7_costsOf_4; rw [a2, if_pos (by rw [nlit, nle] <;> omega), ← a2], a1⟩) (by omega) ⟨rfl, rfl⟩
  unfold f_X7_costsOf
  rw [e1, Option.bind_some, e2]
def mendN (q : Nat) (y : K4) : Nat → K4
  | 0 => y
  | i + 1 => if (nI q >>> (nI i &&& 31)) &&& 1 = 1 then f_X4_mend (mendN q y i) (nI i) else mendN q y i
theorem mendN_s (q : Nat) (y : K4) (i : Nat) : mendN q y (i + 1) = if (nI q >>> (nI i &&& 31)) &&& 1 = 1 then f_X4_mend (mendN q y i) (nI i) else mendN q y i := rfl
def mendS (q : Nat) (y : K4) : K4 := (if (nI q >>> (nI 3 &&& 31)) &&& 1 = 1 then xmin 99 (y.1 + 20) else y.1, y.2.1, y.2.2.1, if (nI q >>> (nI 4 &&& 31)) &&& 1 = 1 then xmin 99 (2 * y.2.2.2.1) else y.2.2.2.1, y.2.2.2.2.1, if (nI q >>> (nI 1 &&& 31)) &&& 1 = 1 then 0 else y.2.2.2.2.2.1, y.2.2.2.2.2.2.1, if (nI q >>> (nI 2 &&& 31)) &&& 1 = 1 then 0 else y.2.2.2.2.2.2.2.1, if (nI q >>> (nI 0 &&& 31)) &&& 1 = 1 then 100 else y.2.2.2.2.2.2.2.2.1, y.2.2.2.2.2.2.2.2.2.1, y.2.2.2.2.2.2.2.2.2.2)
theorem mend5 (q : Nat) (y : K4) : mendN q y 5 = mendS q y := by
  unfold mendS
  rw [mendN_s, mendN_s, mendN_s, mendN_s, mendN_s]
  show (if (nI q >>> (nI 4 &&& 31)) &&& 1 = 1 then _ else _) = _
  by_cases b0 : (nI q >>> (nI 0 &&& 31)) &&& 1 = 1 <;> by_cases b1 : (nI q >>> (nI 1 &&& 31)) &&& 1 = 1 <;> by_cases b2 : (nI q >>> (nI 2 &&& 31)) &&& 1 = 1 <;> by_cases b3 : (nI q >>> (nI 3 &&& 31)) &&& 1 = 1 <;> by_cases b4 : (nI q >>> (nI 4 &&& 31)) &&& 1 = 1 <;> simp only [b0, b1, b2, b3, b4, if_true, if_false] <;> rfl
theorem z20 : (20 : Int32).toInt = 20 := by decide
theorem z2 : (2 : Int32).toInt = 2 := by decide
theorem mendS_VY {y : K4} (hy : VY y) (q : Nat) : VY (mendS q y) := by
  obtain ⟨y0, y1, y2, y3, y4, y5, y6, y7, y8, y9, y10⟩ := id hy
  have e1 := zadd (x := y.1) (y := 20) (by rw [z20]; omega) (by rw [z20]; omega)
  rw [z20] at e1
  have e2 : ((2 : Int32) * y.2.2.2.1).toInt = 2 * y.2.2.2.1.toInt := by rw [zmul] <;> rw [z2] <;> omega
  have e3 : (xmin 99 (y.1 + 20)).toInt = if (y.1 + 20).toInt < 99 then (y.1 + 20).toInt else 99 := by rw [xmin_int, z99]
  have e4 : (xmin 99 (2 * y.2.2.2.1)).toInt = if (2 * y.2.2.2.1).toInt < 99 then (2 * y.2.2.2.1).toInt else 99 := by rw [xmin_int, z99]
  refine ⟨?_, y1, y2, ?_, y4, ?_, y6, ?_, ?_, y9, y10⟩
  · show 1 ≤ (if (nI q >>> (nI 3 &&& 31)) &&& 1 = 1 then xmin 99 (y.1 + 20) else y.1 : Int32).toInt ∧ (if (nI q >>> (nI 3 &&& 31)) &&& 1 = 1 then xmin 99 (y.1 + 20) else y.1 : Int32).toInt ≤ 99
    split
    · rw [e3]; split <;> omega
    · exact y0
  · show 0 ≤ (if (nI q >>> (nI 4 &&& 31)) &&& 1 = 1 then xmin 99 (2 * y.2.2.2.1) else y.2.2.2.1 : Int32).toInt ∧ (if (nI q >>> (nI 4 &&& 31)) &&& 1 = 1 then xmin 99 (2 * y.2.2.2.1) else y.2.2.2.1 : Int32).toInt ≤ 99
    split
    · rw [e4]; split <;> omega
    · exact y3
  · show 0 ≤ (if (nI q >>> (nI 1 &&& 31)) &&& 1 = 1 then 0 else y.2.2.2.2.2.1 : Int32).toInt ∧ (if (nI q >>> (nI 1 &&& 31)) &&& 1 = 1 then 0 else y.2.2.2.2.2.1 : Int32).toInt ≤ 99
    split
    · rw [z0]; omega
    · exact y5
  · show 0 ≤ (if (nI q >>> (nI 2 &&& 31)) &&& 1 = 1 then 0 else y.2.2.2.2.2.2.2.1 : Int32).toInt ∧ (if (nI q >>> (nI 2 &&& 31)) &&& 1 = 1 then 0 else y.2.2.2.2.2.2.2.1 : Int32).toInt ≤ 30
    split
    · rw [z0]; omega
    · exact y7
  · show 0 ≤ (if (nI q >>> (nI 0 &&& 31)) &&& 1 = 1 then 100 else y.2.2.2.2.2.2.2.2.1 : Int32).toInt ∧ (if (nI q >>> (nI 0 &&& 31)) &&& 1 = 1 then 100 else y.2.2.2.2.2.2.2.2.1 : Int32).toInt ≤ 100
    split
    · rw [z100]; omega
    · exact y8
def start4 (y : K4) : K0 := (dep y 0, y.2.2.2.2.2.2.2.2.1, 0, 0, 0, 0, 0)
def cupsQ (y : K4) (q : Nat) : Int32 := (pullS (mendS q y) 60 (f_X0_pour (start4 (mendS q y)) 20).2).1
theorem cupsX6 {y : K4} (o : K6) (ot : K4) (sh : K0) {N q : Nat} (hN : 400 < N) (hy : VY y) : ∃ ot' sh', f_X6_cupsBehind N o y ot sh (nI q) = some (cupsQ y q, ot', sh') := by
  have hm := mendS_VY hy q
  obtain ⟨v, e1, e2⟩ := xlp_rel (st := s_X6_cupsBehind_13 (nI q)) (fun i v => v.1 = nI i ∧ v.2 = mendN q y i) 5 (fun v => v.2 = mendS q y) (n := N) (x := (0, y))
    (fun i x hi ⟨a1, a2⟩ => by
      refine Or.inl ⟨(nI (i + 1), mendN q y (i + 1)), ?_, rfl, rfl⟩
      unfold s_X6_cupsBehind_13
      rw [a1, a2, if_neg (by rw [nlit, nle] <;> omega), mendN_s, nI_1]
      by_cases k : (nI q >>> (nI i &&& 31)) &&& 1 = 1
      · rw [if_pos k, if_pos k]; rfl
      · rw [if_neg k, if_neg k])
    (fun x ⟨a1, a2⟩ => ⟨x, by unfold s_X6_cupsBehind_13; rw [a1, if_pos (by rw [nlit, nle] <;> omega), ← a1], by rw [a2, mend5]⟩) (by omega) ⟨rfl, rfl⟩
  obtain ⟨g1, g2⟩ := startEmpty_eq hm sh
  have g3 : VC (f_X0_pour (start4 (mendS q y)) 20).2 := pour_VC g2 (by rw [z20]; omega) (by rw [z20]; omega)
  refine ⟨mendS q y, (pullS (mendS q y) 60 (f_X0_pour (start4 (mendS q y)) 20).2).2, ?_⟩
  unfold f_X6_cupsBehind
  rw [beLike4 _ _ hN, Option.bind_some, e1, Option.bind_some, e2, g1, Option.bind_some, Option.bind_some]
  show (f_X0_pull N (f_X0_pour (start4 (mendS q y)) 20).2 (mendS q y) (nI 60)).bind _ = _
  rw [pull_eq hm g3 (by omega) (by omega)]; rfl
theorem nI_n9 {q : Nat} (hq : q < 2 ^ 31) : ¬ nI q = -9 := by
  intro e9
  have := congrArg Int32.toInt e9
  rw [nI_toInt (by omega), show (-9 : Int32).toInt = -9 from by decide] at this
  omega
theorem within1 {a : Int32} (h0 : 1 ≤ a.toInt) : f_X7_within a 1 99 = xmin 99 a := by
  unfold f_X7_within
  rw [if_pos (by rw [zle, z1]; exact h0), xmin_le, xmin_comm]
theorem within0 {a : Int32} (h0 : 0 ≤ a.toInt) : f_X7_within a 0 99 = xmin 99 a := by
  unfold f_X7_within
  rw [if_pos (by rw [zle, z0]; exact h0), xmin_le, xmin_comm]
theorem ifM {q n m i : Nat} {a b : Int32} (h : decide (nI q &&& nI n = nI m) = decide ((nI q >>> (nI i &&& 31)) &&& 1 = 1)) : (if nI q &&& nI n = nI m then some a else some b : Option Int32) = some (if (nI q >>> (nI i &&& 31)) &&& 1 = 1 then a else b) := by
  have h' := decide_eq_decide.mp h
  by_cases k : (nI q >>> (nI i &&& 31)) &&& 1 = 1
  · rw [if_pos k, if_pos (h'.mpr k)]
  · rw [if_neg k, if_neg (fun e => k (h'.mp e))]
theorem cupsX7 {y : K4} {told : Nat → Int32} (o : K7) (par t : Nat → Int32) {N q : Nat} (hN : 400 < N) (hp : RP told y) (hy : VY y) (hq : q < 32) : ∃ par' t', f_X7_cupsBy N o told par t (nI q) = some (cupsQ y q, par', t') := by
  obtain ⟨r1, e1, e2⟩ := f_X7_takeTold_eq (N := N) o (par := par) (by omega) hp
  have hm := mendS_VY hy q
  obtain ⟨y0, y1, y2, y3, y4, y5, y6, y7, y8, y9, y10⟩ := id hy
  obtain ⟨p0, p1, p2, p3, p4, p5, p6, p7, p8, p9, p10⟩ := id e2
  have z1a := zadd (x := y.1) (y := 20) (by rw [z20]; omega) (by rw [z20]; omega)
  rw [z20] at z1a
  have z2a : ((2 : Int32) * y.2.2.2.1).toInt = 2 * y.2.2.2.1.toInt := by rw [zmul] <;> rw [z2] <;> omega
  have m0 := ifM (n := 1) (m := 1) (i := 0) (a := 100) (b := y.2.2.2.2.2.2.2.2.1) (bitM0 q hq)
  have m1 := ifM (n := 2) (m := 2) (i := 1) (a := 0) (b := y.2.2.2.2.2.1) (bitM1 q hq)
  have m2 := ifM (n := 4) (m := 4) (i := 2) (a := 0) (b := y.2.2.2.2.2.2.2.1) (bitM2 q hq)
  have m3 := ifM (n := 8) (m := 8) (i := 3) (a := xmin 99 (y.1 + 20)) (b := y.1) (bitM3 q hq)
  have m4 := ifM (n := 16) (m := 16) (i := 4) (a := xmin 99 (2 * y.2.2.2.1)) (b := y.2.2.2.1) (bitM4 q hq)
  unfold f_X7_cupsBy
  rw [e1, Option.bind_some, p8, show (if nI q &&& 1 = 1 then some 100 else some y.2.2.2.2.2.2.2.2.1 : Option Int32) = _ from m0, Option.bind_some]
  generalize hv3 : (if (nI q >>> (nI 0 &&& 31)) &&& 1 = 1 then 100 else y.2.2.2.2.2.2.2.2.1 : Int32) = v3
  rw [show upd r1 8 v3 5 = y.2.2.2.2.2.1 from p5, show (if nI q &&& 2 = 2 then some 0 else some y.2.2.2.2.2.1 : Option Int32) = _ from m1, Option.bind_some]
  generalize hv5 : (if (nI q >>> (nI 1 &&& 31)) &&& 1 = 1 then 0 else y.2.2.2.2.2.1 : Int32) = v5
  rw [show upd (upd r1 8 v3) 5 v5 7 = y.2.2.2.2.2.2.2.1 from p7, show (if nI q &&& 4 = 4 then some 0 else some y.2.2.2.2.2.2.2.1 : Option Int32) = _ from m2, Option.bind_some]
  generalize hv7 : (if (nI q >>> (nI 2 &&& 31)) &&& 1 = 1 then 0 else y.2.2.2.2.2.2.2.1 : Int32) = v7
  rw [show upd (upd (upd r1 8 v3) 5 v5) 7 v7 0 = y.1 from p0, within1 (by omega), Option.bind_some, show (if nI q &&& 8 = 8 then some (xmin 99 (y.1 + 20)) else some y.1 : Option Int32) = _ from m3, Option.bind_some]
  generalize hv10 : (if (nI q >>> (nI 3 &&& 31)) &&& 1 = 1 then xmin 99 (y.1 + 20) else y.1 : Int32) = v10
  rw [show upd (upd (upd (upd r1 8 v3) 5 v5) 7 v7) 0 v10 3 = y.2.2.2.1 from p3, within0 (by omega), Option.bind_some, show (if nI q &&& 16 = 16 then some (xmin 99 (2 * y.2.2.2.1)) else some y.2.2.2.1 : Option Int32) = _ from m4, Option.bind_some]
  generalize hv13 : (if (nI q >>> (nI 4 &&& 31)) &&& 1 = 1 then xmin 99 (2 * y.2.2.2.1) else y.2.2.2.1 : Int32) = v13
  have hmS : mendS q y = (v10, y.2.1, y.2.2.1, v13, y.2.2.2.2.1, v5, y.2.2.2.2.2.2.1, v7, v3, y.2.2.2.2.2.2.2.2.2.1, y.2.2.2.2.2.2.2.2.2.2) := by
    rw [← hv3, ← hv5, ← hv7, ← hv10, ← hv13]; rfl
  have hP : RP (upd (upd (upd (upd (upd r1 8 v3) 5 v5) 7 v7) 0 v10) 3 v13) (mendS q y) := by
    rw [hmS]
    exact ⟨rfl, p1, p2, rfl, p4, rfl, p6, rfl, rfl, p9, p10⟩
  obtain ⟨t1, b1, b2⟩ := f_X7_begin_eq (N := N) o t (10 * upd (upd (upd (upd (upd r1 8 v3) 5 v5) 7 v7) 0 v10) 3 v13 2) (upd (upd (upd (upd (upd r1 8 v3) 5 v5) 7 v7) 0 v10) 3 v13 8) (by omega)
  rw [b1, Option.bind_some]
  have g2 : VC (start4 (mendS q y)) := (startEmpty_eq hm (0, 0, 0, 0, 0, 0, 0)).2
  have b3 : RC t1 (start4 (mendS q y)) := by
    unfold start4
    rw [dep_0 hm, ← hP.2.2.1, ← hP.2.2.2.2.2.2.2.2.1]
    exact b2
  obtain ⟨t2, b4, b5⟩ := f_X7_pour_eq (n := 20) o b3 g2 (by rw [z20]; omega) (by rw [z20]; omega)
  rw [b4, Option.bind_some]
  have g3 : VC (f_X0_pour (start4 (mendS q y)) 20).2 := pour_VC g2 (by rw [z20]; omega) (by rw [z20]; omega)
  obtain ⟨v, c1, c2⟩ := xlp_rel (st := s_X7_cupsBy_186 o r1 v3 v5 v7 v10 v13) (fun i v => v.1 = (iterS (mendS q y) i (f_X0_pour (start4 (mendS q y)) 20).2).1 ∧ v.2.1 = nI i ∧ RC v.2.2 (addP (iterS (mendS q y) i (f_X0_pour (start4 (mendS q y)) 20).2).2 (nI i))) 60 (fun v => v.1 = cupsQ y q) (n := N) (x := (0, 0, t2))
    (fun i x hi ⟨a1, a2, a3⟩ => by
      obtain ⟨t3, g4, g5⟩ := refS o hP hm g3 i a3
      refine Or.inl ⟨(x.1 + (strokeS (mendS q y) (iterS (mendS q y) i (f_X0_pour (start4 (mendS q y)) 20).2).2).1, nI (i + 1), t3), ?_, ?_, rfl, g5⟩
      · unfold s_X7_cupsBy_186
        rw [a2, if_neg (by rw [nlit, nle] <;> omega), g4, Option.bind_some, nI_1]
      · show x.1 + _ = _
        rw [a1, iterS_s1])
    (fun x ⟨a1, a2, a3⟩ => ⟨x, by unfold s_X7_cupsBy_186; rw [a2, if_pos (by rw [nlit, nle] <;> omega), ← a2], a1⟩) (by omega) ⟨rfl, rfl, by rw [nI_0, addP_0]; exact b5⟩
  exact ⟨_, _, by rw [c1, Option.bind_some, c2]⟩
def choF (y : K4) (f : Nat → Int32) (p1 : Int32) : Nat → Int32 × Int32
  | 0 => (-9, -9)
  | i + 1 => if (choF y f p1 i).1 = -9 then (if cupsQ y i < p1 then choF y f p1 i else (nI i, costB f i 5)) else if (choF y f p1 i).2 ≤ costB f i 5 then choF y f p1 i else if cupsQ y i < p1 then choF y f p1 i else (nI i, costB f i 5)
theorem choF_s (y : K4) (f : Nat → Int32) (p1 : Int32) (i : Nat) : choF y f p1 (i + 1) = if (choF y f p1 i).1 = -9 then (if cupsQ y i < p1 then choF y f p1 i else (nI i, costB f i 5)) else if (choF y f p1 i).2 ≤ costB f i 5 then choF y f p1 i else if cupsQ y i < p1 then choF y f p1 i else (nI i, costB f i 5) := rfl
theorem choF_ok (y : K4) (f : Nat → Int32) (p1 : Int32) : ∀ i, i ≤ 32 → choF y f p1 i = (-9, -9) ∨ ∃ q, q < 32 ∧ choF y f p1 i = (nI q, costB f q 5)
  | 0, _ => Or.inl rfl
  | i + 1, h => by
    have ih := choF_ok y f p1 i (by omega)
    rw [choF_s]
    by_cases k1 : (choF y f p1 i).1 = -9
    · rw [if_pos k1]
      by_cases k2 : cupsQ y i < p1
      · rw [if_pos k2]; exact ih
      · rw [if_neg k2]; exact Or.inr ⟨i, by omega, rfl⟩
    · rw [if_neg k1]
      by_cases k3 : (choF y f p1 i).2 ≤ costB f i 5
      · rw [if_pos k3]; exact ih
      · rw [if_neg k3]
        by_cases k2 : cupsQ y i < p1
        · rw [if_pos k2]; exact ih
        · rw [if_neg k2]; exact Or.inr ⟨i, by omega, rfl⟩
theorem choF_congr (y : K4) {f g : Nat → Int32} (p1 : Int32) (h : ∀ j, j < 5 → f j = g j) : ∀ i, choF y f p1 i = choF y g p1 i
  | 0 => rfl
  | i + 1 => by rw [choF_s, choF_s, choF_congr y p1 h i, costB_congr h i 5 (by omega)]
set_option maxHeartbeats 4000000 in
theorem op_choice {N : Nat} (hN : 400 < N) {u : CX} {w : CM} (hR : Rel u w) (a1 : Int32) (a2 : Int32) : ∃ (rx : Int32 × K4 × K0) (rm : Int32 × (Nat → Int32) × (Nat → Int32)), f_X6_choice N u.1 u.2.2.2.1 u.2.2.2.2.2.2.2.2.2.2.2.2.2.1 u.2.2.2.2.2.2.2.2.2.2.2.2.2.2.2.2.2.2.2.2.1 u.2.2.2.2.2.2.2.2.2.2.2.2.2.2.2.2.2.2.2.2.2.1 a1 a2 = some rx ∧ f_X7_choice N w.1 w.2.2.1 w.2.2.2.1 w.2.2.2.2.1 w.2.2.2.2.2.2.2.2.2.2.2.2.2.2.1 a1 a2 = some rm ∧ rx.1 = rm.1 ∧ Rel (u.1, u.2.1, u.2.2.1, u.2.2.2.1, u.2.2.2.2.1, u.2.2.2.2.2.1, u.2.2.2.2.2.2.1, u.2.2.2.2.2.2.2.1, u.2.2.2.2.2.2.2.2.1, u.2.2.2.2.2.2.2.2.2.1, u.2.2.2.2.2.2.2.2.2.2.1, u.2.2.2.2.2.2.2.2.2.2.2.1, u.2.2.2.2.2.2.2.2.2.2.2.2.1, u.2.2.2.2.2.2.2.2.2.2.2.2.2.1, u.2.2.2.2.2.2.2.2.2.2.2.2.2.2.1, u.2.2.2.2.2.2.2.2.2.2.2.2.2.2.2.1, u.2.2.2.2.2.2.2.2.2.2.2.2.2.2.2.2.1, u.2.2.2.2.2.2.2.2.2.2.2.2.2.2.2.2.2.1, u.2.2.2.2.2.2.2.2.2.2.2.2.2.2.2.2.2.2.1, u.2.2.2.2.2.2.2.2.2.2.2.2.2.2.2.2.2.2.2.1, rx.2.1, rx.2.2, u.2.2.2.2.2.2.2.2.2.2.2.2.2.2.2.2.2.2.2.2.2.2.1, u.2.2.2.2.2.2.2.2.2.2.2.2.2.2.2.2.2.2.2.2.2.2.2.1, u.2.2.2.2.2.2.2.2.2.2.2.2.2.2.2.2.2.2.2.2.2.2.2.2) (w.1, w.2.1, w.2.2.1, rm.2.1, rm.2.2, w.2.2.2.2.2.1, w.2.2.2.2.2.2.1, w.2.2.2.2.2.2.2.1, w.2.2.2.2.2.2.2.2.1, w.2.2.2.2.2.2.2.2.2.1, w.2.2.2.2.2.2.2.2.2.2.1, w.2.2.2.2.2.2.2.2.2.2.2.1, w.2.2.2.2.2.2.2.2.2.2.2.2.1, w.2.2.2.2.2.2.2.2.2.2.2.2.2.1, w.2.2.2.2.2.2.2.2.2.2.2.2.2.2.1, w.2.2.2.2.2.2.2.2.2.2.2.2.2.2.2.1, w.2.2.2.2.2.2.2.2.2.2.2.2.2.2.2.2.1, w.2.2.2.2.2.2.2.2.2.2.2.2.2.2.2.2.2.1, w.2.2.2.2.2.2.2.2.2.2.2.2.2.2.2.2.2.2) := by
  obtain ⟨h1, h2, ⟨hy, hp⟩, ⟨hc, ht⟩, h5, h6, h7, h8, h9, h10, h11⟩ := id hR
  by_cases ha : (0 : Int32).toInt ≤ a1.toInt ∧ a1.toInt ≤ (9999 : Int32).toInt
  · by_cases hb : (0 : Int32).toInt ≤ a2.toInt ∧ a2.toInt ≤ (1 : Int32).toInt
    · have hf : ∀ j, j < 5 → u.2.2.2.2.2.2.2.2.2.2.2.2.2.1 j = w.2.2.2.2.2.2.2.2.2.2.2.2.2.2.1 j := fun j hj => (h9 j hj).1
      obtain ⟨v, c1, c2, c3⟩ := xlp_rel (st := s_X6_choice_32 N u.1 u.2.2.2.1 u.2.2.2.2.2.2.2.2.2.2.2.2.2.1 a1) (fun i v => v.1 = (choF u.2.2.2.1 w.2.2.2.2.2.2.2.2.2.2.2.2.2.2.1 a1 i).1 ∧ v.2.1 = (choF u.2.2.2.1 w.2.2.2.2.2.2.2.2.2.2.2.2.2.2.1 a1 i).2 ∧ v.2.2.1 = nI i) 32 (fun v => v.1 = (choF u.2.2.2.1 w.2.2.2.2.2.2.2.2.2.2.2.2.2.2.1 a1 32).1 ∧ v.2.1 = (choF u.2.2.2.1 w.2.2.2.2.2.2.2.2.2.2.2.2.2.2.1 a1 32).2) (n := N) (x := (-9, -9, 0, u.2.2.2.2.2.2.2.2.2.2.2.2.2.2.2.2.2.2.2.2.1, u.2.2.2.2.2.2.2.2.2.2.2.2.2.2.2.2.2.2.2.2.2.1))
        (fun i x hi ⟨b1, b2, b3⟩ => by
          refine Or.inl ?_
          obtain ⟨q1, q2, g⟩ := cupsX6 (y := u.2.2.2.1) (q := i) u.1 x.2.2.2.1 x.2.2.2.2 hN hy
          unfold s_X6_choice_32
          rw [b3, if_neg (by rw [nlit, nle] <;> omega), costX6 _ _ hN, costB_congr hf i 5 (by omega), Option.bind_some, choF_s, b1, b2, g]
          by_cases k1 : (choF u.2.2.2.1 w.2.2.2.2.2.2.2.2.2.2.2.2.2.2.1 a1 i).1 = -9
          · rw [if_pos k1, if_pos k1, Option.bind_some]
            by_cases k2 : cupsQ u.2.2.2.1 i < a1
            · rw [if_pos k2, if_pos k2]; exact ⟨_, rfl, rfl, rfl, nI_1 i⟩
            · rw [if_neg k2, if_neg k2]; exact ⟨_, rfl, rfl, rfl, nI_1 i⟩
          · rw [if_neg k1, if_neg k1]
            by_cases k3 : (choF u.2.2.2.1 w.2.2.2.2.2.2.2.2.2.2.2.2.2.2.1 a1 i).2 ≤ costB w.2.2.2.2.2.2.2.2.2.2.2.2.2.2.1 i 5
            · rw [if_pos k3, if_pos k3]; exact ⟨_, rfl, rfl, rfl, nI_1 i⟩
            · rw [if_neg k3, if_neg k3, Option.bind_some]
              by_cases k2 : cupsQ u.2.2.2.1 i < a1
              · rw [if_pos k2, if_pos k2]; exact ⟨_, rfl, rfl, rfl, nI_1 i⟩
              · rw [if_neg k2, if_neg k2]; exact ⟨_, rfl, rfl, rfl, nI_1 i⟩)
        (fun x ⟨b1, b2, b3⟩ => ⟨x, by unfold s_X6_choice_32; rw [b3, if_pos (by rw [nlit, nle] <;> omega), ← b3], b1, b2⟩) (by omega) ⟨rfl, rfl, rfl⟩
      obtain ⟨v', d1, d2⟩ := xlp_rel (st := s_X7_choice_28 N w.1 w.2.2.1 w.2.2.2.2.2.2.2.2.2.2.2.2.2.2.1 a1) (fun i v => v.1 = (choF u.2.2.2.1 w.2.2.2.2.2.2.2.2.2.2.2.2.2.2.1 a1 i).1 ∧ v.2.1 = nI i) 32 (fun v => v.1 = (choF u.2.2.2.1 w.2.2.2.2.2.2.2.2.2.2.2.2.2.2.1 a1 32).1) (n := N) (x := (-9, 0, w.2.2.2.1, w.2.2.2.2.1))
        (fun i x hi ⟨b1, b3⟩ => by
          refine Or.inl ?_
          obtain ⟨q1, q2, g⟩ := cupsX7 (y := u.2.2.2.1) (q := i) w.1 x.2.2.1 x.2.2.2 hN hp hy hi
          unfold s_X7_choice_28
          rw [b3, if_neg (by rw [nlit, nle] <;> omega), costX7 _ _ hN hi, choF_s, b1, g]
          by_cases k1 : (choF u.2.2.2.1 w.2.2.2.2.2.2.2.2.2.2.2.2.2.2.1 a1 i).1 = -9
          · rw [if_pos k1, if_pos k1, Option.bind_some]
            by_cases k2 : cupsQ u.2.2.2.1 i < a1
            · rw [if_pos k2, if_pos k2]; exact ⟨_, rfl, rfl, nI_1 i⟩
            · rw [if_neg k2, if_neg k2]; exact ⟨_, rfl, rfl, nI_1 i⟩
          · have e8 : f_X7_costsOf N w.1 w.2.2.2.2.2.2.2.2.2.2.2.2.2.2.1 (choF u.2.2.2.1 w.2.2.2.2.2.2.2.2.2.2.2.2.2.2.1 a1 i).1 = some (choF u.2.2.2.1 w.2.2.2.2.2.2.2.2.2.2.2.2.2.2.1 a1 i).2 := by
              rcases choF_ok u.2.2.2.1 w.2.2.2.2.2.2.2.2.2.2.2.2.2.2.1 a1 i (by omega) with e | ⟨q, hq, e⟩
              · exact absurd (by rw [e]) k1
              · rw [e]; exact costX7 _ _ hN hq
            rw [if_neg k1, if_neg k1, Option.bind_some, e8, Option.bind_some]
            by_cases k3 : (choF u.2.2.2.1 w.2.2.2.2.2.2.2.2.2.2.2.2.2.2.1 a1 i).2 ≤ costB w.2.2.2.2.2.2.2.2.2.2.2.2.2.2.1 i 5
            · rw [if_pos k3, if_pos k3]; exact ⟨_, rfl, rfl, nI_1 i⟩
            · rw [if_neg k3, if_neg k3, Option.bind_some]
              by_cases k2 : cupsQ u.2.2.2.1 i < a1
              · rw [if_pos k2, if_pos k2]; exact ⟨_, rfl, rfl, nI_1 i⟩
              · rw [if_neg k2, if_neg k2]; exact ⟨_, rfl, rfl, nI_1 i⟩)
        (fun x ⟨b1, b3⟩ => ⟨x, by unfold s_X7_choice_28; rw [b3, if_pos (by rw [nlit, nle] <;> omega), ← b3], b1⟩) (by omega) ⟨rfl, rfl⟩
      by_cases k : a2 = 0
      · refine ⟨_, (v'.1, v'.2.2.1, v'.2.2.2), by unfold f_X6_choice; rw [out0 ha, out0 hb, if_pos rfl, if_pos rfl, c1, Option.bind_some, if_pos k], ?_, ?_, ?_⟩
        · unfold f_X7_choice; rw [in1 ha, in1 hb, if_neg ne10, if_neg ne10, d1, Option.bind_some, if_pos k]
          split <;> rfl
        · exact c2.trans d2.symm
        · exact mkRel h1 h2 ⟨hy, hp⟩ ⟨hc, ht⟩ h5 h6 h7 h8 h9 h10 h11
      · refine ⟨_, (v.2.1, v'.2.2.1, v'.2.2.2), by unfold f_X6_choice; rw [out0 ha, out0 hb, if_pos rfl, if_pos rfl, c1, Option.bind_some, if_neg k], ?_, ?_, ?_⟩
        · unfold f_X7_choice; rw [in1 ha, in1 hb, if_neg ne10, if_neg ne10, d1, Option.bind_some, if_neg k, d2, c3]
          rcases choF_ok u.2.2.2.1 w.2.2.2.2.2.2.2.2.2.2.2.2.2.2.1 a1 32 (by omega) with e | ⟨q, hq, e⟩
          · rw [e]; rfl
          · rw [e, if_neg (nI_n9 (by omega)), costX7 _ _ hN hq]; rfl
        · rfl
        · exact mkRel h1 h2 ⟨hy, hp⟩ ⟨hc, ht⟩ h5 h6 h7 h8 h9 h10 h11
    · refine ⟨_, _, by unfold f_X6_choice; rw [out0 ha, out1 hb, if_pos rfl, if_neg ne10], by unfold f_X7_choice; rw [in1 ha, in0 hb, if_neg ne10, if_pos rfl], ?_, ?_⟩
      · rfl
      · exact mkRel h1 h2 ⟨hy, hp⟩ ⟨hc, ht⟩ h5 h6 h7 h8 h9 h10 h11
  · refine ⟨_, _, by unfold f_X6_choice; rw [out1 ha, if_neg ne10], by unfold f_X7_choice; rw [in0 ha, if_pos rfl], ?_, ?_⟩
    · rfl
    · exact mkRel h1 h2 ⟨hy, hp⟩ ⟨hc, ht⟩ h5 h6 h7 h8 h9 h10 h11
