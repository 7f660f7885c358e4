/-! the steps, one by one -/
def ansS (y : K4) (a b : Int32) : Int32 := if a = 0 then untilS y (start4 y) else if a = 1 then (iterH y b.toInt.toNat full0).1 else if f_X4_airAbove y (dep y 0) ≤ 0 then 0 else 1
def okA (a b : Int32) : Prop := a = 0 ∨ (a = 1 ∧ ∃ q : Nat, q ≤ 24 ∧ b = nI q) ∨ a = 2
theorem hour_wet {y : K4} {c d : K0} (h1 : c.1 = d.1) (h2 : c.2.2.1 = d.2.2.1) : (hourS y c).1 = (hourS y d).1 ∧ (hourS y c).2.2.1 = (hourS y d).2.2.1 := by
  have e1 : hrE y c = hrE y d := by unfold hrE; rw [h1, h2]
  have e2 : hrD y c = hrD y d := by unfold hrD; rw [h2]
  exact ⟨by show xmin (hrE y c) (dep y (hrD y c)) = xmin (hrE y d) (dep y (hrD y d)); rw [e1, e2], e2⟩
theorem iterH_wet {y : K4} {c d : K0} (h1 : c.1 = d.1) (h2 : c.2.2.1 = d.2.2.1) : ∀ n, (iterH y n c).1 = (iterH y n d).1 ∧ (iterH y n c).2.2.1 = (iterH y n d).2.2.1
  | 0 => ⟨h1, h2⟩
  | n + 1 => by
    obtain ⟨g1, g2⟩ := iterH_wet h1 h2 n
    rw [iterH_s, iterH_s]
    exact hour_wet g1 g2
theorem ansX6 {y : K4} (o : K6) (sh : K0) {N : Nat} {a b : Int32} (hN : 400 < N) (hy : VY y) (h : okA a b) : ∃ sh', f_X6_answer N o y sh a b = some (ansS y a b, sh') := by
  obtain ⟨g1, g2⟩ := startEmpty_eq hy sh
  rcases h with rfl | ⟨rfl, q, hq, rfl⟩ | rfl
  · refine ⟨start4 y, ?_⟩
    unfold f_X6_answer ansS
    rw [if_pos rfl, if_pos rfl, g1, Option.bind_some, f_X0_pullsToWater_eq hy]; rfl
  · refine ⟨addH (iterH y q full0) (nI q), ?_⟩
    unfold f_X6_answer ansS
    rw [if_neg ne10, if_pos rfl, if_neg ne10, if_pos rfl, nI_toInt (by omega), Option.bind_some]
    show (f_X0_stand N full0 y (nI q)).bind _ = _
    rw [f_X0_stand_eq hy (by omega) (by omega)]; rfl
  · refine ⟨sh, ?_⟩
    unfold f_X6_answer ansS
    rw [if_neg (by decide), if_neg (by decide), if_neg (by decide), if_neg (by decide), f_X4_depth_eq hy, Option.bind_some]
    split <;> rfl
theorem ansX7 {y : K4} {par : Nat → Int32} (o : K7) (t : Nat → Int32) {N : Nat} {a b : Int32} (hN : 400 < N) (hy : VY y) (hp : RP par y) (h : okA a b) : ∃ t', f_X7_signBy N o par t a b = some (ansS y a b, t') := by
  have g2 : VC (start4 y) := (startEmpty_eq hy (0, 0, 0, 0, 0, 0, 0)).2
  rcases h with rfl | ⟨rfl, q, hq, rfl⟩ | rfl
  · obtain ⟨t1, b1, b2⟩ := f_X7_begin_eq (N := N) o t (10 * par 2) (par 8) (by omega)
    have b3 : RC t1 (start4 y) := by
      unfold start4
      rw [dep_0 hy, ← hp.2.2.1, ← hp.2.2.2.2.2.2.2.2.1]
      exact b2
    obtain ⟨t2, b4⟩ := f_X7_strokesUntil_eq o (N := N) (by omega) hp hy b3 g2
    refine ⟨t2, ?_⟩
    unfold f_X7_signBy ansS
    rw [if_pos rfl, if_pos rfl, b1, Option.bind_some, b4, Option.bind_some]
    have up := untilS_pos hy g2
    by_cases k : untilS y (start4 y) = 0
    · rw [if_pos k, if_pos rfl, k]
    · rw [if_neg k, if_neg (fun e => by
        have := congrArg Int32.toInt e
        rw [show (-9 : Int32).toInt = -9 from by decide] at this
        have e2 : (untilS y (start4 y)).toInt = -9 := this
        omega)]
  · obtain ⟨t1, b1, b2⟩ := f_X7_begin_eq (N := N) o t 0 (par 8) (by omega)
    have hw : VC (0, y.2.2.2.2.2.2.2.2.1, 0, 0, 0, 0, 0) := ⟨startFull_VC.1, hy.2.2.2.2.2.2.2.2.1, startFull_VC.2.2⟩
    have b3 : RC t1 (0, y.2.2.2.2.2.2.2.2.1, 0, 0, 0, 0, 0) := by
      rw [← hp.2.2.2.2.2.2.2.2.1]; exact b2
    obtain ⟨v, c1, c2⟩ := xlp_rel (st := s_X7_signBy_90 o par (nI q)) (fun i v => v.1 = nI i ∧ RC v.2 (addH (iterH y i (0, y.2.2.2.2.2.2.2.2.1, 0, 0, 0, 0, 0)) (nI i))) q (fun v => RC v.2 (addH (iterH y q (0, y.2.2.2.2.2.2.2.2.1, 0, 0, 0, 0, 0)) (nI q))) (n := N) (x := (0, t1))
      (fun i x hi ⟨b, d⟩ => by
        obtain ⟨t2, g1, g2⟩ := refH o hp hy hw i d
        refine Or.inl ⟨(nI (i + 1), t2), ?_, rfl, g2⟩
        unfold s_X7_signBy_90
        rw [b, if_neg (by rw [nle] <;> omega), g1, Option.bind_some, nI_1])
      (fun x ⟨b, d⟩ => ⟨x, by unfold s_X7_signBy_90; rw [b, if_pos (by rw [nle] <;> omega), ← b], d⟩) (by omega) ⟨rfl, by rw [nI_0, addH_0]; exact b3⟩
    refine ⟨v.2, ?_⟩
    unfold f_X7_signBy ansS
    rw [if_neg ne10, if_pos rfl, if_neg ne10, if_pos rfl, Option.bind_some, b1, Option.bind_some, if_neg (by decide), c1, Option.bind_some, nI_toInt (by omega), c2.1]
    have e := (iterH_wet (y := y) (c := (0, y.2.2.2.2.2.2.2.2.1, 0, 0, 0, 0, 0)) (d := full0) rfl rfl q).1
    show some ((iterH y q (0, y.2.2.2.2.2.2.2.2.1, 0, 0, 0, 0, 0)).1, v.2) = some ((iterH y ((q : Int)).toNat full0).1, v.2)
    rw [e]; rfl
  · obtain ⟨t1, b1, b2⟩ := f_X7_begin_eq (N := N) o t (10 * par 2) (par 8) (by omega)
    refine ⟨t1, ?_⟩
    unfold f_X7_signBy ansS
    rw [if_neg (by decide), if_neg (by decide), if_neg (by decide), if_neg (by decide), Option.bind_some, b1, Option.bind_some, if_pos rfl, f_X7_air_eq o hp hy, Option.bind_some, b2.2.2.1]
    split <;> rfl
theorem withinLo {a lo hi : Int32} (hl : lo.toInt ≤ hi.toInt) (h : lo.toInt ≤ a.toInt) : f_X7_within a lo hi = xmin hi a := by
  unfold f_X7_within
  rw [if_pos (by rw [zle]; exact h), xmin_le, xmin_comm]
theorem withinHi {a lo hi : Int32} (h : a.toInt ≤ hi.toInt) : f_X7_within a lo hi = xmax lo a := by
  unfold f_X7_within xmax
  by_cases k : lo ≤ a
  · rw [if_pos k, if_pos (by rw [zle]; exact h)]
    by_cases k2 : lo < a
    · rw [if_pos k2]
    · rw [if_neg k2, zeq]; rw [zle] at k; rw [zlt] at k2; omega
  · rw [if_neg k, if_neg (by rw [zlt]; rw [zle] at k; omega)]
theorem mulS {a : Int32} {s : Nat} (h0 : 0 ≤ a.toInt) (ha : a.toInt ≤ 10) (hs : s ≤ 9) : (a * nI s).toInt = a.toInt * s ∧ 0 ≤ a.toInt * s ∧ a.toInt * s ≤ 90 := by
  have m0 : 0 ≤ a.toInt * (s : Int) := Int.mul_nonneg h0 (by omega)
  have m1 : a.toInt * (s : Int) ≤ 10 * 9 := Int.mul_le_mul ha (by omega) (by omega) (by omega)
  have e : (nI s).toInt = s := nI_toInt (by omega)
  refine ⟨?_, m0, by omega⟩
  rw [zmul] <;> rw [e] <;> omega
theorem z3 : (3 : Int32).toInt = 3 := by decide
theorem z4 : (4 : Int32).toInt = 4 := by decide
theorem z30 : (30 : Int32).toInt = 30 := by decide
theorem worX7 {y : K4} {told : Nat → Int32} (o : K7) (par : Nat → Int32) {N k s : Nat} (hN : 400 < N) (hp : RP told y) (hy : VY y) (hk : k ≤ 5) (hs1 : 1 ≤ s) (hs : s ≤ 9) : VY (f_X4_worsen y (nI k) (nI s)) ∧ ∃ par', f_X7_takeTrouble N o told par (nI k) (nI s) = some par' ∧ RP par' (f_X4_worsen y (nI k) (nI s)) := by
  obtain ⟨r1, e1, e2⟩ := f_X7_takeTold_eq (N := N) o (par := par) (by omega) hp
  obtain ⟨y0, y1, y2, y3, y4, y5, y6, y7, y8, y9, y10⟩ := id hy
  obtain ⟨p0, p1, p2, p3, p4, p5, p6, p7, p8, p9, p10⟩ := id e2
  obtain ⟨m10, m10a, m10b⟩ := mulS (a := 10) (s := s) (by decide) (by decide) hs
  obtain ⟨m3, m3a, m3b⟩ := mulS (a := 3) (s := s) (by decide) (by decide) hs
  obtain ⟨m2, m2a, m2b⟩ := mulS (a := 2) (s := s) (by decide) (by decide) hs
  obtain ⟨m4, m4a, m4b⟩ := mulS (a := 4) (s := s) (by decide) (by decide) hs
  rw [z10] at m10 m10a m10b; rw [z3] at m3 m3a m3b; rw [z2] at m2 m2a m2b; rw [z4] at m4 m4a m4b
  unfold f_X7_takeTrouble
  rw [e1, Option.bind_some]
  rcases (show k = 0 ∨ k = 1 ∨ k = 2 ∨ k = 3 ∨ k = 4 ∨ k = 5 by omega) with rfl | rfl | rfl | rfl | rfl | rfl
  · exact ⟨hy, r1, rfl, e2⟩
  · have b := zsub (x := y.2.2.2.2.2.2.2.2.1) (y := 10 * nI s) (by omega) (by omega)
    refine ⟨⟨y0, y1, y2, y3, y4, y5, y6, y7, ?_, y9, y10⟩, _, rfl, p0, p1, p2, p3, p4, p5, p6, p7, ?_, p9, p10⟩
    · show 0 ≤ (xmax 0 (y.2.2.2.2.2.2.2.2.1 - 10 * nI s)).toInt ∧ (xmax 0 (y.2.2.2.2.2.2.2.2.1 - 10 * nI s)).toInt ≤ 100
      rw [xmax_int, z0]; split <;> omega
    · show f_X7_within (r1 8 - 10 * nI s) 0 100 = xmax 0 (y.2.2.2.2.2.2.2.2.1 - 10 * nI s)
      rw [p8, withinHi (by rw [z100]; omega)]
  · have b := zadd (x := y.2.2.2.2.2.1) (y := 10 * nI s) (by omega) (by omega)
    refine ⟨⟨y0, y1, y2, y3, y4, ?_, y6, y7, y8, y9, y10⟩, _, rfl, p0, p1, p2, p3, p4, ?_, p6, p7, p8, p9, p10⟩
    · show 0 ≤ (xmin 99 (y.2.2.2.2.2.1 + 10 * nI s)).toInt ∧ (xmin 99 (y.2.2.2.2.2.1 + 10 * nI s)).toInt ≤ 99
      rw [xmin_int, z99]; split <;> omega
    · show f_X7_within (r1 5 + 10 * nI s) 0 99 = xmin 99 (y.2.2.2.2.2.1 + 10 * nI s)
      rw [p5, withinLo (by decide) (by rw [z0]; omega)]
  · have b := zadd (x := y.2.2.2.2.2.2.2.1) (y := 3 * nI s) (by omega) (by omega)
    have ew : f_X7_within (r1 7 + 3 * nI s) 0 30 = xmin 30 (y.2.2.2.2.2.2.2.1 + 3 * nI s) := by
      rw [p7, withinLo (by decide) (by rw [z0]; omega)]
    have hv : 0 ≤ (xmin 30 (y.2.2.2.2.2.2.2.1 + 3 * nI s)).toInt ∧ (xmin 30 (y.2.2.2.2.2.2.2.1 + 3 * nI s)).toInt ≤ 30 := by
      rw [xmin_int, z30]; split <;> omega
    show VY (if y.2.2.2.2.2.2.1 = 99 then _ else _) ∧ ∃ par', (if upd r1 7 (f_X7_within (r1 7 + 3 * nI s) 0 30) 6 = 99 then _ else _) = some par' ∧ RP par' (if y.2.2.2.2.2.2.1 = 99 then _ else _)
    rw [ew, show upd r1 7 (xmin 30 (y.2.2.2.2.2.2.2.1 + 3 * nI s)) 6 = y.2.2.2.2.2.2.1 from p6]
    by_cases kj : y.2.2.2.2.2.2.1 = 99
    · rw [if_pos kj, if_pos kj]
      exact ⟨⟨y0, y1, y2, y3, y4, y5, by show 1 ≤ (5 : Int32).toInt ∧ (5 : Int32).toInt ≤ 99; rw [z5]; omega, hv, y8, y9, y10⟩, _, rfl, p0, p1, p2, p3, p4, p5, rfl, rfl, p8, p9, p10⟩
    · rw [if_neg kj, if_neg kj]
      exact ⟨⟨y0, y1, y2, y3, y4, y5, y6, hv, y8, y9, y10⟩, _, rfl, p0, p1, p2, p3, p4, p5, rfl, rfl, p8, p9, p10⟩
  · have b := zadd (x := y.2.2.1) (y := 2 * nI s) (by omega) (by omega)
    refine ⟨⟨y0, y1, ?_, y3, y4, y5, y6, y7, y8, y9, y10⟩, _, rfl, p0, p1, ?_, p3, p4, p5, p6, p7, p8, p9, p10⟩
    · show 1 ≤ (xmin 99 (y.2.2.1 + 2 * nI s)).toInt ∧ (xmin 99 (y.2.2.1 + 2 * nI s)).toInt ≤ 99
      rw [xmin_int, z99]; split <;> omega
    · show f_X7_within (r1 2 + 2 * nI s) 1 99 = xmin 99 (y.2.2.1 + 2 * nI s)
      rw [p2, withinLo (by decide) (by rw [z1]; omega)]
  · have b := zsub (x := y.1) (y := 4 * nI s) (by omega) (by omega)
    refine ⟨⟨?_, y1, y2, y3, y4, y5, y6, y7, y8, y9, y10⟩, _, rfl, ?_, p1, p2, p3, p4, p5, p6, p7, p8, p9, p10⟩
    · show 1 ≤ (xmax 1 (y.1 - 4 * nI s)).toInt ∧ (xmax 1 (y.1 - 4 * nI s)).toInt ≤ 99
      rw [xmax_int, z1]; split <;> omega
    · show f_X7_within (r1 0 - 4 * nI s) 1 99 = xmax 1 (y.1 - 4 * nI s)
      rw [p0, withinHi (by rw [z99]; omega)]
theorem trouble6 (o : K6) (y ot : K4) {N : Nat} (hN : 400 < N) (a b : Int32) : f_X6_trouble N o y ot a b = some (f_X4_worsen y a b) := by
  unfold f_X6_trouble
  rw [beLike4 _ _ hN]; rfl
def fitB (y : K4) (sw sh ss : Nat → Int32) : Nat → Bool
  | 0 => true
  | j + 1 => fitB y sw sh ss j && decide (ansS y (sw j) (sh j) = ss j)
theorem fitB_s (y : K4) (sw sh ss : Nat → Int32) (j : Nat) : fitB y sw sh ss (j + 1) = (fitB y sw sh ss j && decide (ansS y (sw j) (sh j) = ss j)) := rfl
theorem fitB_F {y : K4} {sw sh ss : Nat → Int32} : ∀ {i k : Nat}, fitB y sw sh ss i = false → fitB y sw sh ss (i + k) = false
  | i, 0, h => h
  | i, k + 1, h => by rw [← Nat.add_assoc, fitB_s, fitB_F h]; rfl
theorem fitB_congr {y : K4} {sw sh ss sw' sh' ss' : Nat → Int32} : ∀ n, (∀ j, j < n → sw j = sw' j ∧ sh j = sh' j ∧ ss j = ss' j) → fitB y sw sh ss n = fitB y sw' sh' ss' n
  | 0, _ => rfl
  | n + 1, h => by
    obtain ⟨g1, g2, g3⟩ := h n (by omega)
    rw [fitB_s, fitB_s, fitB_congr n (fun j hj => h j (by omega)), g1, g2, g3]
theorem allX6 {y : K4} (o : K6) (sg : K2) (sw sh ss : Nat → Int32) (sd : K0) {N n : Nat} (hN : 400 < N) (hy : VY y) (hsg : sg = nI n) (hn : n ≤ 6) (hok : ∀ j, j < n → okA (sw j) (sh j)) : ∃ sd', f_X6_allSignsFit N o sg sw sh ss y sd = some (if fitB y sw sh ss n = true then 1 else 0, sd') := by
  subst hsg
  obtain ⟨v, e1, e2⟩ := xlp_rel (st := s_X6_allSignsFit_2 N o (nI n) sw sh ss y) (fun i v => v.1 = nI i ∧ fitB y sw sh ss i = true) n (fun v => v.1 = if fitB y sw sh ss n = true then 1 else 0) (n := N) (x := (0, sd))
    (fun i x hi ⟨a1, a2⟩ => by
      obtain ⟨sd', g⟩ := ansX6 (N := N) o x.2 hN hy (hok i hi)
      unfold s_X6_allSignsFit_2
      rw [a1, if_neg (by rw [nle] <;> omega), if_pos (xin_n (by omega) (by omega)), nI_clamp (by omega), g, Option.bind_some]
      by_cases k : ansS y (sw i) (sh i) = ss i
      · rw [if_pos k]
        exact Or.inl ⟨_, rfl, nI_1 i, by rw [fitB_s, a2, decide_eq_true k]; rfl⟩
      · rw [if_neg k]
        refine Or.inr ⟨_, rfl, ?_⟩
        have f1 : fitB y sw sh ss (i + 1) = false := by rw [fitB_s, decide_eq_false k, Bool.and_false]
        have f2 := fitB_F (k := n - (i + 1)) f1
        rw [show i + 1 + (n - (i + 1)) = n by omega] at f2
        rw [f2]; rfl)
    (fun x ⟨a1, a2⟩ => ⟨(1, x.2), by unfold s_X6_allSignsFit_2; rw [a1, if_pos (by rw [nle] <;> omega)], by rw [a2]; rfl⟩) (by omega) ⟨rfl, rfl⟩
  exact ⟨v.2, by unfold f_X6_allSignsFit; rw [e1, ← e2]⟩
def fitF (y : K4) (sw sh ss : Nat → Int32) (n k : Nat) : Nat → Int32
  | 0 => 0
  | s + 1 => if fitB (f_X4_worsen y (nI k) (nI (s + 1))) sw sh ss n = true then fitF y sw sh ss n k s + 1 else fitF y sw sh ss n k s
theorem fitF_s (y : K4) (sw sh ss : Nat → Int32) (n k s : Nat) : fitF y sw sh ss n k (s + 1) = if fitB (f_X4_worsen y (nI k) (nI (s + 1))) sw sh ss n = true then fitF y sw sh ss n k s + 1 else fitF y sw sh ss n k s := rfl
theorem fitF_congr {y : K4} {sw sh ss sw' sh' ss' : Nat → Int32} {n k : Nat} (h : ∀ j, j < n → sw j = sw' j ∧ sh j = sh' j ∧ ss j = ss' j) : ∀ s, fitF y sw sh ss n k s = fitF y sw' sh' ss' n k s
  | 0 => rfl
  | s + 1 => by rw [fitF_s, fitF_s, fitF_congr h s, fitB_congr n h]
theorem fitF_int (y : K4) (sw sh ss : Nat → Int32) (n k : Nat) : ∀ s, s ≤ 9 → ∃ q : Nat, q ≤ s ∧ fitF y sw sh ss n k s = nI q
  | 0, _ => ⟨0, by omega, rfl⟩
  | s + 1, h => by
    obtain ⟨q, hq, e⟩ := fitF_int y sw sh ss n k s (by omega)
    rw [fitF_s]
    by_cases c : fitB (f_X4_worsen y (nI k) (nI (s + 1))) sw sh ss n = true
    · rw [if_pos c, e]; exact ⟨q + 1, by omega, nI_1 q⟩
    · rw [if_neg c]; exact ⟨q, by omega, e⟩
theorem worVY {y : K4} (hy : VY y) {k s : Nat} (hk : k ≤ 5) (hs1 : 1 ≤ s) (hs : s ≤ 9) : VY (f_X4_worsen y (nI k) (nI s)) :=
  (worX7 (told := fun j => [y.1, y.2.1, y.2.2.1, y.2.2.2.1, y.2.2.2.2.1, y.2.2.2.2.2.1, y.2.2.2.2.2.2.1, y.2.2.2.2.2.2.2.1, y.2.2.2.2.2.2.2.2.1, y.2.2.2.2.2.2.2.2.2.1, y.2.2.2.2.2.2.2.2.2.2].getD j 0) (0, 0, 0, 0, 0, 0, 0, 0, 0, 0, 0, 0) (fun _ => 0) (N := 500) (by omega) ⟨rfl, rfl, rfl, rfl, rfl, rfl, rfl, rfl, rfl, rfl, rfl⟩ hy hk hs1 hs).1
theorem fitsX6 {y : K4} (o : K6) (sg : K2) (sw sh ss : Nat → Int32) (ot : K4) (sd : K0) {N n k : Nat} (hN : 400 < N) (hy : VY y) (hsg : sg = nI n) (hn : n ≤ 6) (hok : ∀ j, j < n → okA (sw j) (sh j)) (hk : k ≤ 5) : ∃ ot' sd', f_X6_fits N o y sg sw sh ss ot sd (nI k) = some (fitF y sw sh ss n k 9, ot', sd') := by
  obtain ⟨v, e1, e2⟩ := xlp_rel (st := s_X6_fits_4 N o y sg sw sh ss (nI k)) (fun i v => v.1 = fitF y sw sh ss n k i ∧ v.2.1 = nI (i + 1)) 9 (fun v => v.1 = fitF y sw sh ss n k 9) (n := N) (x := (0, 1, ot, sd))
    (fun i x hi ⟨a1, a2⟩ => by
      obtain ⟨sd', g⟩ := allX6 (N := N) o sg sw sh ss x.2.2.2 hN (worVY hy hk (s := i + 1) (by omega) (by omega)) hsg hn hok
      refine Or.inl ⟨(fitF y sw sh ss n k (i + 1), nI (i + 2), f_X4_worsen y (nI k) (nI (i + 1)), sd'), ?_, rfl, rfl⟩
      unfold s_X6_fits_4
      rw [a1, a2, if_neg (by rw [nlit, nlt] <;> omega), trouble6 _ _ _ hN, Option.bind_some, g, Option.bind_some, fitF_s, nI_1]
      by_cases c : fitB (f_X4_worsen y (nI k) (nI (i + 1))) sw sh ss n = true
      · rw [if_pos c, if_pos c, if_neg ne10]
      · rw [if_neg c, if_neg c, if_pos rfl])
    (fun x ⟨a1, a2⟩ => ⟨x, by unfold s_X6_fits_4; rw [a2, if_pos (by rw [nlit, nlt] <;> omega), ← a2], a1⟩) (by omega) ⟨rfl, rfl⟩
  exact ⟨v.2.2.1, v.2.2.2, by unfold f_X6_fits; rw [e1, Option.bind_some, e2]⟩
theorem fitsX7 {y : K4} {told : Nat → Int32} (o : K7) (gw gh gi : Nat → Int32) (par t : Nat → Int32) {N n k : Nat} (hN : 400 < N) (hp : RP told y) (hy : VY y) (hsg : o.2.2.2.2.2.2.2.1 = nI n) (hn : n ≤ 6) (hok : ∀ j, j < n → okA (gw j) (gh j)) (hk : k ≤ 5) : ∃ par' t', f_X7_fittingOf N o told par t gw gh gi (nI k) = some (fitF y gw gh gi n k 9, par', t') := by
  obtain ⟨v, e1, e2⟩ := xlp_rel (st := s_X7_fittingOf_4 N o told gw gh gi (nI k)) (fun i v => v.1 = fitF y gw gh gi n k i ∧ v.2.1 = nI (i + 1)) 9 (fun v => v.1 = fitF y gw gh gi n k 9) (n := N) (x := (0, 1, par, t))
    (fun i x hi ⟨a1, a2⟩ => by
      obtain ⟨v3, c1, c2⟩ := xlp_rel (st := s_X7_fittingOf_16 N o told gw gh gi (nI k) x) (fun j v => v.2.1 = nI j ∧ v.1 = (if fitB (f_X4_worsen y (nI k) (nI (i + 1))) gw gh gi j = true then 1 else 0)) n (fun v => v.1 = (if fitB (f_X4_worsen y (nI k) (nI (i + 1))) gw gh gi n = true then 1 else 0)) (n := N) (x := (1, 0, x.2.2.1, x.2.2.2))
        (fun j z hj ⟨b1, b2⟩ => by
          obtain ⟨hv, par', g1, g2⟩ := worX7 (N := N) (k := k) (s := i + 1) o z.2.2.1 hN hp hy hk (by omega) (by omega)
          obtain ⟨t', g3⟩ := ansX7 (N := N) o z.2.2.2 hN hv g2 (hok j hj)
          unfold s_X7_fittingOf_16
          rw [b1, hsg, if_neg (by rw [nle] <;> omega), b2]
          by_cases c : fitB (f_X4_worsen y (nI k) (nI (i + 1))) gw gh gi j = true
          · rw [if_pos c, if_neg ne10, a2, g1, Option.bind_some, if_pos (xin_n (by omega) (by omega)), nI_clamp (by omega), g3, Option.bind_some]
            by_cases q : ansS (f_X4_worsen y (nI k) (nI (i + 1))) (gw j) (gh j) = gi j
            · rw [if_pos q]
              exact Or.inl ⟨_, rfl, nI_1 j, by rw [fitB_s, c, decide_eq_true q]; rfl⟩
            · rw [if_neg q]
              exact Or.inl ⟨_, rfl, nI_1 j, by rw [fitB_s, c, decide_eq_false q]; rfl⟩
          · rw [if_neg c, if_pos rfl]
            rw [Bool.not_eq_true] at c
            have f2 := fitB_F (k := n - j) c
            rw [show j + (n - j) = n by omega] at f2
            refine Or.inr ⟨_, rfl, ?_⟩
            rw [f2]; rfl)
        (fun z ⟨b1, b2⟩ => ⟨z, by unfold s_X7_fittingOf_16; rw [b1, hsg, if_pos (by rw [nle] <;> omega), ← b1], b2⟩) (by omega) ⟨rfl, rfl⟩
      refine Or.inl ⟨(fitF y gw gh gi n k (i + 1), nI (i + 2), v3.2.2.1, v3.2.2.2), ?_, rfl, rfl⟩
      unfold s_X7_fittingOf_4
      rw [a1, a2, if_neg (by rw [nlit, nlt] <;> omega), c1, Option.bind_some, c2, fitF_s, nI_1]
      by_cases c : fitB (f_X4_worsen y (nI k) (nI (i + 1))) gw gh gi n = true
      · rw [if_pos c, if_neg ne10, if_pos c]
      · rw [if_neg c, if_pos rfl, if_neg c, iadd0])
    (fun x ⟨a1, a2⟩ => ⟨x, by unfold s_X7_fittingOf_4; rw [a2, if_pos (by rw [nlit, nlt] <;> omega), ← a2], a1⟩) (by omega) ⟨rfl, rfl⟩
  exact ⟨v.2.2.1, v.2.2.2, by unfold f_X7_fittingOf; rw [e1, Option.bind_some, e2]⟩
set_option maxHeartbeats 4000000 in
theorem op_fitting {N : Nat} (hN : 400 < N) {u : CX} {w : CM} (hR : Rel u w) (a1 : Int32) : ∃ (rx : Int32 × K4 × K0) (rm : Int32 × (Nat → Int32) × (Nat → Int32)), f_X6_fitting N u.1 u.2.2.2.1 u.2.2.2.2.2.2.2.2.1 u.2.2.2.2.2.2.2.2.2.1 u.2.2.2.2.2.2.2.2.2.2.1 u.2.2.2.2.2.2.2.2.2.2.2.1 u.2.2.2.2.2.2.2.2.2.2.2.2.2.2.2.2.2.2.2.2.1 u.2.2.2.2.2.2.2.2.2.2.2.2.2.2.2.2.2.2.2.2.2.1 a1 = some rx ∧ f_X7_fitting N w.1 w.2.2.1 w.2.2.2.1 w.2.2.2.2.1 w.2.2.2.2.2.2.2.1 w.2.2.2.2.2.2.2.2.1 w.2.2.2.2.2.2.2.2.2.1 a1 = some rm ∧ rx.1 = rm.1 ∧ Rel (u.1, u.2.1, u.2.2.1, u.2.2.2.1, u.2.2.2.2.1, u.2.2.2.2.2.1, u.2.2.2.2.2.2.1, u.2.2.2.2.2.2.2.1, u.2.2.2.2.2.2.2.2.1, u.2.2.2.2.2.2.2.2.2.1, u.2.2.2.2.2.2.2.2.2.2.1, u.2.2.2.2.2.2.2.2.2.2.2.1, u.2.2.2.2.2.2.2.2.2.2.2.2.1, u.2.2.2.2.2.2.2.2.2.2.2.2.2.1, u.2.2.2.2.2.2.2.2.2.2.2.2.2.2.1, u.2.2.2.2.2.2.2.2.2.2.2.2.2.2.2.1, u.2.2.2.2.2.2.2.2.2.2.2.2.2.2.2.2.1, u.2.2.2.2.2.2.2.2.2.2.2.2.2.2.2.2.2.1, u.2.2.2.2.2.2.2.2.2.2.2.2.2.2.2.2.2.2.1, u.2.2.2.2.2.2.2.2.2.2.2.2.2.2.2.2.2.2.2.1, rx.2.1, rx.2.2, u.2.2.2.2.2.2.2.2.2.2.2.2.2.2.2.2.2.2.2.2.2.2.1, u.2.2.2.2.2.2.2.2.2.2.2.2.2.2.2.2.2.2.2.2.2.2.2.1, u.2.2.2.2.2.2.2.2.2.2.2.2.2.2.2.2.2.2.2.2.2.2.2.2) (w.1, w.2.1, w.2.2.1, rm.2.1, rm.2.2, w.2.2.2.2.2.1, w.2.2.2.2.2.2.1, w.2.2.2.2.2.2.2.1, w.2.2.2.2.2.2.2.2.1, w.2.2.2.2.2.2.2.2.2.1, w.2.2.2.2.2.2.2.2.2.2.1, w.2.2.2.2.2.2.2.2.2.2.2.1, w.2.2.2.2.2.2.2.2.2.2.2.2.1, w.2.2.2.2.2.2.2.2.2.2.2.2.2.1, w.2.2.2.2.2.2.2.2.2.2.2.2.2.2.1, w.2.2.2.2.2.2.2.2.2.2.2.2.2.2.2.1, w.2.2.2.2.2.2.2.2.2.2.2.2.2.2.2.2.1, w.2.2.2.2.2.2.2.2.2.2.2.2.2.2.2.2.2.1, w.2.2.2.2.2.2.2.2.2.2.2.2.2.2.2.2.2.2) := by
  obtain ⟨h1, h2, ⟨hy, hp⟩, ⟨hc, ht⟩, h5, h6, ⟨n, hn, t1, t2, t3⟩, h8, h9, h10, h11⟩ := id hR
  by_cases ha : (0 : Int32).toInt ≤ a1.toInt ∧ a1.toInt ≤ (5 : Int32).toInt
  · obtain ⟨k, hk, -, rfl⟩ := rng (n := 5) (by decide) (by decide) ha
    have hok : ∀ j, j < n → okA (u.2.2.2.2.2.2.2.2.2.1 j) (u.2.2.2.2.2.2.2.2.2.2.1 j) := fun j hj => (t3 j hj).2.2.2
    have hcg : ∀ j, j < n → u.2.2.2.2.2.2.2.2.2.1 j = w.2.2.2.2.2.2.2.1 j ∧ u.2.2.2.2.2.2.2.2.2.2.1 j = w.2.2.2.2.2.2.2.2.1 j ∧ u.2.2.2.2.2.2.2.2.2.2.2.1 j = w.2.2.2.2.2.2.2.2.2.1 j := fun j hj => ⟨(t3 j hj).1, (t3 j hj).2.1, (t3 j hj).2.2.1⟩
    have hok' : ∀ j, j < n → okA (w.2.2.2.2.2.2.2.1 j) (w.2.2.2.2.2.2.2.2.1 j) := fun j hj => by
      rw [← (hcg j hj).1, ← (hcg j hj).2.1]; exact hok j hj
    obtain ⟨q1, q2, g1⟩ := fitsX6 (N := N) u.1 u.2.2.2.2.2.2.2.2.1 u.2.2.2.2.2.2.2.2.2.1 u.2.2.2.2.2.2.2.2.2.2.1 u.2.2.2.2.2.2.2.2.2.2.2.1 u.2.2.2.2.2.2.2.2.2.2.2.2.2.2.2.2.2.2.2.2.1 u.2.2.2.2.2.2.2.2.2.2.2.2.2.2.2.2.2.2.2.2.2.1 hN hy t1 hn hok hk
    obtain ⟨q3, q4, g2⟩ := fitsX7 (N := N) w.1 w.2.2.2.2.2.2.2.1 w.2.2.2.2.2.2.2.2.1 w.2.2.2.2.2.2.2.2.2.1 w.2.2.2.1 w.2.2.2.2.1 hN hp hy t2 hn hok' hk
    refine ⟨_, _, by unfold f_X6_fitting; rw [out0 ha, if_pos rfl, g1]; rfl, by unfold f_X7_fitting f_X7_isTrouble; rw [in1 ha, if_neg ne10, g2]; rfl, ?_, ?_⟩
    · exact fitF_congr hcg 9
    · exact mkRel h1 h2 ⟨hy, hp⟩ ⟨hc, ht⟩ h5 h6 ⟨n, hn, t1, t2, t3⟩ h8 h9 h10 h11
  · refine ⟨_, _, by unfold f_X6_fitting; rw [out1 ha, if_neg ne10], by unfold f_X7_fitting f_X7_isTrouble; rw [in0 ha, if_pos rfl], ?_, ?_⟩
    · rfl
    · exact mkRel h1 h2 ⟨hy, hp⟩ ⟨hc, ht⟩ h5 h6 ⟨n, hn, t1, t2, t3⟩ h8 h9 h10 h11
