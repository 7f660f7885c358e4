/-! pump: class and reference -/
set_option maxHeartbeats 1000000 in
theorem op_pump {N : Nat} (hN : 400 < N) {u : CX} {w : CM} (hR : Rel u w) : ∃ (rx : Int32 × K3 × K4 × K0 × (Nat → Int32) × K4) (rm : Int32 × K7 × (Nat → Int32) × (Nat → Int32) × (Nat → Int32) × (Nat → Int32) × (Nat → Int32)), f_X6_pump N u.1 u.2.1 u.2.2.1 u.2.2.2.1 u.2.2.2.2.1 u.2.2.2.2.2.2.2.1 u.2.2.2.2.2.2.2.2.2.2.2.2.2.2.2.2.2.2.2.2.1 = some rx ∧ f_X7_pump N w.1 w.2.1 w.2.2.1 w.2.2.2.1 w.2.2.2.2.1 w.2.2.2.2.2.1 w.2.2.2.2.2.2.1 = some rm ∧ rx.1 = rm.1 ∧ Rel (u.1, rx.2.1, u.2.2.1, rx.2.2.1, rx.2.2.2.1, u.2.2.2.2.2.1, u.2.2.2.2.2.2.1, rx.2.2.2.2.1, u.2.2.2.2.2.2.2.2.1, u.2.2.2.2.2.2.2.2.2.1, u.2.2.2.2.2.2.2.2.2.2.1, u.2.2.2.2.2.2.2.2.2.2.2.1, u.2.2.2.2.2.2.2.2.2.2.2.2.1, u.2.2.2.2.2.2.2.2.2.2.2.2.2.1, u.2.2.2.2.2.2.2.2.2.2.2.2.2.2.1, u.2.2.2.2.2.2.2.2.2.2.2.2.2.2.2.1, u.2.2.2.2.2.2.2.2.2.2.2.2.2.2.2.2.1, u.2.2.2.2.2.2.2.2.2.2.2.2.2.2.2.2.2.1, u.2.2.2.2.2.2.2.2.2.2.2.2.2.2.2.2.2.2.1, u.2.2.2.2.2.2.2.2.2.2.2.2.2.2.2.2.2.2.2.1, rx.2.2.2.2.2, u.2.2.2.2.2.2.2.2.2.2.2.2.2.2.2.2.2.2.2.2.2.1, u.2.2.2.2.2.2.2.2.2.2.2.2.2.2.2.2.2.2.2.2.2.2.1, u.2.2.2.2.2.2.2.2.2.2.2.2.2.2.2.2.2.2.2.2.2.2.2.1, u.2.2.2.2.2.2.2.2.2.2.2.2.2.2.2.2.2.2.2.2.2.2.2.2) (rm.2.1, w.2.1, rm.2.2.1, rm.2.2.2.1, rm.2.2.2.2.1, rm.2.2.2.2.2.1, rm.2.2.2.2.2.2, w.2.2.2.2.2.2.2.1, w.2.2.2.2.2.2.2.2.1, w.2.2.2.2.2.2.2.2.2.1, w.2.2.2.2.2.2.2.2.2.2.1, w.2.2.2.2.2.2.2.2.2.2.2.1, w.2.2.2.2.2.2.2.2.2.2.2.2.1, w.2.2.2.2.2.2.2.2.2.2.2.2.2.1, w.2.2.2.2.2.2.2.2.2.2.2.2.2.2.1, w.2.2.2.2.2.2.2.2.2.2.2.2.2.2.2.1, w.2.2.2.2.2.2.2.2.2.2.2.2.2.2.2.2.1, w.2.2.2.2.2.2.2.2.2.2.2.2.2.2.2.2.2.1, w.2.2.2.2.2.2.2.2.2.2.2.2.2.2.2.2.2.2) := by
  obtain ⟨h1, h2, ⟨hy, hp⟩, ⟨hc, ht⟩, h5, h6, h7, h8, h9, h10, h11⟩ := id hR
  obtain ⟨n, bt, x1, x2, hB⟩ := txB_of h2
  have hn := hB.1
  obtain ⟨t', e1, e2, e3⟩ := tellPlain_eq (w.1.1, w.1.2.1, 0, w.1.2.2.2.1, w.1.2.2.2.2.1, w.1.2.2.2.2.2.1, (-9), w.1.2.2.2.2.2.2.2.1, w.1.2.2.2.2.2.2.2.2.1, w.1.2.2.2.2.2.2.2.2.2.1, w.1.2.2.2.2.2.2.2.2.2.2.1, w.1.2.2.2.2.2.2.2.2.2.2.2) w.2.2.1
  obtain ⟨R, gR, fR, hA⟩ := next_ok (p := 0) (W := w.1) (o := (w.1.1, w.1.2.1, 0, w.1.2.2.2.1, w.1.2.2.2.2.1, w.1.2.2.2.2.2.1, (-9), w.1.2.2.2.2.2.2.2.1, w.1.2.2.2.2.2.2.2.2.1, w.1.2.2.2.2.2.2.2.2.2.1, w.1.2.2.2.2.2.2.2.2.2.2.1, w.1.2.2.2.2.2.2.2.2.2.2.2)) hN hB ⟨rfl, x2, rfl, rfl, rfl⟩ rfl rfl (by omega)
  obtain ⟨ans, tx', y', v, r1, r2, r3, r4, r5, r6⟩ := read_ok (W := w.1) hN hB 6 0 (u.2.1.1, 0, u.2.1.2.2.1, u.2.1.2.2.2.1, u.2.1.2.2.2.2.1, 0) (40, 10, 26, 20, 10, 0, 99, 0, 100, 0, 0) R t' 0 N N (by omega) (by decide) (by omega) (by omega) x1 rfl rfl (by omega) hA untold_VY e2
  have m0 : nI (cntD 0) = 0 := by decide
  have m1 : nI (refD 0) = 0 := by decide
  rw [m0] at r1 r2
  rw [m1] at r2
  have gx : f_X3_read N u.2.1 u.2.2.1 u.2.2.2.2.2.2.2.2.2.2.2.2.2.2.2.2.2.2.2.2.1 = some (ans, tx', y') := by
    unfold f_X3_read
    rw [beUntold4 _ hN, Option.bind_some]
    exact r1
  have gm : ∀ z, (if k7f v.2.2.1 = -9 then Option.bind (xlp s_X7_pump_230 N (0, v.2.2.2)) fun v32 => Option.bind (f_X7_anew N v.2.2.1 v32.2 w.2.2.2.1 w.2.2.2.2.1 w.2.2.2.2.2.1) fun r33 => some (v.1, (v.2.2.1.1, 0, v.2.2.1.2.2.1, v.2.2.1.2.2.2.1, v.2.2.1.2.2.2.2.1, v.2.2.1.2.2.2.2.2.1, v.2.2.1.2.2.2.2.2.2.1, v.2.2.1.2.2.2.2.2.2.2.1, v.2.2.1.2.2.2.2.2.2.2.2.1, v.2.2.1.2.2.2.2.2.2.2.2.2.1, v.2.2.1.2.2.2.2.2.2.2.2.2.2.1, v.2.2.1.2.2.2.2.2.2.2.2.2.2.2), v32.2, r33.2.1, r33.2.2.1, r33.2.2.2, (upd (upd w.2.2.2.2.2.2.1 0 0) 1 0)) else some (((-10) - k7f v.2.2.1), v.2.2.1, v.2.2.2, w.2.2.2.1, w.2.2.2.2.1, w.2.2.2.2.2.1, w.2.2.2.2.2.2.1) : Option (Int32 × K7 × (Nat → Int32) × (Nat → Int32) × (Nat → Int32) × (Nat → Int32) × (Nat → Int32))) = z → f_X7_pump N w.1 w.2.1 w.2.2.1 w.2.2.2.1 w.2.2.2.2.1 w.2.2.2.2.2.1 w.2.2.2.2.2.2.1 = z := by
    intro z hz
    unfold f_X7_pump
    rw [e1, Option.bind_some, gR, Option.bind_some, r2, Option.bind_some]
    exact hz
  obtain ⟨p1, p2, p3, p4, p5⟩ := r5
  have q1 : v.2.2.1.1 = u.1 := p1.trans h1
  have q7 : relG u.2.2.2.2.2.2.2.2.1 u.2.2.2.2.2.2.2.2.2.1 u.2.2.2.2.2.2.2.2.2.2.1 u.2.2.2.2.2.2.2.2.2.2.2.1 v.2.2.1 w.2.2.2.2.2.2.2.1 w.2.2.2.2.2.2.2.2.1 w.2.2.2.2.2.2.2.2.2.1 := by
    obtain ⟨m, a1, a2, a3, a4⟩ := h7
    exact ⟨m, a1, a2, p3.trans a3, a4⟩
  have q10 : relS u.2.2.2.2.2.2.2.2.2.2.2.2.2.2.1 u.2.2.2.2.2.2.2.2.2.2.2.2.2.2.2.1 u.2.2.2.2.2.2.2.2.2.2.2.2.2.2.2.2.1 v.2.2.1 w.2.2.2.2.2.2.2.2.2.2.2.2.2.2.2.1 w.2.2.2.2.2.2.2.2.2.2.2.2.2.2.2.2.1 := by
    obtain ⟨m, a1, a2, a3, a4⟩ := h10
    exact ⟨m, a1, a2, p4.trans a3, a4⟩
  have q11 : relY u.2.2.2.2.2.2.2.2.2.2.2.2.2.2.2.2.2.1 u.2.2.2.2.2.2.2.2.2.2.2.2.2.2.2.2.2.2.1 u.2.2.2.2.2.2.2.2.2.2.2.2.2.2.2.2.2.2.2.1 v.2.2.1 w.2.2.2.2.2.2.2.2.2.2.2.2.2.2.2.2.2.1 w.2.2.2.2.2.2.2.2.2.2.2.2.2.2.2.2.2.2 := by
    obtain ⟨m, a1, a2, a3, a4⟩ := h11
    exact ⟨m, a1, a2, p5.trans a3, a4⟩
  rcases r6 with ⟨q, hq, c1, c2, c3, hy', hp'⟩ | ⟨s, hs, c1, c2⟩
  · obtain ⟨v32, e4, e5⟩ := copy230 v.2.2.2 hN hp'
    obtain ⟨g1, g2⟩ := startEmpty_eq hy' u.2.2.2.2.1
    obtain ⟨par', e6, e7⟩ := f_X7_takeTold_eq (N := N) v.2.2.1 (par := w.2.2.2.1) (by omega) e5
    obtain ⟨t2, e8, e9⟩ := f_X7_begin_eq (N := N) v.2.2.1 w.2.2.2.2.1 (10 * par' 2) (par' 8) (by omega)
    obtain ⟨n', e10, e11, e12⟩ := f_X7_giveNow_eq (N := N) v.2.2.1 (nows := w.2.2.2.2.2.1) (by omega) e9
    have c0 : (0 : Int32) ≤ ans := by rw [c1, zle, z0, nI_toInt (by omega)]; omega
    have gy : f_X6_pump N u.1 u.2.1 u.2.2.1 u.2.2.2.1 u.2.2.2.2.1 u.2.2.2.2.2.2.2.1 u.2.2.2.2.2.2.2.2.2.2.2.2.2.2.2.2.2.2.2.2.1 = some (ans, (0, tx'.2.1, tx'.2.2.1, tx'.2.2.2.1, tx'.2.2.2.2.1, tx'.2.2.2.2.2), y', (dep y' 0, y'.2.2.2.2.2.2.2.2.1, 0, 0, 0, 0, 0), (upd (upd u.2.2.2.2.2.2.2.1 0 0) 1 0), y') := by
      unfold f_X6_pump
      rw [gx, Option.bind_some, if_pos c0, Option.bind_some, beLike4 _ _ hN, Option.bind_some, g1]
      rfl
    refine ⟨_, _, gy, gm _ (by rw [if_pos c3, e4, Option.bind_some]; unfold f_X7_anew; rw [e6, Option.bind_some, e8, Option.bind_some, e10]; rfl), c1.trans c2.symm, ?_⟩
    rw [e7.2.2.1, e7.2.2.2.2.2.2.2.2.1, ← dep_0 hy'] at e11
    exact mkRel q1 ⟨0, by omega, rfl, rfl, fun j hj => by omega⟩ ⟨hy', e5⟩ ⟨g2, e11⟩ (relI_of h5 e12) ⟨rfl, rfl⟩ q7 h8 h9 q10 q11
  · have c0 : ¬ (0 : Int32) ≤ ans := by
      have e := zsub (x := -10) (y := nI s) (by rw [nI_toInt (by omega), show (-10 : Int32).toInt = -10 from by decide]; omega) (by rw [nI_toInt (by omega), show (-10 : Int32).toInt = -10 from by decide]; omega)
      rw [nI_toInt (by omega), show (-10 : Int32).toInt = -10 from by decide] at e
      rw [c1, zle, z0, e]; omega
    have gy : f_X6_pump N u.1 u.2.1 u.2.2.1 u.2.2.2.1 u.2.2.2.2.1 u.2.2.2.2.2.2.2.1 u.2.2.2.2.2.2.2.2.2.2.2.2.2.2.2.2.2.2.2.2.1 = some (ans, tx', u.2.2.2.1, u.2.2.2.2.1, u.2.2.2.2.2.2.2.1, y') := by
      unfold f_X6_pump
      rw [gx, Option.bind_some, if_neg c0]
    have c9 : ¬ k7f v.2.2.1 = -9 := by rw [c2]; exact n9n (by omega)
    refine ⟨_, _, gy, gm _ (if_neg c9), ?_, ?_⟩
    · show ans = -10 - k7f v.2.2.1
      rw [c1, c2]
    · obtain ⟨m, b1, b2, b3, b4⟩ := h2
      have em : m = n := by
        have := b2.symm.trans x1
        exact (nI_eq (by omega) (by omega)).mp this
      subst em
      exact mkRel q1 ⟨m, b1, r3, p2, b4⟩ ⟨hy, RP_of (fun j hj => (r4 j hj).trans (e3 j hj)) hp⟩ ⟨hc, ht⟩ h5 h6 q7 h8 h9 q10 q11
