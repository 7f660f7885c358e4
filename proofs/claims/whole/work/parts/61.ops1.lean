/-! the steps, one by one -/
set_option maxHeartbeats 4000000 in
theorem op_told {N : Nat} (hN : 400 < N) {u : CX} {w : CM} (hR : Rel u w) (a1 : Int32) : ∃ (rx : Int32) (rm : Int32), f_X6_told u.1 u.2.2.2.1 a1 = rx ∧ f_X7_told w.1 w.2.2.1 a1 = some rm ∧ rx = rm ∧ Rel u w := by
  obtain ⟨h1, h2, ⟨hy, hp⟩, h4, h5, h6, h7, h8, h9, h10, h11⟩ := id hR
  by_cases ha : (0 : Int32).toInt ≤ a1.toInt ∧ a1.toInt ≤ (10 : Int32).toInt
  · obtain ⟨q, hq, -, rfl⟩ := rng (n := 10) (by decide) (by decide) ha
    refine ⟨_, _, rfl, by unfold f_X7_told; rw [in1 ha, if_neg ne10, if_pos (xin_n (by omega) (by omega))], ?_, hR⟩
    unfold f_X6_told
    rw [out0 ha, if_pos rfl, nI_clamp (by omega)]
    obtain ⟨p0, p1, p2, p3, p4, p5, p6, p7, p8, p9, p10⟩ := hp
    rcases (show q = 0 ∨ q = 1 ∨ q = 2 ∨ q = 3 ∨ q = 4 ∨ q = 5 ∨ q = 6 ∨ q = 7 ∨ q = 8 ∨ q = 9 ∨ q = 10 by omega) with rfl | rfl | rfl | rfl | rfl | rfl | rfl | rfl | rfl | rfl | rfl
    · rw [p0]; rfl
    · rw [p1]; rfl
    · rw [p2]; rfl
    · rw [p3]; rfl
    · rw [p4]; rfl
    · rw [p5]; rfl
    · rw [p6]; rfl
    · rw [p7]; rfl
    · rw [p8]; rfl
    · rw [p9]; rfl
    · rw [p10]; rfl
  · refine ⟨_, _, rfl, by unfold f_X7_told; rw [in0 ha, if_pos rfl], ?_, hR⟩
    unfold f_X6_told
    rw [out1 ha, if_neg ne10]
set_option maxHeartbeats 4000000 in
theorem op_jug {N : Nat} (hN : 400 < N) {u : CX} {w : CM} (hR : Rel u w) (a1 : Int32) : ∃ (rx : Int32 × K0) (rm : Int32 × (Nat → Int32) × (Nat → Int32) × (Nat → Int32)), f_X6_jug u.1 u.2.2.2.2.1 a1 = rx ∧ f_X7_jug N w.1 w.2.2.1 w.2.2.2.1 w.2.2.2.2.1 w.2.2.2.2.2.1 a1 = some rm ∧ rx.1 = rm.1 ∧ Rel (u.1, u.2.1, u.2.2.1, u.2.2.2.1, rx.2, u.2.2.2.2.2.1, u.2.2.2.2.2.2.1, u.2.2.2.2.2.2.2.1, u.2.2.2.2.2.2.2.2.1, u.2.2.2.2.2.2.2.2.2.1, u.2.2.2.2.2.2.2.2.2.2.1, u.2.2.2.2.2.2.2.2.2.2.2.1, u.2.2.2.2.2.2.2.2.2.2.2.2.1, u.2.2.2.2.2.2.2.2.2.2.2.2.2.1, u.2.2.2.2.2.2.2.2.2.2.2.2.2.2.1, u.2.2.2.2.2.2.2.2.2.2.2.2.2.2.2.1, u.2.2.2.2.2.2.2.2.2.2.2.2.2.2.2.2.1, u.2.2.2.2.2.2.2.2.2.2.2.2.2.2.2.2.2.1, u.2.2.2.2.2.2.2.2.2.2.2.2.2.2.2.2.2.2.1, u.2.2.2.2.2.2.2.2.2.2.2.2.2.2.2.2.2.2.2.1, u.2.2.2.2.2.2.2.2.2.2.2.2.2.2.2.2.2.2.2.2.1, u.2.2.2.2.2.2.2.2.2.2.2.2.2.2.2.2.2.2.2.2.2.1, u.2.2.2.2.2.2.2.2.2.2.2.2.2.2.2.2.2.2.2.2.2.2.1, u.2.2.2.2.2.2.2.2.2.2.2.2.2.2.2.2.2.2.2.2.2.2.2.1, u.2.2.2.2.2.2.2.2.2.2.2.2.2.2.2.2.2.2.2.2.2.2.2.2) (w.1, w.2.1, w.2.2.1, rm.2.1, rm.2.2.1, rm.2.2.2, w.2.2.2.2.2.2.1, w.2.2.2.2.2.2.2.1, w.2.2.2.2.2.2.2.2.1, w.2.2.2.2.2.2.2.2.2.1, w.2.2.2.2.2.2.2.2.2.2.1, w.2.2.2.2.2.2.2.2.2.2.2.1, w.2.2.2.2.2.2.2.2.2.2.2.2.1, w.2.2.2.2.2.2.2.2.2.2.2.2.2.1, w.2.2.2.2.2.2.2.2.2.2.2.2.2.2.1, w.2.2.2.2.2.2.2.2.2.2.2.2.2.2.2.1, w.2.2.2.2.2.2.2.2.2.2.2.2.2.2.2.2.1, w.2.2.2.2.2.2.2.2.2.2.2.2.2.2.2.2.2.1, w.2.2.2.2.2.2.2.2.2.2.2.2.2.2.2.2.2.2) := by
  obtain ⟨h1, h2, ⟨hy, hp⟩, ⟨hc, ht⟩, h5, h6, h7, h8, h9, h10, h11⟩ := id hR
  by_cases ha : (1 : Int32).toInt ≤ a1.toInt ∧ a1.toInt ≤ (99 : Int32).toInt
  · obtain ⟨p', t', e1, e2, e3⟩ := f_X7_takeNow_eq (N := N) w.1 (par := w.2.2.2.1) (t := w.2.2.2.2.1) (by omega) hp ht
    have hb := ha
    rw [z1, z99] at hb
    obtain ⟨t2, e4, e5⟩ := f_X7_pour_eq (n := a1) w.1 e3 hc (by omega) (by omega)
    obtain ⟨n', e6, e7, e8⟩ := f_X7_giveNow_eq (N := N) w.1 (nows := w.2.2.2.2.2.1) (by omega) e5
    refine ⟨_, _, rfl, by unfold f_X7_jug; rw [in1 ha, if_neg ne10, e1, Option.bind_some, e4, Option.bind_some, e6]; rfl, ?_, ?_⟩
    · unfold f_X6_jug; rw [out0 ha, if_pos rfl]
    · unfold f_X6_jug; rw [out0 ha, if_pos rfl]
      exact mkRel h1 h2 ⟨hy, hp⟩ ⟨pour_VC hc (by omega) (by omega), e7⟩ (relI_of h5 e8) h6 h7 h8 h9 h10 h11
  · refine ⟨_, _, rfl, by unfold f_X7_jug; rw [in0 ha, if_pos rfl], ?_, ?_⟩
    · unfold f_X6_jug; rw [out1 ha, if_neg ne10]
    · unfold f_X6_jug; rw [out1 ha, if_neg ne10]
      exact mkRel h1 h2 ⟨hy, hp⟩ ⟨hc, ht⟩ h5 h6 h7 h8 h9 h10 h11
set_option maxHeartbeats 4000000 in
theorem op_strokes {N : Nat} (hN : 400 < N) {u : CX} {w : CM} (hR : Rel u w) (a1 : Int32) : ∃ (rx : Int32 × K0) (rm : Int32 × (Nat → Int32) × (Nat → Int32) × (Nat → Int32)), f_X6_strokes N u.1 u.2.2.2.1 u.2.2.2.2.1 a1 = some rx ∧ f_X7_strokes N w.1 w.2.2.1 w.2.2.2.1 w.2.2.2.2.1 w.2.2.2.2.2.1 a1 = some rm ∧ rx.1 = rm.1 ∧ Rel (u.1, u.2.1, u.2.2.1, u.2.2.2.1, rx.2, u.2.2.2.2.2.1, u.2.2.2.2.2.2.1, u.2.2.2.2.2.2.2.1, u.2.2.2.2.2.2.2.2.1, u.2.2.2.2.2.2.2.2.2.1, u.2.2.2.2.2.2.2.2.2.2.1, u.2.2.2.2.2.2.2.2.2.2.2.1, u.2.2.2.2.2.2.2.2.2.2.2.2.1, u.2.2.2.2.2.2.2.2.2.2.2.2.2.1, u.2.2.2.2.2.2.2.2.2.2.2.2.2.2.1, u.2.2.2.2.2.2.2.2.2.2.2.2.2.2.2.1, u.2.2.2.2.2.2.2.2.2.2.2.2.2.2.2.2.1, u.2.2.2.2.2.2.2.2.2.2.2.2.2.2.2.2.2.1, u.2.2.2.2.2.2.2.2.2.2.2.2.2.2.2.2.2.2.1, u.2.2.2.2.2.2.2.2.2.2.2.2.2.2.2.2.2.2.2.1, u.2.2.2.2.2.2.2.2.2.2.2.2.2.2.2.2.2.2.2.2.1, u.2.2.2.2.2.2.2.2.2.2.2.2.2.2.2.2.2.2.2.2.2.1, u.2.2.2.2.2.2.2.2.2.2.2.2.2.2.2.2.2.2.2.2.2.2.1, u.2.2.2.2.2.2.2.2.2.2.2.2.2.2.2.2.2.2.2.2.2.2.2.1, u.2.2.2.2.2.2.2.2.2.2.2.2.2.2.2.2.2.2.2.2.2.2.2.2) (w.1, w.2.1, w.2.2.1, rm.2.1, rm.2.2.1, rm.2.2.2, w.2.2.2.2.2.2.1, w.2.2.2.2.2.2.2.1, w.2.2.2.2.2.2.2.2.1, w.2.2.2.2.2.2.2.2.2.1, w.2.2.2.2.2.2.2.2.2.2.1, w.2.2.2.2.2.2.2.2.2.2.2.1, w.2.2.2.2.2.2.2.2.2.2.2.2.1, w.2.2.2.2.2.2.2.2.2.2.2.2.2.1, w.2.2.2.2.2.2.2.2.2.2.2.2.2.2.1, w.2.2.2.2.2.2.2.2.2.2.2.2.2.2.2.1, w.2.2.2.2.2.2.2.2.2.2.2.2.2.2.2.2.1, w.2.2.2.2.2.2.2.2.2.2.2.2.2.2.2.2.2.1, w.2.2.2.2.2.2.2.2.2.2.2.2.2.2.2.2.2.2) := by
  obtain ⟨h1, h2, ⟨hy, hp⟩, ⟨hc, ht⟩, h5, h6, h7, h8, h9, h10, h11⟩ := id hR
  by_cases ha : (1 : Int32).toInt ≤ a1.toInt ∧ a1.toInt ≤ (200 : Int32).toInt
  · obtain ⟨q, hq, -, rfl⟩ := rng (n := 200) (by decide) (by decide) ha
    obtain ⟨p', t', e1, e2, e3⟩ := f_X7_takeNow_eq (N := N) w.1 (par := w.2.2.2.1) (t := w.2.2.2.2.1) (by omega) hp ht
    obtain ⟨r, e4, e5⟩ := xlp_rel (st := s_X7_strokes_21 w.1 (nI q) (p', t')) (fun i v => v.1 = (iterS u.2.2.2.1 i u.2.2.2.2.1).1 ∧ v.2.1 = nI i ∧ RC v.2.2 (addP (iterS u.2.2.2.1 i u.2.2.2.2.1).2 (nI i))) q (fun v => v.1 = (iterS u.2.2.2.1 q u.2.2.2.2.1).1 ∧ RC v.2.2 (addP (iterS u.2.2.2.1 q u.2.2.2.2.1).2 (nI q))) (n := N) (x := (0, 0, t'))
      (fun i x hi ⟨a, b, d⟩ => by
        obtain ⟨t2, g1, g2⟩ := refS w.1 e2 hy hc i d
        refine Or.inl ⟨(x.1 + (strokeS u.2.2.2.1 (iterS u.2.2.2.1 i u.2.2.2.2.1).2).1, nI (i + 1), t2), ?_, ?_, rfl, g2⟩
        · unfold s_X7_strokes_21
          rw [b, if_neg (by rw [nle] <;> omega), g1, Option.bind_some, nI_1]
        · show x.1 + _ = _
          rw [a, iterS_s1])
      (fun x ⟨a, b, d⟩ => ⟨x, by unfold s_X7_strokes_21; rw [b, if_pos (by rw [nle] <;> omega), ← b], a, d⟩) (by omega) ⟨rfl, rfl, by rw [nI_0, addP_0]; exact e3⟩
    obtain ⟨n', e6, e7, e8⟩ := f_X7_giveNow_eq (N := N) w.1 (nows := w.2.2.2.2.2.1) (by omega) e5.2
    refine ⟨_, _, by unfold f_X6_strokes; rw [out0 ha, if_pos rfl, f_X0_pull_eq hy hc (by omega) (by omega)]; rfl, by unfold f_X7_strokes; rw [in1 ha, if_neg ne10, e1, Option.bind_some, e4, Option.bind_some, e6]; rfl, e5.1.symm, ?_⟩
    exact mkRel h1 h2 ⟨hy, hp⟩ ⟨addP_VC (iterS_VC hy hc q), e7⟩ (relI_of h5 e8) h6 h7 h8 h9 h10 h11
  · refine ⟨_, _, by unfold f_X6_strokes; rw [out1 ha, if_neg ne10], by unfold f_X7_strokes; rw [in0 ha, if_pos rfl], rfl, ?_⟩
    exact mkRel h1 h2 ⟨hy, hp⟩ ⟨hc, ht⟩ h5 h6 h7 h8 h9 h10 h11
set_option maxHeartbeats 4000000 in
theorem op_hours {N : Nat} (hN : 400 < N) {u : CX} {w : CM} (hR : Rel u w) (a1 : Int32) : ∃ (rx : Int32 × K0) (rm : Int32 × (Nat → Int32) × (Nat → Int32) × (Nat → Int32)), f_X6_hours N u.1 u.2.2.2.1 u.2.2.2.2.1 a1 = some rx ∧ f_X7_hours N w.1 w.2.2.1 w.2.2.2.1 w.2.2.2.2.1 w.2.2.2.2.2.1 a1 = some rm ∧ rx.1 = rm.1 ∧ Rel (u.1, u.2.1, u.2.2.1, u.2.2.2.1, rx.2, u.2.2.2.2.2.1, u.2.2.2.2.2.2.1, u.2.2.2.2.2.2.2.1, u.2.2.2.2.2.2.2.2.1, u.2.2.2.2.2.2.2.2.2.1, u.2.2.2.2.2.2.2.2.2.2.1, u.2.2.2.2.2.2.2.2.2.2.2.1, u.2.2.2.2.2.2.2.2.2.2.2.2.1, u.2.2.2.2.2.2.2.2.2.2.2.2.2.1, u.2.2.2.2.2.2.2.2.2.2.2.2.2.2.1, u.2.2.2.2.2.2.2.2.2.2.2.2.2.2.2.1, u.2.2.2.2.2.2.2.2.2.2.2.2.2.2.2.2.1, u.2.2.2.2.2.2.2.2.2.2.2.2.2.2.2.2.2.1, u.2.2.2.2.2.2.2.2.2.2.2.2.2.2.2.2.2.2.1, u.2.2.2.2.2.2.2.2.2.2.2.2.2.2.2.2.2.2.2.1, u.2.2.2.2.2.2.2.2.2.2.2.2.2.2.2.2.2.2.2.2.1, u.2.2.2.2.2.2.2.2.2.2.2.2.2.2.2.2.2.2.2.2.2.1, u.2.2.2.2.2.2.2.2.2.2.2.2.2.2.2.2.2.2.2.2.2.2.1, u.2.2.2.2.2.2.2.2.2.2.2.2.2.2.2.2.2.2.2.2.2.2.2.1, u.2.2.2.2.2.2.2.2.2.2.2.2.2.2.2.2.2.2.2.2.2.2.2.2) (w.1, w.2.1, w.2.2.1, rm.2.1, rm.2.2.1, rm.2.2.2, w.2.2.2.2.2.2.1, w.2.2.2.2.2.2.2.1, w.2.2.2.2.2.2.2.2.1, w.2.2.2.2.2.2.2.2.2.1, w.2.2.2.2.2.2.2.2.2.2.1, w.2.2.2.2.2.2.2.2.2.2.2.1, w.2.2.2.2.2.2.2.2.2.2.2.2.1, w.2.2.2.2.2.2.2.2.2.2.2.2.2.1, w.2.2.2.2.2.2.2.2.2.2.2.2.2.2.1, w.2.2.2.2.2.2.2.2.2.2.2.2.2.2.2.1, w.2.2.2.2.2.2.2.2.2.2.2.2.2.2.2.2.1, w.2.2.2.2.2.2.2.2.2.2.2.2.2.2.2.2.2.1, w.2.2.2.2.2.2.2.2.2.2.2.2.2.2.2.2.2.2) := by
  obtain ⟨h1, h2, ⟨hy, hp⟩, ⟨hc, ht⟩, h5, h6, h7, h8, h9, h10, h11⟩ := id hR
  by_cases ha : (1 : Int32).toInt ≤ a1.toInt ∧ a1.toInt ≤ (48 : Int32).toInt
  · obtain ⟨q, hq, -, rfl⟩ := rng (n := 48) (by decide) (by decide) ha
    obtain ⟨p', t', e1, e2, e3⟩ := f_X7_takeNow_eq (N := N) w.1 (par := w.2.2.2.1) (t := w.2.2.2.2.1) (by omega) hp ht
    obtain ⟨r, e4, e5⟩ := xlp_rel (st := s_X7_hours_18 w.1 (nI q) (p', t')) (fun i v => v.1 = nI i ∧ RC v.2 (addH (iterH u.2.2.2.1 i u.2.2.2.2.1) (nI i))) q (fun v => RC v.2 (addH (iterH u.2.2.2.1 q u.2.2.2.2.1) (nI q))) (n := N) (x := (0, t'))
      (fun i x hi ⟨b, d⟩ => by
        obtain ⟨t2, g1, g2⟩ := refH w.1 e2 hy hc i d
        refine Or.inl ⟨(nI (i + 1), t2), ?_, rfl, g2⟩
        unfold s_X7_hours_18
        rw [b, if_neg (by rw [nle] <;> omega), g1, Option.bind_some, nI_1])
      (fun x ⟨b, d⟩ => ⟨x, by unfold s_X7_hours_18; rw [b, if_pos (by rw [nle] <;> omega), ← b], d⟩) (by omega) ⟨rfl, by rw [nI_0, addH_0]; exact e3⟩
    obtain ⟨n', e6, e7, e8⟩ := f_X7_giveNow_eq (N := N) w.1 (nows := w.2.2.2.2.2.1) (by omega) e5
    refine ⟨_, _, by unfold f_X6_hours; rw [out0 ha, if_pos rfl, f_X0_stand_eq hy (by omega) (by omega)]; rfl, by unfold f_X7_hours; rw [in1 ha, if_neg ne10, e1, Option.bind_some, e4, Option.bind_some, e6]; rfl, e7.1.symm, ?_⟩
    exact mkRel h1 h2 ⟨hy, hp⟩ ⟨addH_VC (iterH_VC hy hc q), e7⟩ (relI_of h5 e8) h6 h7 h8 h9 h10 h11
  · refine ⟨_, _, by unfold f_X6_hours; rw [out1 ha, if_neg ne10], by unfold f_X7_hours; rw [in0 ha, if_pos rfl], rfl, ?_⟩
    exact mkRel h1 h2 ⟨hy, hp⟩ ⟨hc, ht⟩ h5 h6 h7 h8 h9 h10 h11
set_option maxHeartbeats 4000000 in
theorem op_night {N : Nat} (hN : 400 < N) {u : CX} {w : CM} (hR : Rel u w) (a1 : Int32) : ∃ (rx : Int32 × K0) (rm : Int32 × (Nat → Int32) × (Nat → Int32)), f_X6_night N u.1 u.2.2.2.1 u.2.2.2.2.1 u.2.2.2.2.2.2.2.2.2.2.2.2.2.2.2.2.2.2.2.2.2.1 a1 = some rx ∧ f_X7_night N w.1 w.2.2.1 w.2.2.2.1 w.2.2.2.2.1 w.2.2.2.2.2.1 a1 = some rm ∧ rx.1 = rm.1 ∧ Rel (u.1, u.2.1, u.2.2.1, u.2.2.2.1, u.2.2.2.2.1, u.2.2.2.2.2.1, u.2.2.2.2.2.2.1, u.2.2.2.2.2.2.2.1, u.2.2.2.2.2.2.2.2.1, u.2.2.2.2.2.2.2.2.2.1, u.2.2.2.2.2.2.2.2.2.2.1, u.2.2.2.2.2.2.2.2.2.2.2.1, u.2.2.2.2.2.2.2.2.2.2.2.2.1, u.2.2.2.2.2.2.2.2.2.2.2.2.2.1, u.2.2.2.2.2.2.2.2.2.2.2.2.2.2.1, u.2.2.2.2.2.2.2.2.2.2.2.2.2.2.2.1, u.2.2.2.2.2.2.2.2.2.2.2.2.2.2.2.2.1, u.2.2.2.2.2.2.2.2.2.2.2.2.2.2.2.2.2.1, u.2.2.2.2.2.2.2.2.2.2.2.2.2.2.2.2.2.2.1, u.2.2.2.2.2.2.2.2.2.2.2.2.2.2.2.2.2.2.2.1, u.2.2.2.2.2.2.2.2.2.2.2.2.2.2.2.2.2.2.2.2.1, rx.2, u.2.2.2.2.2.2.2.2.2.2.2.2.2.2.2.2.2.2.2.2.2.2.1, u.2.2.2.2.2.2.2.2.2.2.2.2.2.2.2.2.2.2.2.2.2.2.2.1, u.2.2.2.2.2.2.2.2.2.2.2.2.2.2.2.2.2.2.2.2.2.2.2.2) (w.1, w.2.1, w.2.2.1, rm.2.1, rm.2.2, w.2.2.2.2.2.1, w.2.2.2.2.2.2.1, w.2.2.2.2.2.2.2.1, w.2.2.2.2.2.2.2.2.1, w.2.2.2.2.2.2.2.2.2.1, w.2.2.2.2.2.2.2.2.2.2.1, w.2.2.2.2.2.2.2.2.2.2.2.1, w.2.2.2.2.2.2.2.2.2.2.2.2.1, w.2.2.2.2.2.2.2.2.2.2.2.2.2.1, w.2.2.2.2.2.2.2.2.2.2.2.2.2.2.1, w.2.2.2.2.2.2.2.2.2.2.2.2.2.2.2.1, w.2.2.2.2.2.2.2.2.2.2.2.2.2.2.2.2.1, w.2.2.2.2.2.2.2.2.2.2.2.2.2.2.2.2.2.1, w.2.2.2.2.2.2.2.2.2.2.2.2.2.2.2.2.2.2) := by
  obtain ⟨h1, h2, ⟨hy, hp⟩, ⟨hc, ht⟩, h5, h6, h7, h8, h9, h10, h11⟩ := id hR
  by_cases ha : (1 : Int32).toInt ≤ a1.toInt ∧ a1.toInt ≤ (48 : Int32).toInt
  · obtain ⟨q, hq, -, rfl⟩ := rng (n := 48) (by decide) (by decide) ha
    obtain ⟨p', t', e1, e2, e3⟩ := f_X7_takeNow_eq (N := N) w.1 (par := w.2.2.2.1) (t := w.2.2.2.2.1) (by omega) hp ht
    obtain ⟨r, e4, e5⟩ := xlp_rel (st := s_X7_night_18 w.1 (nI q) (p', t')) (fun i v => v.1 = nI i ∧ RC v.2 (addH (iterH u.2.2.2.1 i u.2.2.2.2.1) (nI i))) q (fun v => RC v.2 (addH (iterH u.2.2.2.1 q u.2.2.2.2.1) (nI q))) (n := N) (x := (0, t'))
      (fun i x hi ⟨b, d⟩ => by
        obtain ⟨t2, g1, g2⟩ := refH w.1 e2 hy hc i d
        refine Or.inl ⟨(nI (i + 1), t2), ?_, rfl, g2⟩
        unfold s_X7_night_18
        rw [b, if_neg (by rw [nle] <;> omega), g1, Option.bind_some, nI_1])
      (fun x ⟨b, d⟩ => ⟨x, by unfold s_X7_night_18; rw [b, if_pos (by rw [nle] <;> omega), ← b], d⟩) (by omega) ⟨rfl, by rw [nI_0, addH_0]; exact e3⟩
    refine ⟨_, _, by unfold f_X6_night; rw [out0 ha, if_pos rfl, Option.bind_some, f_X0_stand_eq hy (by omega) (by omega)]; rfl, by unfold f_X7_night; rw [in1 ha, if_neg ne10, e1, Option.bind_some, e4]; rfl, ?_, ?_⟩
    · exact e5.1.symm
    · exact mkRel h1 h2 ⟨hy, hp⟩ ⟨hc, ht⟩ h5 h6 h7 h8 h9 h10 h11
  · refine ⟨_, _, by unfold f_X6_night; rw [out1 ha, if_neg ne10], by unfold f_X7_night; rw [in0 ha, if_pos rfl], rfl, ?_⟩
    exact mkRel h1 h2 ⟨hy, hp⟩ ⟨hc, ht⟩ h5 h6 h7 h8 h9 h10 h11
set_option maxHeartbeats 4000000 in
theorem op_now {N : Nat} (hN : 400 < N) {u : CX} {w : CM} (hR : Rel u w) (a1 : Int32) : ∃ (rx : Int32) (rm : Int32 × (Nat → Int32) × (Nat → Int32)), f_X6_now u.1 u.2.2.2.1 u.2.2.2.2.1 a1 = some rx ∧ f_X7_now N w.1 w.2.2.1 w.2.2.2.1 w.2.2.2.2.1 w.2.2.2.2.2.1 a1 = some rm ∧ rx = rm.1 ∧ Rel u (w.1, w.2.1, w.2.2.1, rm.2.1, rm.2.2, w.2.2.2.2.2.1, w.2.2.2.2.2.2.1, w.2.2.2.2.2.2.2.1, w.2.2.2.2.2.2.2.2.1, w.2.2.2.2.2.2.2.2.2.1, w.2.2.2.2.2.2.2.2.2.2.1, w.2.2.2.2.2.2.2.2.2.2.2.1, w.2.2.2.2.2.2.2.2.2.2.2.2.1, w.2.2.2.2.2.2.2.2.2.2.2.2.2.1, w.2.2.2.2.2.2.2.2.2.2.2.2.2.2.1, w.2.2.2.2.2.2.2.2.2.2.2.2.2.2.2.1, w.2.2.2.2.2.2.2.2.2.2.2.2.2.2.2.2.1, w.2.2.2.2.2.2.2.2.2.2.2.2.2.2.2.2.2.1, w.2.2.2.2.2.2.2.2.2.2.2.2.2.2.2.2.2.2) := by
  obtain ⟨h1, h2, ⟨hy, hp⟩, ⟨hc, ht⟩, h5, h6, h7, h8, h9, h10, h11⟩ := id hR
  by_cases ha : (0 : Int32).toInt ≤ a1.toInt ∧ a1.toInt ≤ (9 : Int32).toInt
  · obtain ⟨q, hq, -, rfl⟩ := rng (n := 9) (by decide) (by decide) ha
    obtain ⟨p', t', e1, e2, e3⟩ := f_X7_takeNow_eq (N := N) w.1 (par := w.2.2.2.1) (t := w.2.2.2.2.1) (by omega) hp ht
    have fin : ∀ (r : Int32), f_X6_now u.1 u.2.2.2.1 u.2.2.2.2.1 (nI q) = some r → f_X7_now N w.1 w.2.2.1 w.2.2.2.1 w.2.2.2.2.1 w.2.2.2.2.2.1 (nI q) = some (r, p', t') → ∃ (rx : Int32) (rm : Int32 × (Nat → Int32) × (Nat → Int32)), f_X6_now u.1 u.2.2.2.1 u.2.2.2.2.1 (nI q) = some rx ∧ f_X7_now N w.1 w.2.2.1 w.2.2.2.1 w.2.2.2.2.1 w.2.2.2.2.2.1 (nI q) = some rm ∧ rx = rm.1 ∧ Rel u (w.1, w.2.1, w.2.2.1, rm.2.1, rm.2.2, w.2.2.2.2.2.1, w.2.2.2.2.2.2.1, w.2.2.2.2.2.2.2.1, w.2.2.2.2.2.2.2.2.1, w.2.2.2.2.2.2.2.2.2.1, w.2.2.2.2.2.2.2.2.2.2.1, w.2.2.2.2.2.2.2.2.2.2.2.1, w.2.2.2.2.2.2.2.2.2.2.2.2.1, w.2.2.2.2.2.2.2.2.2.2.2.2.2.1, w.2.2.2.2.2.2.2.2.2.2.2.2.2.2.1, w.2.2.2.2.2.2.2.2.2.2.2.2.2.2.2.1, w.2.2.2.2.2.2.2.2.2.2.2.2.2.2.2.2.1, w.2.2.2.2.2.2.2.2.2.2.2.2.2.2.2.2.2.1, w.2.2.2.2.2.2.2.2.2.2.2.2.2.2.2.2.2.2) :=
      fun r g1 g2 => ⟨r, (r, p', t'), g1, g2, rfl, mkRel h1 h2 ⟨hy, hp⟩ ⟨hc, ht⟩ h5 h6 h7 h8 h9 h10 h11⟩
    have low : q < 7 → f_X7_now N w.1 w.2.2.1 w.2.2.2.1 w.2.2.2.2.1 w.2.2.2.2.2.1 (nI q) = some (w.2.2.2.2.2.1 q, p', t') := fun hq7 => by
      unfold f_X7_now
      rw [in1 ha, if_neg ne10, e1, Option.bind_some, if_neg (by rw [nlit, nle] <;> omega), if_pos (xin_n (by omega) (by omega)), nI_clamp (by omega)]
    obtain ⟨g0, g1, g2, g3, g4, g5, g6⟩ := ht
    rcases (show q = 0 ∨ q = 1 ∨ q = 2 ∨ q = 3 ∨ q = 4 ∨ q = 5 ∨ q = 6 ∨ q = 7 ∨ q = 8 ∨ q = 9 by omega) with rfl | rfl | rfl | rfl | rfl | rfl | rfl | rfl | rfl | rfl
    · exact fin u.2.2.2.2.1.1 rfl (by rw [low (by omega), g0])
    · exact fin u.2.2.2.2.1.2.1 rfl (by rw [low (by omega), g1])
    · exact fin u.2.2.2.2.1.2.2.1 rfl (by rw [low (by omega), g2])
    · exact fin u.2.2.2.2.1.2.2.2.1 rfl (by rw [low (by omega), g3])
    · exact fin u.2.2.2.2.1.2.2.2.2.1 rfl (by rw [low (by omega), g4])
    · exact fin u.2.2.2.2.1.2.2.2.2.2.1 rfl (by rw [low (by omega), g5])
    · exact fin u.2.2.2.2.1.2.2.2.2.2.2 rfl (by rw [low (by omega), g6])
    · refine fin (dep u.2.2.2.1 u.2.2.2.2.1.2.2.1) ?_ ?_
      · show (f_X4_depth u.2.2.2.1 u.2.2.2.2.1.2.2.1).bind _ = _
        rw [f_X4_depth_eq hy]; rfl
      · unfold f_X7_now
        rw [in1 ha, if_neg ne10, e1, Option.bind_some, if_pos (by decide), if_pos (by decide), f_X7_depth_eq w.1 e2 hy]
        show (some (dep u.2.2.2.1 (t' 2))).bind _ = _
        rw [e3.2.2.1]; rfl
    · refine fin (f_X4_lift u.2.2.2.1) rfl ?_
      unfold f_X7_now
      rw [in1 ha, if_neg ne10, e1, Option.bind_some, if_pos (by decide), if_neg (by decide), if_pos (by decide), f_X7_lift_eq w.1 e2]
    · refine fin (gnS u.2.2.2.1 u.2.2.2.2.1) ?_ ?_
      · show (f_X4_depth u.2.2.2.1 u.2.2.2.2.1.2.2.1).bind _ = _
        rw [f_X4_depth_eq hy]; rfl
      · unfold f_X7_now
        rw [in1 ha, if_neg ne10, e1, Option.bind_some, if_pos (by decide), if_neg (by decide), if_neg (by decide), f_X7_gain_eq w.1 e2 hy e3 hc]; rfl
  · refine ⟨-1, _, ?_, by unfold f_X7_now; rw [in0 ha, if_pos rfl], ?_, ?_⟩
    · unfold f_X6_now
      have hz : ∀ q : Nat, q ≤ 9 → ¬ a1 = nI q := fun q hq e => ha (by rw [e, nI_toInt (by omega)]; exact ⟨by rw [z0]; omega, by rw [show (9 : Int32).toInt = 9 from by decide]; omega⟩)
      rw [if_neg (show ¬ a1 = 0 from hz 0 (by omega)), if_neg (show ¬ a1 = 1 from hz 1 (by omega)), if_neg (show ¬ a1 = 2 from hz 2 (by omega)), if_neg (show ¬ a1 = 3 from hz 3 (by omega)), if_neg (show ¬ a1 = 4 from hz 4 (by omega)), if_neg (show ¬ a1 = 5 from hz 5 (by omega)), if_neg (show ¬ a1 = 6 from hz 6 (by omega)), if_neg (show ¬ a1 = 7 from hz 7 (by omega)), if_neg (show ¬ a1 = 8 from hz 8 (by omega)), if_neg (show ¬ a1 = 9 from hz 9 (by omega))]
    · rfl
    · exact mkRel h1 h2 ⟨hy, hp⟩ ⟨hc, ht⟩ h5 h6 h7 h8 h9 h10 h11
set_option maxHeartbeats 4000000 in
theorem op_until {N : Nat} (hN : 400 < N) {u : CX} {w : CM} (hR : Rel u w) : ∃ (rx : Int32) (rm : Int32 × (Nat → Int32) × (Nat → Int32)), f_X6_until u.1 u.2.2.2.1 u.2.2.2.2.1 = some rx ∧ f_X7_until N w.1 w.2.2.1 w.2.2.2.1 w.2.2.2.2.1 w.2.2.2.2.2.1 = some rm ∧ rx = rm.1 ∧ Rel u (w.1, w.2.1, w.2.2.1, rm.2.1, rm.2.2, w.2.2.2.2.2.1, w.2.2.2.2.2.2.1, w.2.2.2.2.2.2.2.1, w.2.2.2.2.2.2.2.2.1, w.2.2.2.2.2.2.2.2.2.1, w.2.2.2.2.2.2.2.2.2.2.1, w.2.2.2.2.2.2.2.2.2.2.2.1, w.2.2.2.2.2.2.2.2.2.2.2.2.1, w.2.2.2.2.2.2.2.2.2.2.2.2.2.1, w.2.2.2.2.2.2.2.2.2.2.2.2.2.2.1, w.2.2.2.2.2.2.2.2.2.2.2.2.2.2.2.1, w.2.2.2.2.2.2.2.2.2.2.2.2.2.2.2.2.1, w.2.2.2.2.2.2.2.2.2.2.2.2.2.2.2.2.2.1, w.2.2.2.2.2.2.2.2.2.2.2.2.2.2.2.2.2.2) := by
  obtain ⟨h1, h2, ⟨hy, hp⟩, ⟨hc, ht⟩, h5, h6, h7, h8, h9, h10, h11⟩ := id hR
  obtain ⟨p', t', e1, e2, e3⟩ := f_X7_takeNow_eq (N := N) w.1 (par := w.2.2.2.1) (t := w.2.2.2.2.1) (by omega) hp ht
  obtain ⟨t2, e4⟩ := f_X7_strokesUntil_eq w.1 (N := N) (by omega) e2 hy e3 hc
  refine ⟨_, _, by unfold f_X6_until; rw [f_X0_pullsToWater_eq hy]; rfl, by unfold f_X7_until; rw [e1, Option.bind_some, e4]; rfl, ?_, ?_⟩
  · rfl
  · exact mkRel h1 h2 ⟨hy, hp⟩ ⟨hc, ht⟩ h5 h6 h7 h8 h9 h10 h11
set_option maxHeartbeats 4000000 in
theorem op_anew {N : Nat} (hN : 400 < N) {u : CX} {w : CM} (hR : Rel u w) : ∃ (rx : Int32 × K0) (rm : Int32 × (Nat → Int32) × (Nat → Int32) × (Nat → Int32)), f_X6_anew u.1 u.2.2.2.1 u.2.2.2.2.1 = some rx ∧ f_X7_anew N w.1 w.2.2.1 w.2.2.2.1 w.2.2.2.2.1 w.2.2.2.2.2.1 = some rm ∧ rx.1 = rm.1 ∧ Rel (u.1, u.2.1, u.2.2.1, u.2.2.2.1, rx.2, u.2.2.2.2.2.1, u.2.2.2.2.2.2.1, u.2.2.2.2.2.2.2.1, u.2.2.2.2.2.2.2.2.1, u.2.2.2.2.2.2.2.2.2.1, u.2.2.2.2.2.2.2.2.2.2.1, u.2.2.2.2.2.2.2.2.2.2.2.1, u.2.2.2.2.2.2.2.2.2.2.2.2.1, u.2.2.2.2.2.2.2.2.2.2.2.2.2.1, u.2.2.2.2.2.2.2.2.2.2.2.2.2.2.1, u.2.2.2.2.2.2.2.2.2.2.2.2.2.2.2.1, u.2.2.2.2.2.2.2.2.2.2.2.2.2.2.2.2.1, u.2.2.2.2.2.2.2.2.2.2.2.2.2.2.2.2.2.1, u.2.2.2.2.2.2.2.2.2.2.2.2.2.2.2.2.2.2.1, u.2.2.2.2.2.2.2.2.2.2.2.2.2.2.2.2.2.2.2.1, u.2.2.2.2.2.2.2.2.2.2.2.2.2.2.2.2.2.2.2.2.1, u.2.2.2.2.2.2.2.2.2.2.2.2.2.2.2.2.2.2.2.2.2.1, u.2.2.2.2.2.2.2.2.2.2.2.2.2.2.2.2.2.2.2.2.2.2.1, u.2.2.2.2.2.2.2.2.2.2.2.2.2.2.2.2.2.2.2.2.2.2.2.1, u.2.2.2.2.2.2.2.2.2.2.2.2.2.2.2.2.2.2.2.2.2.2.2.2) (w.1, w.2.1, w.2.2.1, rm.2.1, rm.2.2.1, rm.2.2.2, w.2.2.2.2.2.2.1, w.2.2.2.2.2.2.2.1, w.2.2.2.2.2.2.2.2.1, w.2.2.2.2.2.2.2.2.2.1, w.2.2.2.2.2.2.2.2.2.2.1, w.2.2.2.2.2.2.2.2.2.2.2.1, w.2.2.2.2.2.2.2.2.2.2.2.2.1, w.2.2.2.2.2.2.2.2.2.2.2.2.2.1, w.2.2.2.2.2.2.2.2.2.2.2.2.2.2.1, w.2.2.2.2.2.2.2.2.2.2.2.2.2.2.2.1, w.2.2.2.2.2.2.2.2.2.2.2.2.2.2.2.2.1, w.2.2.2.2.2.2.2.2.2.2.2.2.2.2.2.2.2.1, w.2.2.2.2.2.2.2.2.2.2.2.2.2.2.2.2.2.2) := by
  obtain ⟨h1, h2, ⟨hy, hp⟩, ⟨hc, ht⟩, h5, h6, h7, h8, h9, h10, h11⟩ := id hR
  obtain ⟨p', e1, e2⟩ := f_X7_takeTold_eq (N := N) w.1 (par := w.2.2.2.1) (by omega) hp
  obtain ⟨t', e3, e4⟩ := f_X7_begin_eq (N := N) w.1 w.2.2.2.2.1 (10 * p' 2) (p' 8) (by omega)
  obtain ⟨n', e6, e7, e8⟩ := f_X7_giveNow_eq (N := N) w.1 (nows := w.2.2.2.2.2.1) (by omega) e4
  obtain ⟨g1, g2⟩ := startEmpty_eq hy u.2.2.2.2.1
  refine ⟨_, _, by unfold f_X6_anew; rw [g1]; rfl, by unfold f_X7_anew; rw [e1, Option.bind_some, e3, Option.bind_some, e6]; rfl, ht.2.2.2.1.symm, ?_⟩
  refine mkRel h1 h2 ⟨hy, hp⟩ ⟨g2, ?_⟩ (relI_of h5 e8) h6 h7 h8 h9 h10 h11
  rw [e2.2.2.1, e2.2.2.2.2.2.2.2.2.1, ← dep_0 hy] at e7
  exact e7
set_option maxHeartbeats 4000000 in
theorem op_least {N : Nat} (hN : 400 < N) {u : CX} {w : CM} (hR : Rel u w) (a1 : Int32) : ∃ (rx : Int32 × K0) (rm : Int32 × (Nat → Int32) × (Nat → Int32)), f_X6_least N u.1 u.2.2.2.1 u.2.2.2.2.1 u.2.2.2.2.2.2.2.2.2.2.2.2.2.2.2.2.2.2.2.2.2.1 a1 = some rx ∧ f_X7_least N w.1 w.2.2.1 w.2.2.2.1 w.2.2.2.2.1 w.2.2.2.2.2.1 a1 = some rm ∧ rx.1 = rm.1 ∧ Rel (u.1, u.2.1, u.2.2.1, u.2.2.2.1, u.2.2.2.2.1, u.2.2.2.2.2.1, u.2.2.2.2.2.2.1, u.2.2.2.2.2.2.2.1, u.2.2.2.2.2.2.2.2.1, u.2.2.2.2.2.2.2.2.2.1, u.2.2.2.2.2.2.2.2.2.2.1, u.2.2.2.2.2.2.2.2.2.2.2.1, u.2.2.2.2.2.2.2.2.2.2.2.2.1, u.2.2.2.2.2.2.2.2.2.2.2.2.2.1, u.2.2.2.2.2.2.2.2.2.2.2.2.2.2.1, u.2.2.2.2.2.2.2.2.2.2.2.2.2.2.2.1, u.2.2.2.2.2.2.2.2.2.2.2.2.2.2.2.2.1, u.2.2.2.2.2.2.2.2.2.2.2.2.2.2.2.2.2.1, u.2.2.2.2.2.2.2.2.2.2.2.2.2.2.2.2.2.2.1, u.2.2.2.2.2.2.2.2.2.2.2.2.2.2.2.2.2.2.2.1, u.2.2.2.2.2.2.2.2.2.2.2.2.2.2.2.2.2.2.2.2.1, rx.2, u.2.2.2.2.2.2.2.2.2.2.2.2.2.2.2.2.2.2.2.2.2.2.1, u.2.2.2.2.2.2.2.2.2.2.2.2.2.2.2.2.2.2.2.2.2.2.2.1, u.2.2.2.2.2.2.2.2.2.2.2.2.2.2.2.2.2.2.2.2.2.2.2.2) (w.1, w.2.1, w.2.2.1, rm.2.1, rm.2.2, w.2.2.2.2.2.1, w.2.2.2.2.2.2.1, w.2.2.2.2.2.2.2.1, w.2.2.2.2.2.2.2.2.1, w.2.2.2.2.2.2.2.2.2.1, w.2.2.2.2.2.2.2.2.2.2.1, w.2.2.2.2.2.2.2.2.2.2.2.1, w.2.2.2.2.2.2.2.2.2.2.2.2.1, w.2.2.2.2.2.2.2.2.2.2.2.2.2.1, w.2.2.2.2.2.2.2.2.2.2.2.2.2.2.1, w.2.2.2.2.2.2.2.2.2.2.2.2.2.2.2.1, w.2.2.2.2.2.2.2.2.2.2.2.2.2.2.2.2.1, w.2.2.2.2.2.2.2.2.2.2.2.2.2.2.2.2.2.1, w.2.2.2.2.2.2.2.2.2.2.2.2.2.2.2.2.2.2) := by
  obtain ⟨h1, h2, ⟨hy, hp⟩, ⟨hc, ht⟩, h5, h6, h7, h8, h9, h10, h11⟩ := id hR
  by_cases ha : (1 : Int32).toInt ≤ a1.toInt ∧ a1.toInt ≤ (200 : Int32).toInt
  · obtain ⟨q, hq, hq1, rfl⟩ := rng (n := 200) (by decide) (by decide) ha
    have key : ∀ i : Nat, i ≤ 99 → ∀ (par t : Nat → Int32) (sh : K0), (∃ p' t' : Nat → Int32, f_X7_takeNow N w.1 w.2.2.1 par t w.2.2.2.2.2.1 = some (p', t') ∧ ∃ t2, f_X7_pour w.1 t' (nI i) = some ((f_X0_pour u.2.2.2.2.1 (nI i)).1, t2) ∧ ∃ t3, f_X7_strokesUntil N w.1 p' t2 = some ((if untilS u.2.2.2.1 (f_X0_pour u.2.2.2.2.1 (nI i)).2 = 0 then -9 else untilS u.2.2.2.1 (f_X0_pour u.2.2.2.2.1 (nI i)).2), t3)) := by
      intro i hi par t sh
      obtain ⟨p', t', e1, e2, e3⟩ := f_X7_takeNow_eq (N := N) w.1 (par := par) (t := t) (by omega) hp ht
      have zi : (nI i).toInt = i := nI_toInt (by omega)
      obtain ⟨t2, e4, e5⟩ := f_X7_pour_eq (n := nI i) w.1 e3 hc (by omega) (by omega)
      obtain ⟨t3, e6⟩ := f_X7_strokesUntil_eq w.1 (N := N) (by omega) e2 hy e5 (pour_VC hc (by omega) (by omega))
      exact ⟨p', t', e1, t2, e4, t3, e6⟩
    have good : ∀ i : Nat, i ≤ 99 → 0 ≤ (untilS u.2.2.2.1 (f_X0_pour u.2.2.2.2.1 (nI i)).2).toInt := fun i hi => (untilS_pos hy (pour_VC hc (by rw [nI_toInt (by omega)]; omega) (by rw [nI_toInt (by omega)]; omega))).1
    obtain ⟨rr, hrr⟩ : ∃ rr : Int32 × K0 × (Nat → Int32) × (Nat → Int32), f_X6_least N u.1 u.2.2.2.1 u.2.2.2.2.1 u.2.2.2.2.2.2.2.2.2.2.2.2.2.2.2.2.2.2.2.2.2.1 (nI q) = some (rr.1, rr.2.1) ∧ f_X7_least N w.1 w.2.2.1 w.2.2.2.1 w.2.2.2.2.1 w.2.2.2.2.2.1 (nI q) = some (rr.1, rr.2.2) := by
      have both : ∀ (n i : Nat) (sh : K0) (par t : Nat → Int32), i ≤ 100 → 100 - i < n → ∃ rr : Int32 × K0 × (Nat → Int32) × (Nat → Int32), xlp (s_X6_least_15 u.2.2.2.1 u.2.2.2.2.1 (nI q)) n (nI i, sh) = some (rr.1, rr.2.1) ∧ xlp (s_X7_least_15 N w.1 w.2.2.1 w.2.2.2.2.2.1 (nI q)) n (nI i, par, t) = some (rr.1, rr.2.2) := by
        intro n
        induction n with
        | zero => intro i sh par t _ h; omega
        | succ n ih =>
          intro i sh par t hi hn
          by_cases hi2 : i = 100
          · subst hi2
            exact ⟨(-9, sh, par, t), rfl, rfl⟩
          · obtain ⟨p', t', e1, t2, e4, t3, e6⟩ := key i (by omega) par t sh
            have hg := good i (by omega)
            have sx : ∀ r : (Int32 × K0) ⊕ (Int32 × K0), (if untilS u.2.2.2.1 (f_X0_pour u.2.2.2.2.1 (nI i)).2 ≤ 0 then some (.inl (nI i + 1, (f_X0_pour u.2.2.2.2.1 (nI i)).2)) else if nI q < untilS u.2.2.2.1 (f_X0_pour u.2.2.2.2.1 (nI i)).2 then some (.inl (nI i + 1, (f_X0_pour u.2.2.2.2.1 (nI i)).2)) else some (.inr (nI i, (f_X0_pour u.2.2.2.2.1 (nI i)).2)) : Option ((Int32 × K0) ⊕ (Int32 × K0))) = some r → s_X6_least_15 u.2.2.2.1 u.2.2.2.2.1 (nI q) (nI i, sh) = some r := by
              intro r hr
              unfold s_X6_least_15
              rw [if_neg (by show ¬ (99 : Int32) < nI i; rw [nlit, nlt] <;> omega), Option.bind_some, Option.bind_some]
              show (f_X0_pullsToWater (f_X0_pour u.2.2.2.2.1 (nI i)).2 u.2.2.2.1).bind _ = _
              rw [f_X0_pullsToWater_eq hy]
              exact hr
            have sm : ∀ r, (if (if untilS u.2.2.2.1 (f_X0_pour u.2.2.2.2.1 (nI i)).2 = 0 then -9 else untilS u.2.2.2.1 (f_X0_pour u.2.2.2.2.1 (nI i)).2) = (-9 : Int32) then some (.inl (nI i + 1, p', t3)) else if nI q < (if untilS u.2.2.2.1 (f_X0_pour u.2.2.2.2.1 (nI i)).2 = 0 then -9 else untilS u.2.2.2.1 (f_X0_pour u.2.2.2.2.1 (nI i)).2) then some (.inl (nI i + 1, p', t3)) else some (.inr (nI i, p', t3)) : Option ((Int32 × (Nat → Int32) × (Nat → Int32)) ⊕ (Int32 × (Nat → Int32) × (Nat → Int32)))) = some r → s_X7_least_15 N w.1 w.2.2.1 w.2.2.2.2.2.1 (nI q) (nI i, par, t) = some r := by
              intro r hr
              unfold s_X7_least_15
              rw [if_neg (by show ¬ (100 : Int32) ≤ nI i; rw [nlit, nle] <;> omega)]
              show (f_X7_takeNow N w.1 w.2.2.1 par t w.2.2.2.2.2.1).bind _ = _
              rw [e1, Option.bind_some, e4, Option.bind_some, e6]
              exact hr
            by_cases k0 : untilS u.2.2.2.1 (f_X0_pour u.2.2.2.2.1 (nI i)).2 = 0
            · obtain ⟨rr, r1, r2⟩ := ih (i + 1) (f_X0_pour u.2.2.2.2.1 (nI i)).2 p' t3 (by omega) (by omega)
              refine ⟨rr, ?_, ?_⟩
              · rw [xlp, sx (.inl (nI (i + 1), (f_X0_pour u.2.2.2.2.1 (nI i)).2)) (by rw [k0, if_pos (by decide), nI_1])]; exact r1
              · rw [xlp, sm (.inl (nI (i + 1), p', t3)) (by rw [if_pos k0, if_pos rfl, nI_1])]; exact r2
            · have k1 : ¬ untilS u.2.2.2.1 (f_X0_pour u.2.2.2.2.1 (nI i)).2 ≤ 0 := by
                intro h; rw [zle, z0] at h; exact k0 (by rw [zeq, z0]; omega)
              have k2 : ¬ untilS u.2.2.2.1 (f_X0_pour u.2.2.2.2.1 (nI i)).2 = -9 := by
                intro h; rw [h] at hg; exact absurd hg (by decide)
              by_cases k3 : nI q < untilS u.2.2.2.1 (f_X0_pour u.2.2.2.2.1 (nI i)).2
              · obtain ⟨rr, r1, r2⟩ := ih (i + 1) (f_X0_pour u.2.2.2.2.1 (nI i)).2 p' t3 (by omega) (by omega)
                refine ⟨rr, ?_, ?_⟩
                · rw [xlp, sx (.inl (nI (i + 1), (f_X0_pour u.2.2.2.2.1 (nI i)).2)) (by rw [if_neg k1, if_pos k3, nI_1])]; exact r1
                · rw [xlp, sm (.inl (nI (i + 1), p', t3)) (by rw [if_neg k0, if_neg k2, if_pos k3, nI_1])]; exact r2
              · refine ⟨(nI i, (f_X0_pour u.2.2.2.2.1 (nI i)).2, p', t3), ?_, ?_⟩
                · rw [xlp, sx _ (by rw [if_neg k1, if_neg k3])]; rfl
                · rw [xlp, sm _ (by rw [if_neg k0, if_neg k2, if_neg k3])]; rfl
      obtain ⟨rr, r1, r2⟩ := both N 0 u.2.2.2.2.2.2.2.2.2.2.2.2.2.2.2.2.2.2.2.2.2.1 w.2.2.2.1 w.2.2.2.2.1 (by omega) (by omega)
      exact ⟨rr, by unfold f_X6_least; rw [out0 ha, if_pos rfl]; exact r1, by unfold f_X7_least; rw [in1 ha, if_neg ne10]; exact r2⟩
    exact ⟨_, _, hrr.1, hrr.2, rfl, mkRel h1 h2 ⟨hy, hp⟩ ⟨hc, ht⟩ h5 h6 h7 h8 h9 h10 h11⟩
  · exact ⟨_, _, by unfold f_X6_least; rw [out1 ha, if_neg ne10], by unfold f_X7_least; rw [in0 ha, if_pos rfl], rfl, mkRel h1 h2 ⟨hy, hp⟩ ⟨hc, ht⟩ h5 h6 h7 h8 h9 h10 h11⟩
