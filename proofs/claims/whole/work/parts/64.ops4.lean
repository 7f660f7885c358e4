/-! the steps, one by one -/
theorem copy_eq (o : K7) (nows : Nat → Int32) {N a b : Nat} (hN : 400 < N) (ha : a ≤ 2) (hb : b ≤ 2) (hab : a ≠ b) : ∃ n', f_X7_copy N o nows (nI a) (nI b) = some n' ∧ (∀ j, j < 7 → n' (7 * b + j) = nows (7 * a + j)) ∧ ∀ j, (j < 7 * b ∨ 7 * b + 7 ≤ j) → n' j = nows j := by
  obtain ⟨t, e1, e2⟩ := xlp_rel (st := s_X7_copy_2 (nI a) (nI b)) (fun i v => v.1 = nI i ∧ (∀ j, j < i → v.2 (7 * b + j) = nows (7 * a + j)) ∧ ∀ j, (j < 7 * b ∨ 7 * b + i ≤ j) → v.2 j = nows j) 7 (fun v => (∀ j, j < 7 → v.2 (7 * b + j) = nows (7 * a + j)) ∧ ∀ j, (j < 7 * b ∨ 7 * b + 7 ≤ j) → v.2 j = nows j) (n := N) (x := (0, nows))
    (fun i x hi ⟨a1, a2, a3⟩ => by
      have ea : (7 : Int32) * nI a + nI i = nI (7 * a + i) := by rw [nlit 7, pk_mul, nI_add]
      have eb : (7 : Int32) * nI b + nI i = nI (7 * b + i) := by rw [nlit 7, pk_mul, nI_add]
      refine Or.inl ⟨(nI (i + 1), upd x.2 (7 * b + i) (x.2 (7 * a + i))), ?_, rfl, fun j hj => ?_, fun j hj => ?_⟩
      · unfold s_X7_copy_2
        rw [a1, if_neg (by rw [nlit, nle] <;> omega), ea, eb, if_pos (xin_n (by omega) (by omega)), if_pos (xin_n (by omega) (by omega)), nI_clamp (by omega), nI_clamp (by omega), nI_1]
      · show upd x.2 (7 * b + i) (x.2 (7 * a + i)) (7 * b + j) = _
        unfold upd
        by_cases e : 7 * b + j = 7 * b + i
        · rw [if_pos e]
          have e' : j = i := by omega
          rw [e']
          exact a3 (7 * a + i) (by omega)
        · rw [if_neg e]; exact a2 j (by omega)
      · show upd x.2 (7 * b + i) (x.2 (7 * a + i)) j = _
        unfold upd
        rw [if_neg (by omega)]
        exact a3 j (by omega))
    (fun x ⟨a1, a2, a3⟩ => ⟨x, by unfold s_X7_copy_2; rw [a1, if_pos (by rw [nlit, nle] <;> omega), ← a1], a2, a3⟩) (by omega) ⟨rfl, fun j hj => by omega, fun j _ => rfl⟩
  exact ⟨t.2, by unfold f_X7_copy; rw [e1]; rfl, e2⟩
theorem beLike_eq (a b : K0) : f_X0_beLike a b = b := rfl
set_option maxHeartbeats 4000000 in
theorem op_keep {N : Nat} (hN : 400 < N) {u : CX} {w : CM} (hR : Rel u w) (a1 : Int32) : ∃ (rx : Int32 × K0 × K0 × (Nat → Int32)) (rm : Int32 × (Nat → Int32) × (Nat → Int32)), f_X6_keep u.1 u.2.2.2.2.1 u.2.2.2.2.2.1 u.2.2.2.2.2.2.1 u.2.2.2.2.2.2.2.1 a1 = some rx ∧ f_X7_keep N w.1 w.2.2.2.2.2.1 w.2.2.2.2.2.2.1 a1 = some rm ∧ rx.1 = rm.1 ∧ Rel (u.1, u.2.1, u.2.2.1, u.2.2.2.1, u.2.2.2.2.1, rx.2.1, rx.2.2.1, rx.2.2.2, u.2.2.2.2.2.2.2.2.1, u.2.2.2.2.2.2.2.2.2.1, u.2.2.2.2.2.2.2.2.2.2.1, u.2.2.2.2.2.2.2.2.2.2.2.1, u.2.2.2.2.2.2.2.2.2.2.2.2.1, u.2.2.2.2.2.2.2.2.2.2.2.2.2.1, u.2.2.2.2.2.2.2.2.2.2.2.2.2.2.1, u.2.2.2.2.2.2.2.2.2.2.2.2.2.2.2.1, u.2.2.2.2.2.2.2.2.2.2.2.2.2.2.2.2.1, u.2.2.2.2.2.2.2.2.2.2.2.2.2.2.2.2.2.1, u.2.2.2.2.2.2.2.2.2.2.2.2.2.2.2.2.2.2.1, u.2.2.2.2.2.2.2.2.2.2.2.2.2.2.2.2.2.2.2.1, u.2.2.2.2.2.2.2.2.2.2.2.2.2.2.2.2.2.2.2.2.1, u.2.2.2.2.2.2.2.2.2.2.2.2.2.2.2.2.2.2.2.2.2.1, u.2.2.2.2.2.2.2.2.2.2.2.2.2.2.2.2.2.2.2.2.2.2.1, u.2.2.2.2.2.2.2.2.2.2.2.2.2.2.2.2.2.2.2.2.2.2.2.1, u.2.2.2.2.2.2.2.2.2.2.2.2.2.2.2.2.2.2.2.2.2.2.2.2) (w.1, w.2.1, w.2.2.1, w.2.2.2.1, w.2.2.2.2.1, rm.2.1, rm.2.2, w.2.2.2.2.2.2.2.1, w.2.2.2.2.2.2.2.2.1, w.2.2.2.2.2.2.2.2.2.1, w.2.2.2.2.2.2.2.2.2.2.1, w.2.2.2.2.2.2.2.2.2.2.2.1, w.2.2.2.2.2.2.2.2.2.2.2.2.1, w.2.2.2.2.2.2.2.2.2.2.2.2.2.1, w.2.2.2.2.2.2.2.2.2.2.2.2.2.2.1, w.2.2.2.2.2.2.2.2.2.2.2.2.2.2.2.1, w.2.2.2.2.2.2.2.2.2.2.2.2.2.2.2.2.1, w.2.2.2.2.2.2.2.2.2.2.2.2.2.2.2.2.2.1, w.2.2.2.2.2.2.2.2.2.2.2.2.2.2.2.2.2.2) := by
  obtain ⟨h1, h2, ⟨hy, hp⟩, ⟨hc, ht⟩, ⟨i1, i2, i3, i4⟩, ⟨k1, k2⟩, h7, h8, h9, h10, h11⟩ := id hR
  by_cases ha : (0 : Int32).toInt ≤ a1.toInt ∧ a1.toInt ≤ (1 : Int32).toInt
  · obtain ⟨q, hq, -, rfl⟩ := rng (n := 1) (by decide) (by decide) ha
    rcases (show q = 0 ∨ q = 1 by omega) with rfl | rfl
    · obtain ⟨n', e1, e2, e3⟩ := copy_eq w.1 w.2.2.2.2.2.1 (a := 0) (b := 1) hN (by omega) (by omega) (by omega)
      refine ⟨_, _, by unfold f_X6_keep; rw [out0 ha, if_pos (by decide), if_pos (by decide), Option.bind_some, if_pos (xin_n (by omega) (by omega))], by unfold f_X7_keep; rw [in1 ha, if_neg ne10, show (1 : Int32) + nI 0 = nI 1 from rfl, show (0 : Int32) = nI 0 from rfl, e1, Option.bind_some, if_pos (xin_n (by omega) (by omega))], ?_, ?_⟩
      · show u.2.2.2.2.1.1 = n' 0
        rw [e3 0 (by omega), ht.1]
      · refine mkRel h1 h2 ⟨hy, hp⟩ ⟨hc, RC_of (fun j hj => e3 j (by omega)) ht⟩ ⟨hc, i2, RC_of (fun j hj => by have := e2 j hj; simpa using this) ht, RC_of (fun j hj => e3 (14 + j) (by omega)) i4⟩ ⟨rfl, ?_⟩ h7 h8 h9 h10 h11
        exact k2
    · obtain ⟨n', e1, e2, e3⟩ := copy_eq w.1 w.2.2.2.2.2.1 (a := 0) (b := 2) hN (by omega) (by omega) (by omega)
      refine ⟨_, _, by unfold f_X6_keep; rw [out0 ha, if_pos (by decide), if_neg (by decide), if_pos (by decide), Option.bind_some, if_pos (xin_n (by omega) (by omega))], by unfold f_X7_keep; rw [in1 ha, if_neg ne10, show (1 : Int32) + nI 1 = nI 2 from rfl, show (0 : Int32) = nI 0 from rfl, e1, Option.bind_some, if_pos (xin_n (by omega) (by omega))], ?_, ?_⟩
      · show u.2.2.2.2.1.1 = n' 0
        rw [e3 0 (by omega), ht.1]
      · refine mkRel h1 h2 ⟨hy, hp⟩ ⟨hc, RC_of (fun j hj => e3 j (by omega)) ht⟩ ⟨i1, hc, RC_of (fun j hj => e3 (7 + j) (by omega)) i3, RC_of (fun j hj => by have := e2 j hj; simpa using this) ht⟩ ⟨?_, rfl⟩ h7 h8 h9 h10 h11
        exact k1
  · refine ⟨_, _, by unfold f_X6_keep; rw [out1 ha, if_neg ne10], by unfold f_X7_keep; rw [in0 ha, if_pos (by decide)], ?_, ?_⟩
    · rfl
    · exact mkRel h1 h2 ⟨hy, hp⟩ ⟨hc, ht⟩ ⟨i1, i2, i3, i4⟩ ⟨k1, k2⟩ h7 h8 h9 h10 h11
set_option maxHeartbeats 4000000 in
theorem op_back {N : Nat} (hN : 400 < N) {u : CX} {w : CM} (hR : Rel u w) (a1 : Int32) : ∃ (rx : Int32 × K0) (rm : Int32 × (Nat → Int32)), f_X6_back u.1 u.2.2.2.2.1 u.2.2.2.2.2.1 u.2.2.2.2.2.2.1 u.2.2.2.2.2.2.2.1 a1 = some rx ∧ f_X7_back N w.1 w.2.2.2.2.2.1 w.2.2.2.2.2.2.1 a1 = some rm ∧ rx.1 = rm.1 ∧ Rel (u.1, u.2.1, u.2.2.1, u.2.2.2.1, rx.2, u.2.2.2.2.2.1, u.2.2.2.2.2.2.1, u.2.2.2.2.2.2.2.1, u.2.2.2.2.2.2.2.2.1, u.2.2.2.2.2.2.2.2.2.1, u.2.2.2.2.2.2.2.2.2.2.1, u.2.2.2.2.2.2.2.2.2.2.2.1, u.2.2.2.2.2.2.2.2.2.2.2.2.1, u.2.2.2.2.2.2.2.2.2.2.2.2.2.1, u.2.2.2.2.2.2.2.2.2.2.2.2.2.2.1, u.2.2.2.2.2.2.2.2.2.2.2.2.2.2.2.1, u.2.2.2.2.2.2.2.2.2.2.2.2.2.2.2.2.1, u.2.2.2.2.2.2.2.2.2.2.2.2.2.2.2.2.2.1, u.2.2.2.2.2.2.2.2.2.2.2.2.2.2.2.2.2.2.1, u.2.2.2.2.2.2.2.2.2.2.2.2.2.2.2.2.2.2.2.1, u.2.2.2.2.2.2.2.2.2.2.2.2.2.2.2.2.2.2.2.2.1, u.2.2.2.2.2.2.2.2.2.2.2.2.2.2.2.2.2.2.2.2.2.1, u.2.2.2.2.2.2.2.2.2.2.2.2.2.2.2.2.2.2.2.2.2.2.1, u.2.2.2.2.2.2.2.2.2.2.2.2.2.2.2.2.2.2.2.2.2.2.2.1, u.2.2.2.2.2.2.2.2.2.2.2.2.2.2.2.2.2.2.2.2.2.2.2.2) (w.1, w.2.1, w.2.2.1, w.2.2.2.1, w.2.2.2.2.1, rm.2, w.2.2.2.2.2.2.1, w.2.2.2.2.2.2.2.1, w.2.2.2.2.2.2.2.2.1, w.2.2.2.2.2.2.2.2.2.1, w.2.2.2.2.2.2.2.2.2.2.1, w.2.2.2.2.2.2.2.2.2.2.2.1, w.2.2.2.2.2.2.2.2.2.2.2.2.1, w.2.2.2.2.2.2.2.2.2.2.2.2.2.1, w.2.2.2.2.2.2.2.2.2.2.2.2.2.2.1, w.2.2.2.2.2.2.2.2.2.2.2.2.2.2.2.1, w.2.2.2.2.2.2.2.2.2.2.2.2.2.2.2.2.1, w.2.2.2.2.2.2.2.2.2.2.2.2.2.2.2.2.2.1, w.2.2.2.2.2.2.2.2.2.2.2.2.2.2.2.2.2.2) := by
  obtain ⟨h1, h2, ⟨hy, hp⟩, ⟨hc, ht⟩, ⟨i1, i2, i3, i4⟩, ⟨k1, k2⟩, h7, h8, h9, h10, h11⟩ := id hR
  by_cases ha : (0 : Int32).toInt ≤ a1.toInt ∧ a1.toInt ≤ (1 : Int32).toInt
  · obtain ⟨q, hq, -, rfl⟩ := rng (n := 1) (by decide) (by decide) ha
    have kk : u.2.2.2.2.2.2.2.1 q = w.2.2.2.2.2.2.1 q := by
      rcases (show q = 0 ∨ q = 1 by omega) with rfl | rfl
      · exact k1
      · exact k2
    by_cases kz : w.2.2.2.2.2.2.1 q = 0
    · refine ⟨_, _, by unfold f_X6_back; rw [out0 ha, if_pos (by decide), if_pos (xin_n (by omega) (by omega)), nI_clamp (by omega), kk, if_pos kz], by unfold f_X7_back; rw [in1 ha, if_neg ne10, if_pos (xin_n (by omega) (by omega)), nI_clamp (by omega), if_pos kz], ?_, ?_⟩
      · rfl
      · exact mkRel h1 h2 ⟨hy, hp⟩ ⟨hc, ht⟩ ⟨i1, i2, i3, i4⟩ ⟨k1, k2⟩ h7 h8 h9 h10 h11
    · rcases (show q = 0 ∨ q = 1 by omega) with rfl | rfl
      · obtain ⟨n', e1, e2, e3⟩ := copy_eq w.1 w.2.2.2.2.2.1 (a := 1) (b := 0) hN (by omega) (by omega) (by omega)
        have r0 : RC n' u.2.2.2.2.2.1 := RC_of (t := fun j => w.2.2.2.2.2.1 (7 + j)) (fun j hj => by have := e2 j hj; simpa using this) i3
        refine ⟨_, _, by unfold f_X6_back; rw [out0 ha, if_pos (by decide), if_pos (xin_n (by omega) (by omega)), nI_clamp (by omega), kk, if_neg kz, if_pos (by decide), Option.bind_some], by unfold f_X7_back; rw [in1 ha, if_neg ne10, if_pos (xin_n (by omega) (by omega)), nI_clamp (by omega), if_neg kz, show (1 : Int32) + nI 0 = nI 1 from rfl, show (0 : Int32) = nI 0 from rfl, e1, Option.bind_some], ?_, ?_⟩
        · exact r0.1.symm
        · exact mkRel h1 h2 ⟨hy, hp⟩ ⟨i1, r0⟩ ⟨i1, i2, RC_of (fun j hj => e3 (7 + j) (by omega)) i3, RC_of (fun j hj => e3 (14 + j) (by omega)) i4⟩ ⟨k1, k2⟩ h7 h8 h9 h10 h11
      · obtain ⟨n', e1, e2, e3⟩ := copy_eq w.1 w.2.2.2.2.2.1 (a := 2) (b := 0) hN (by omega) (by omega) (by omega)
        have r0 : RC n' u.2.2.2.2.2.2.1 := RC_of (t := fun j => w.2.2.2.2.2.1 (14 + j)) (fun j hj => by have := e2 j hj; simpa using this) i4
        refine ⟨_, _, by unfold f_X6_back; rw [out0 ha, if_pos (by decide), if_pos (xin_n (by omega) (by omega)), nI_clamp (by omega), kk, if_neg kz, if_neg (by decide), if_pos (by decide), Option.bind_some], by unfold f_X7_back; rw [in1 ha, if_neg ne10, if_pos (xin_n (by omega) (by omega)), nI_clamp (by omega), if_neg kz, show (1 : Int32) + nI 1 = nI 2 from rfl, show (0 : Int32) = nI 0 from rfl, e1, Option.bind_some], ?_, ?_⟩
        · exact r0.1.symm
        · exact mkRel h1 h2 ⟨hy, hp⟩ ⟨i2, r0⟩ ⟨i1, i2, RC_of (fun j hj => e3 (7 + j) (by omega)) i3, RC_of (fun j hj => e3 (14 + j) (by omega)) i4⟩ ⟨k1, k2⟩ h7 h8 h9 h10 h11
  · refine ⟨_, _, by unfold f_X6_back; rw [out1 ha, if_neg ne10], by unfold f_X7_back; rw [in0 ha, if_pos (by decide)], ?_, ?_⟩
    · rfl
    · exact mkRel h1 h2 ⟨hy, hp⟩ ⟨hc, ht⟩ ⟨i1, i2, i3, i4⟩ ⟨k1, k2⟩ h7 h8 h9 h10 h11
set_option maxHeartbeats 4000000 in
theorem op_mark {N : Nat} (hN : 400 < N) {u : CX} {w : CM} (hR : Rel u w) (a1 : Int32) (a2 : Int32) : ∃ (rx : Int32 × K6) (rm : Int32 × K7 × (Nat → Int32) × (Nat → Int32)), f_X6_mark u.1 u.2.2.2.1 u.2.2.2.2.1 u.2.2.2.2.2.2.2.2.2.2.2.2.1 a1 a2 = some rx ∧ f_X7_mark N w.1 w.2.2.1 w.2.2.2.1 w.2.2.2.2.1 w.2.2.2.2.2.1 w.2.2.2.2.2.2.2.2.2.2.1 a1 a2 = some rm ∧ rx.1 = rm.1 ∧ Rel (rx.2, u.2.1, u.2.2.1, u.2.2.2.1, u.2.2.2.2.1, u.2.2.2.2.2.1, u.2.2.2.2.2.2.1, u.2.2.2.2.2.2.2.1, u.2.2.2.2.2.2.2.2.1, u.2.2.2.2.2.2.2.2.2.1, u.2.2.2.2.2.2.2.2.2.2.1, u.2.2.2.2.2.2.2.2.2.2.2.1, u.2.2.2.2.2.2.2.2.2.2.2.2.1, u.2.2.2.2.2.2.2.2.2.2.2.2.2.1, u.2.2.2.2.2.2.2.2.2.2.2.2.2.2.1, u.2.2.2.2.2.2.2.2.2.2.2.2.2.2.2.1, u.2.2.2.2.2.2.2.2.2.2.2.2.2.2.2.2.1, u.2.2.2.2.2.2.2.2.2.2.2.2.2.2.2.2.2.1, u.2.2.2.2.2.2.2.2.2.2.2.2.2.2.2.2.2.2.1, u.2.2.2.2.2.2.2.2.2.2.2.2.2.2.2.2.2.2.2.1, u.2.2.2.2.2.2.2.2.2.2.2.2.2.2.2.2.2.2.2.2.1, u.2.2.2.2.2.2.2.2.2.2.2.2.2.2.2.2.2.2.2.2.2.1, u.2.2.2.2.2.2.2.2.2.2.2.2.2.2.2.2.2.2.2.2.2.2.1, u.2.2.2.2.2.2.2.2.2.2.2.2.2.2.2.2.2.2.2.2.2.2.2.1, u.2.2.2.2.2.2.2.2.2.2.2.2.2.2.2.2.2.2.2.2.2.2.2.2) (rm.2.1, w.2.1, w.2.2.1, rm.2.2.1, rm.2.2.2, w.2.2.2.2.2.1, w.2.2.2.2.2.2.1, w.2.2.2.2.2.2.2.1, w.2.2.2.2.2.2.2.2.1, w.2.2.2.2.2.2.2.2.2.1, w.2.2.2.2.2.2.2.2.2.2.1, w.2.2.2.2.2.2.2.2.2.2.2.1, w.2.2.2.2.2.2.2.2.2.2.2.2.1, w.2.2.2.2.2.2.2.2.2.2.2.2.2.1, w.2.2.2.2.2.2.2.2.2.2.2.2.2.2.1, w.2.2.2.2.2.2.2.2.2.2.2.2.2.2.2.1, w.2.2.2.2.2.2.2.2.2.2.2.2.2.2.2.2.1, w.2.2.2.2.2.2.2.2.2.2.2.2.2.2.2.2.2.1, w.2.2.2.2.2.2.2.2.2.2.2.2.2.2.2.2.2.2) := by
  obtain ⟨h1, h2, ⟨hy, hp⟩, ⟨hc, ht⟩, h5, h6, h7, h8, h9, h10, h11⟩ := id hR
  by_cases hb : (0 : Int32).toInt ≤ a2.toInt ∧ a2.toInt ≤ (5 : Int32).toInt
  · obtain ⟨q, hq, -, rfl⟩ := rng (n := 5) (by decide) (by decide) hb
    have ech := (h8 q (by omega)).1
    by_cases ha : (0 : Int32).toInt ≤ a1.toInt ∧ a1.toInt ≤ (5 : Int32).toInt
    · obtain ⟨k, hk, -, rfl⟩ := rng (n := 5) (by decide) (by decide) ha
      obtain ⟨p', t', e1, e2, e3⟩ := f_X7_takeNow_eq (N := N) w.1 (par := w.2.2.2.1) (t := w.2.2.2.2.1) (by omega) hp ht
      have mT : ∀ v : Int64, f_X6_markTrouble v u.2.2.2.2.2.2.2.2.2.2.2.2.1 (nI q) = some (w.2.2.2.2.2.2.2.2.2.2.1 q, v + 1) := fun v => by
        unfold f_X6_markTrouble
        rw [if_pos (xin_n (by omega) (by omega)), nI_clamp (by omega), ech]
      have fin : ∀ (r : Int32) (v v' : Int64), v' = v → f_X6_mark u.1 u.2.2.2.1 u.2.2.2.2.1 u.2.2.2.2.2.2.2.2.2.2.2.2.1 (nI k) (nI q) = some (r, v) → f_X7_mark N w.1 w.2.2.1 w.2.2.2.1 w.2.2.2.2.1 w.2.2.2.2.2.1 w.2.2.2.2.2.2.2.2.2.2.1 (nI k) (nI q) = some (r, (v', w.1.2.1, w.1.2.2.1, w.1.2.2.2.1, w.1.2.2.2.2.1, w.1.2.2.2.2.2.1, w.1.2.2.2.2.2.2.1, w.1.2.2.2.2.2.2.2.1, w.1.2.2.2.2.2.2.2.2.1, w.1.2.2.2.2.2.2.2.2.2.1, w.1.2.2.2.2.2.2.2.2.2.2.1, w.1.2.2.2.2.2.2.2.2.2.2.2), p', t') → ∃ (rx : Int32 × K6) (rm : Int32 × K7 × (Nat → Int32) × (Nat → Int32)), f_X6_mark u.1 u.2.2.2.1 u.2.2.2.2.1 u.2.2.2.2.2.2.2.2.2.2.2.2.1 (nI k) (nI q) = some rx ∧ f_X7_mark N w.1 w.2.2.1 w.2.2.2.1 w.2.2.2.2.1 w.2.2.2.2.2.1 w.2.2.2.2.2.2.2.2.2.2.1 (nI k) (nI q) = some rm ∧ rx.1 = rm.1 ∧ Rel (rx.2, u.2.1, u.2.2.1, u.2.2.2.1, u.2.2.2.2.1, u.2.2.2.2.2.1, u.2.2.2.2.2.2.1, u.2.2.2.2.2.2.2.1, u.2.2.2.2.2.2.2.2.1, u.2.2.2.2.2.2.2.2.2.1, u.2.2.2.2.2.2.2.2.2.2.1, u.2.2.2.2.2.2.2.2.2.2.2.1, u.2.2.2.2.2.2.2.2.2.2.2.2.1, u.2.2.2.2.2.2.2.2.2.2.2.2.2.1, u.2.2.2.2.2.2.2.2.2.2.2.2.2.2.1, u.2.2.2.2.2.2.2.2.2.2.2.2.2.2.2.1, u.2.2.2.2.2.2.2.2.2.2.2.2.2.2.2.2.1, u.2.2.2.2.2.2.2.2.2.2.2.2.2.2.2.2.2.1, u.2.2.2.2.2.2.2.2.2.2.2.2.2.2.2.2.2.2.1, u.2.2.2.2.2.2.2.2.2.2.2.2.2.2.2.2.2.2.2.1, u.2.2.2.2.2.2.2.2.2.2.2.2.2.2.2.2.2.2.2.2.1, u.2.2.2.2.2.2.2.2.2.2.2.2.2.2.2.2.2.2.2.2.2.1, u.2.2.2.2.2.2.2.2.2.2.2.2.2.2.2.2.2.2.2.2.2.2.1, u.2.2.2.2.2.2.2.2.2.2.2.2.2.2.2.2.2.2.2.2.2.2.2.1, u.2.2.2.2.2.2.2.2.2.2.2.2.2.2.2.2.2.2.2.2.2.2.2.2) (rm.2.1, w.2.1, w.2.2.1, rm.2.2.1, rm.2.2.2, w.2.2.2.2.2.1, w.2.2.2.2.2.2.1, w.2.2.2.2.2.2.2.1, w.2.2.2.2.2.2.2.2.1, w.2.2.2.2.2.2.2.2.2.1, w.2.2.2.2.2.2.2.2.2.2.1, w.2.2.2.2.2.2.2.2.2.2.2.1, w.2.2.2.2.2.2.2.2.2.2.2.2.1, w.2.2.2.2.2.2.2.2.2.2.2.2.2.1, w.2.2.2.2.2.2.2.2.2.2.2.2.2.2.1, w.2.2.2.2.2.2.2.2.2.2.2.2.2.2.2.1, w.2.2.2.2.2.2.2.2.2.2.2.2.2.2.2.2.1, w.2.2.2.2.2.2.2.2.2.2.2.2.2.2.2.2.2.1, w.2.2.2.2.2.2.2.2.2.2.2.2.2.2.2.2.2.2) :=
        fun r v v' hv g1 g2 => ⟨(r, v), (r, (v', w.1.2.1, w.1.2.2.1, w.1.2.2.2.1, w.1.2.2.2.2.1, w.1.2.2.2.2.2.1, w.1.2.2.2.2.2.2.1, w.1.2.2.2.2.2.2.2.1, w.1.2.2.2.2.2.2.2.2.1, w.1.2.2.2.2.2.2.2.2.2.1, w.1.2.2.2.2.2.2.2.2.2.2.1, w.1.2.2.2.2.2.2.2.2.2.2.2), p', t'), g1, g2, rfl, mkRel hv h2 ⟨hy, hp⟩ ⟨hc, ht⟩ h5 h6 h7 h8 h9 h10 h11⟩
      obtain ⟨g0, g1, -⟩ := id ht
      rcases (show k = 0 ∨ k = 1 ∨ k = 2 ∨ k = 3 ∨ k = 4 ∨ k = 5 by omega) with rfl | rfl | rfl | rfl | rfl | rfl
      · refine fin (w.2.2.2.2.2.2.2.2.2.2.1 q) (u.1 + 1) (w.1.1 + 1) (by rw [h1]) ?_ ?_
        · unfold f_X6_mark; rw [out0 hb, if_pos (by decide), if_pos (by decide), mT]; rfl
        · unfold f_X7_mark f_X7_isTrouble; rw [in1 ha, in1 hb, if_neg ne10, if_neg ne10, e1, Option.bind_some, if_pos (xin_n (by omega) (by omega)), nI_clamp (by omega), if_pos (by decide)]
      · refine fin (w.2.2.2.2.2.2.2.2.2.2.1 q + u.2.2.2.2.1.2.1) (u.1 + 10 + 1) (w.1.1 + 11) (by rw [h1, Int64.add_assoc]; rfl) ?_ ?_
        · unfold f_X6_mark f_X6_markDry; rw [out0 hb, if_pos (by decide), if_neg (by decide), if_pos (by decide), mT]; rfl
        · unfold f_X7_mark f_X7_isTrouble; rw [in1 ha, in1 hb, if_neg ne10, if_neg ne10, e1, Option.bind_some, if_pos (xin_n (by omega) (by omega)), nI_clamp (by omega), if_neg (by decide), if_pos (by decide), g1]
      · refine fin (w.2.2.2.2.2.2.2.2.2.2.1 q - u.2.2.2.2.1.1) (u.1 + 100 + 1) (w.1.1 + 101) (by rw [h1, Int64.add_assoc]; rfl) ?_ ?_
        · unfold f_X6_mark f_X6_markFooted; rw [out0 hb, if_pos (by decide), if_neg (by decide), if_neg (by decide), if_pos (by decide), mT]; rfl
        · unfold f_X7_mark f_X7_isTrouble; rw [in1 ha, in1 hb, if_neg ne10, if_neg ne10, e1, Option.bind_some, if_pos (xin_n (by omega) (by omega)), nI_clamp (by omega), if_neg (by decide), if_neg (by decide), if_pos (by decide), g0]
      · refine fin ((w.2.2.2.2.2.2.2.2.2.2.1 q - u.2.2.2.2.1.1) * 2) (u.1 + 1000 + 100 + 1) (w.1.1 + 1101) (by rw [h1, Int64.add_assoc, Int64.add_assoc]; rfl) ?_ ?_
        · unfold f_X6_mark f_X6_markAired f_X6_markFooted; rw [out0 hb, if_pos (by decide), if_neg (by decide), if_neg (by decide), if_neg (by decide), if_pos (by decide), mT]; rfl
        · unfold f_X7_mark f_X7_isTrouble; rw [in1 ha, in1 hb, if_neg ne10, if_neg ne10, e1, Option.bind_some, if_pos (xin_n (by omega) (by omega)), nI_clamp (by omega), if_neg (by decide), if_neg (by decide), if_neg (by decide), if_pos (by decide), g0, Int32.mul_comm]
      · refine fin (w.2.2.2.2.2.2.2.2.2.2.1 q + u.2.2.2.2.1.2.1 + nI q) (u.1 + 10000 + 10 + 1) (w.1.1 + 10011) (by rw [h1, Int64.add_assoc, Int64.add_assoc]; rfl) ?_ ?_
        · unfold f_X6_mark f_X6_markChoked f_X6_markDry; rw [out0 hb, if_pos (by decide), if_neg (by decide), if_neg (by decide), if_neg (by decide), if_neg (by decide), if_pos (by decide), mT]; rfl
        · unfold f_X7_mark f_X7_isTrouble; rw [in1 ha, in1 hb, if_neg ne10, if_neg ne10, e1, Option.bind_some, if_pos (xin_n (by omega) (by omega)), nI_clamp (by omega), if_neg (by decide), if_neg (by decide), if_neg (by decide), if_neg (by decide), if_pos (by decide), g1]
      · refine fin (w.2.2.2.2.2.2.2.2.2.2.1 q + dep u.2.2.2.1 u.2.2.2.2.1.2.2.1) (u.1 + 100000 + 1) (w.1.1 + 100001) (by rw [h1, Int64.add_assoc]; rfl) ?_ ?_
        · unfold f_X6_mark f_X6_markDeep; rw [out0 hb, if_pos (by decide), if_neg (by decide), if_neg (by decide), if_neg (by decide), if_neg (by decide), if_neg (by decide), if_pos (by decide), mT, Option.bind_some, f_X4_depth_eq hy]; rfl
        · unfold f_X7_mark f_X7_isTrouble; rw [in1 ha, in1 hb, if_neg ne10, if_neg ne10, e1, Option.bind_some, if_pos (xin_n (by omega) (by omega)), nI_clamp (by omega), if_neg (by decide), if_neg (by decide), if_neg (by decide), if_neg (by decide), if_neg (by decide), f_X7_depth_eq _ e2 hy, show (p', t').2 2 = u.2.2.2.2.1.2.2.1 from e3.2.2.1]; rfl
    · refine ⟨(-1000000, u.1), (-1000000, w.1, w.2.2.2.1, w.2.2.2.2.1), ?_, by unfold f_X7_mark; rw [in0 ha, if_pos (by decide)], rfl, mkRel h1 h2 ⟨hy, hp⟩ ⟨hc, ht⟩ h5 h6 h7 h8 h9 h10 h11⟩
      unfold f_X6_mark
      have hz : ∀ q : Nat, q ≤ 5 → ¬ a1 = nI q := fun q hq e => ha (by rw [e, nI_toInt (by omega)]; exact ⟨by rw [z0]; omega, by rw [z5]; omega⟩)
      rw [out0 hb, if_pos (by decide), if_neg (show ¬ a1 = 0 from hz 0 (by omega)), if_neg (show ¬ a1 = 1 from hz 1 (by omega)), if_neg (show ¬ a1 = 2 from hz 2 (by omega)), if_neg (show ¬ a1 = 3 from hz 3 (by omega)), if_neg (show ¬ a1 = 4 from hz 4 (by omega)), if_neg (show ¬ a1 = 5 from hz 5 (by omega))]
  · refine ⟨(-1000000, u.1), (-1000000, w.1, w.2.2.2.1, w.2.2.2.2.1), by unfold f_X6_mark; rw [out1 hb, if_neg ne10], ?_, rfl, mkRel h1 h2 ⟨hy, hp⟩ ⟨hc, ht⟩ h5 h6 h7 h8 h9 h10 h11⟩
    unfold f_X7_mark f_X7_isTrouble
    rw [in0 hb]
    by_cases ha : (0 : Int32).toInt ≤ a1.toInt ∧ a1.toInt ≤ (5 : Int32).toInt
    · rw [in1 ha, if_neg ne10, if_pos (by decide)]
    · rw [in0 ha, if_pos (by decide)]
