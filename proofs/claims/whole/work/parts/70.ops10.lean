/-! the steps, one by one -/
theorem and255 (y : Int64) : ∃ v : Nat, v < 256 ∧ (y &&& 255) = Int64.ofNat v := by
  refine ⟨(y &&& 255).toBitVec.toNat, ?_, ?_⟩
  · rw [Int64.toBitVec_and, BitVec.toNat_and]
    exact Nat.lt_of_le_of_lt Nat.and_le_right (by decide)
  · apply Int64.toBitVec_inj.mp
    simp
theorem byt255 : ∀ v, v < 256 → ((Int64.ofNat v).toInt32 = nI v ∧ (vp_nar .byte ((Int64.ofNat v).toInt32).toInt8.toInt32) &&& 255 = nI v) := by decide +kernel
def bytF (a : Int64) (q i : Nat) : Int32 := ((a >>> (((8) * (nI (q - i) - 1)).toInt64 &&& 63)) &&& (255)).toInt32
theorem bytF_ok (a : Int64) (q i : Nat) : ∃ v : Nat, v < 256 ∧ bytF a q i = nI v ∧ (vp_nar .byte (bytF a q i).toInt8.toInt32) &&& 255 = nI v := by
  obtain ⟨v, h1, h2⟩ := and255 (a >>> (((8) * (nI (q - i) - 1)).toInt64 &&& 63))
  obtain ⟨h3, h4⟩ := byt255 v h1
  unfold bytF
  rw [h2]
  exact ⟨v, h1, h3, h4⟩
theorem dec1 {q i : Nat} (hi : i < q) (hq : q ≤ 8) : nI (q - i) - 1 = nI (q - (i + 1)) := by
  rw [show (1 : Int32) = nI 1 from rfl, nI_sub (by omega) (by omega)]
  congr 1
theorem n300 : (300 : Int32) = nI 300 := rfl
set_option maxHeartbeats 4000000 in
theorem op_type {N : Nat} (hN : 400 < N) {u : CX} {w : CM} (hR : Rel u w) (a1 : Int64) (a2 : Int32) : ∃ (rx : Int32 × K3 × (Nat → Int32)) (rm : Int32 × K7 × (Nat → Int32)), f_X6_type N u.1 u.2.1 u.2.2.1 a1 a2 = some rx ∧ f_X7_type N w.1 w.2.1 a1 a2 = some rm ∧ rx.1 = rm.1 ∧ Rel (u.1, rx.2.1, rx.2.2, u.2.2.2.1, u.2.2.2.2.1, u.2.2.2.2.2.1, u.2.2.2.2.2.2.1, u.2.2.2.2.2.2.2.1, u.2.2.2.2.2.2.2.2.1, u.2.2.2.2.2.2.2.2.2.1, u.2.2.2.2.2.2.2.2.2.2.1, u.2.2.2.2.2.2.2.2.2.2.2.1, u.2.2.2.2.2.2.2.2.2.2.2.2.1, u.2.2.2.2.2.2.2.2.2.2.2.2.2.1, u.2.2.2.2.2.2.2.2.2.2.2.2.2.2.1, u.2.2.2.2.2.2.2.2.2.2.2.2.2.2.2.1, u.2.2.2.2.2.2.2.2.2.2.2.2.2.2.2.2.1, u.2.2.2.2.2.2.2.2.2.2.2.2.2.2.2.2.2.1, u.2.2.2.2.2.2.2.2.2.2.2.2.2.2.2.2.2.2.1, u.2.2.2.2.2.2.2.2.2.2.2.2.2.2.2.2.2.2.2.1, u.2.2.2.2.2.2.2.2.2.2.2.2.2.2.2.2.2.2.2.2.1, u.2.2.2.2.2.2.2.2.2.2.2.2.2.2.2.2.2.2.2.2.2.1, u.2.2.2.2.2.2.2.2.2.2.2.2.2.2.2.2.2.2.2.2.2.2.1, u.2.2.2.2.2.2.2.2.2.2.2.2.2.2.2.2.2.2.2.2.2.2.2.1, u.2.2.2.2.2.2.2.2.2.2.2.2.2.2.2.2.2.2.2.2.2.2.2.2) (rm.2.1, rm.2.2, w.2.2.1, w.2.2.2.1, w.2.2.2.2.1, w.2.2.2.2.2.1, w.2.2.2.2.2.2.1, w.2.2.2.2.2.2.2.1, w.2.2.2.2.2.2.2.2.1, w.2.2.2.2.2.2.2.2.2.1, w.2.2.2.2.2.2.2.2.2.2.1, w.2.2.2.2.2.2.2.2.2.2.2.1, w.2.2.2.2.2.2.2.2.2.2.2.2.1, w.2.2.2.2.2.2.2.2.2.2.2.2.2.1, w.2.2.2.2.2.2.2.2.2.2.2.2.2.2.1, w.2.2.2.2.2.2.2.2.2.2.2.2.2.2.2.1, w.2.2.2.2.2.2.2.2.2.2.2.2.2.2.2.2.1, w.2.2.2.2.2.2.2.2.2.2.2.2.2.2.2.2.2.1, w.2.2.2.2.2.2.2.2.2.2.2.2.2.2.2.2.2.2) := by
  obtain ⟨h1, ⟨n, hn, t1, t2, t3⟩, h3, h4, h5, h6, h7, h8, h9, h10, h11⟩ := id hR
  by_cases ha : (1 : Int32).toInt ≤ a2.toInt ∧ a2.toInt ≤ (8 : Int32).toInt
  · obtain ⟨q, hq, hq1, rfl⟩ := rng (n := 8) (by decide) (by decide) ha
    rw [z1] at hq1
    by_cases hf : n + q ≤ 300
    · obtain ⟨v, c1, c2, c3, c4⟩ := xlp_rel (st := s_X3_add_22 a1) (fun i v => v.1 = nI (q - i) - 1 ∧ v.2.1 = nI (n + i) ∧ (∀ j, j < n → v.2.2 j = u.2.2.1 j) ∧ ∀ j, j < i → v.2.2 (n + j) = bytF a1 q j) q (fun v => v.2.1 = nI (n + q) ∧ (∀ j, j < n → v.2.2 j = u.2.2.1 j) ∧ ∀ j, j < q → v.2.2 (n + j) = bytF a1 q j) (n := N) (x := (nI q - 1, nI n, u.2.2.1))
        (fun i x hi ⟨b1, b2, b3, b4⟩ => by
          refine Or.inl ⟨(nI (q - i) - 1 + (-1), nI (n + (i + 1)), upd x.2.2 (n + i) (bytF a1 q i)), ?_, ?_, rfl, fun j hj => ?_, fun j hj => ?_⟩
          · unfold s_X3_add_22
            rw [b1, if_neg (by rw [dec1 hi hq, zlt, z0, nI_toInt (by omega)]; omega), b2, if_pos (xin_n (by omega) (by omega)), nI_clamp (by omega), nI_1]; rfl
          · show nI (q - i) - 1 + (-1) = _
            rw [dec1 hi hq, Int32.sub_eq_add_neg]
          · show upd x.2.2 (n + i) _ j = _
            unfold upd
            rw [if_neg (by omega)]; exact b3 j hj
          · show upd x.2.2 (n + i) _ (n + j) = _
            unfold upd
            by_cases e : n + j = n + i
            · rw [if_pos e, show j = i by omega]
            · rw [if_neg e]; exact b4 j (by omega))
        (fun x ⟨b1, b2, b3, b4⟩ => ⟨x, by unfold s_X3_add_22; rw [if_pos (by rw [b1, Nat.sub_self]; decide)], b2, b3, b4⟩) (by omega) ⟨rfl, rfl, fun _ _ => rfl, fun j hj => by omega⟩
      obtain ⟨v', d1, d2, d3, d4⟩ := xlp_rel (st := s_X7_type_32 a1) (fun i v => v.1 = nI (q - i) - 1 ∧ v.2.1 = nI (n + i) ∧ (∀ j, j < n → v.2.2 j = w.2.1 j) ∧ ∀ j, j < i → v.2.2 (n + j) = vp_nar .byte (bytF a1 q j).toInt8.toInt32) q (fun v => v.2.1 = nI (n + q) ∧ (∀ j, j < n → v.2.2 j = w.2.1 j) ∧ ∀ j, j < q → v.2.2 (n + j) = vp_nar .byte (bytF a1 q j).toInt8.toInt32) (n := N) (x := (nI q - 1, nI n, w.2.1))
        (fun i x hi ⟨b1, b2, b3, b4⟩ => by
          refine Or.inl ⟨(nI (q - i) - 1 + (-1), nI (n + (i + 1)), upd x.2.2 (n + i) (vp_nar .byte (bytF a1 q i).toInt8.toInt32)), ?_, ?_, rfl, fun j hj => ?_, fun j hj => ?_⟩
          · unfold s_X7_type_32
            rw [b1, if_neg (by rw [dec1 hi hq, zlt, z0, nI_toInt (by omega)]; omega), b2, if_pos (xin_n (by omega) (by omega)), nI_clamp (by omega), nI_1]; rfl
          · show nI (q - i) - 1 + (-1) = _
            rw [dec1 hi hq, Int32.sub_eq_add_neg]
          · show upd x.2.2 (n + i) _ j = _
            unfold upd
            rw [if_neg (by omega)]; exact b3 j hj
          · show upd x.2.2 (n + i) _ (n + j) = _
            unfold upd
            by_cases e : n + j = n + i
            · rw [if_pos e, show j = i by omega]
            · rw [if_neg e]; exact b4 j (by omega))
        (fun x ⟨b1, b2, b3, b4⟩ => ⟨x, by unfold s_X7_type_32; rw [if_pos (by rw [b1, Nat.sub_self]; decide)], b2, b3, b4⟩) (by omega) ⟨rfl, rfl, fun _ _ => rfl, fun j hj => by omega⟩
      refine ⟨_, _, by unfold f_X6_type f_X3_add; rw [out0 ha, if_pos rfl, t1, nI_add, if_pos (by rw [n300, nle] <;> omega), c1]; rfl, by unfold f_X7_type; rw [in1 ha, if_neg ne10, t2, nI_add, if_pos (by rw [n300, nle] <;> omega), d1]; rfl, ?_, ?_⟩
      · exact c2.trans d2.symm
      · refine mkRel h1 ⟨n + q, hf, c2, d2, fun j hj => ?_⟩ h3 h4 h5 h6 h7 h8 h9 h10 h11
        by_cases hj2 : j < n
        · obtain ⟨b, g1, g2, g3⟩ := t3 j hj2
          exact ⟨b, g1, (c3 j hj2).trans g2, by show v'.2.2 j &&& 255 = nI b; rw [d3 j hj2]; exact g3⟩
        · obtain ⟨b, g1, g2, g3⟩ := bytF_ok a1 q (j - n)
          have e := c4 (j - n) (by omega)
          have e' := d4 (j - n) (by omega)
          rw [show n + (j - n) = j by omega] at e e'
          exact ⟨b, g1, e.trans g2, by show v'.2.2 j &&& 255 = nI b; rw [e']; exact g3⟩
    · refine ⟨_, _, by unfold f_X6_type f_X3_add; rw [out0 ha, if_pos rfl, t1, nI_add, if_neg (by rw [n300, nle] <;> omega)]; rfl, by unfold f_X7_type; rw [in1 ha, if_neg ne10, t2, nI_add, if_neg (by rw [n300, nle] <;> omega)], ?_, ?_⟩
      · rfl
      · exact mkRel h1 ⟨n, hn, t1, t2, t3⟩ h3 h4 h5 h6 h7 h8 h9 h10 h11
  · refine ⟨_, _, by unfold f_X6_type; rw [out1 ha, if_neg ne10], by unfold f_X7_type; rw [in0 ha, if_pos rfl], ?_, ?_⟩
    · rfl
    · exact mkRel h1 ⟨n, hn, t1, t2, t3⟩ h3 h4 h5 h6 h7 h8 h9 h10 h11
