/-! the steps, one by one -/
set_option maxHeartbeats 4000000 in
theorem op_clear {N : Nat} (hN : 400 < N) {u : CX} {w : CM} (hR : Rel u w) : ∃ (rx : Int32 × K3) (rm : Int32 × K7), f_X6_clear u.1 u.2.1 = rx ∧ f_X7_clear w.1 = rm ∧ rx.1 = rm.1 ∧ Rel (u.1, rx.2, u.2.2.1, u.2.2.2.1, u.2.2.2.2.1, u.2.2.2.2.2.1, u.2.2.2.2.2.2.1, u.2.2.2.2.2.2.2.1, u.2.2.2.2.2.2.2.2.1, u.2.2.2.2.2.2.2.2.2.1, u.2.2.2.2.2.2.2.2.2.2.1, u.2.2.2.2.2.2.2.2.2.2.2.1, u.2.2.2.2.2.2.2.2.2.2.2.2.1, u.2.2.2.2.2.2.2.2.2.2.2.2.2.1, u.2.2.2.2.2.2.2.2.2.2.2.2.2.2.1, u.2.2.2.2.2.2.2.2.2.2.2.2.2.2.2.1, u.2.2.2.2.2.2.2.2.2.2.2.2.2.2.2.2.1, u.2.2.2.2.2.2.2.2.2.2.2.2.2.2.2.2.2.1, u.2.2.2.2.2.2.2.2.2.2.2.2.2.2.2.2.2.2.1, u.2.2.2.2.2.2.2.2.2.2.2.2.2.2.2.2.2.2.2.1, u.2.2.2.2.2.2.2.2.2.2.2.2.2.2.2.2.2.2.2.2.1, u.2.2.2.2.2.2.2.2.2.2.2.2.2.2.2.2.2.2.2.2.2.1, u.2.2.2.2.2.2.2.2.2.2.2.2.2.2.2.2.2.2.2.2.2.2.1, u.2.2.2.2.2.2.2.2.2.2.2.2.2.2.2.2.2.2.2.2.2.2.2.1, u.2.2.2.2.2.2.2.2.2.2.2.2.2.2.2.2.2.2.2.2.2.2.2.2) (rm.2, w.2.1, w.2.2.1, w.2.2.2.1, w.2.2.2.2.1, w.2.2.2.2.2.1, w.2.2.2.2.2.2.1, w.2.2.2.2.2.2.2.1, w.2.2.2.2.2.2.2.2.1, w.2.2.2.2.2.2.2.2.2.1, w.2.2.2.2.2.2.2.2.2.2.1, w.2.2.2.2.2.2.2.2.2.2.2.1, w.2.2.2.2.2.2.2.2.2.2.2.2.1, w.2.2.2.2.2.2.2.2.2.2.2.2.2.1, w.2.2.2.2.2.2.2.2.2.2.2.2.2.2.1, w.2.2.2.2.2.2.2.2.2.2.2.2.2.2.2.1, w.2.2.2.2.2.2.2.2.2.2.2.2.2.2.2.2.1, w.2.2.2.2.2.2.2.2.2.2.2.2.2.2.2.2.2.1, w.2.2.2.2.2.2.2.2.2.2.2.2.2.2.2.2.2.2) := by
  obtain ⟨h1, ⟨n, hn, t1, t2, t3⟩, h3, h4, h5, h6, h7, h8, h9, h10, h11⟩ := id hR
  refine ⟨_, _, rfl, rfl, ?_, ?_⟩
  · show u.2.1.1 = w.1.2.1
    rw [t1, t2]
  · exact mkRel h1 ⟨0, by omega, rfl, rfl, fun j hj => by omega⟩ h3 h4 h5 h6 h7 h8 h9 h10 h11
set_option maxHeartbeats 4000000 in
theorem op_unsign {N : Nat} (hN : 400 < N) {u : CX} {w : CM} (hR : Rel u w) : ∃ (rx : Int32 × K2) (rm : Int32 × K7), f_X6_unsign u.1 u.2.2.2.2.2.2.2.2.1 = rx ∧ f_X7_unsign w.1 = rm ∧ rx.1 = rm.1 ∧ Rel (u.1, u.2.1, u.2.2.1, u.2.2.2.1, u.2.2.2.2.1, u.2.2.2.2.2.1, u.2.2.2.2.2.2.1, u.2.2.2.2.2.2.2.1, rx.2, u.2.2.2.2.2.2.2.2.2.1, u.2.2.2.2.2.2.2.2.2.2.1, u.2.2.2.2.2.2.2.2.2.2.2.1, u.2.2.2.2.2.2.2.2.2.2.2.2.1, u.2.2.2.2.2.2.2.2.2.2.2.2.2.1, u.2.2.2.2.2.2.2.2.2.2.2.2.2.2.1, u.2.2.2.2.2.2.2.2.2.2.2.2.2.2.2.1, u.2.2.2.2.2.2.2.2.2.2.2.2.2.2.2.2.1, u.2.2.2.2.2.2.2.2.2.2.2.2.2.2.2.2.2.1, u.2.2.2.2.2.2.2.2.2.2.2.2.2.2.2.2.2.2.1, u.2.2.2.2.2.2.2.2.2.2.2.2.2.2.2.2.2.2.2.1, u.2.2.2.2.2.2.2.2.2.2.2.2.2.2.2.2.2.2.2.2.1, u.2.2.2.2.2.2.2.2.2.2.2.2.2.2.2.2.2.2.2.2.2.1, u.2.2.2.2.2.2.2.2.2.2.2.2.2.2.2.2.2.2.2.2.2.2.1, u.2.2.2.2.2.2.2.2.2.2.2.2.2.2.2.2.2.2.2.2.2.2.2.1, u.2.2.2.2.2.2.2.2.2.2.2.2.2.2.2.2.2.2.2.2.2.2.2.2) (rm.2, w.2.1, w.2.2.1, w.2.2.2.1, w.2.2.2.2.1, w.2.2.2.2.2.1, w.2.2.2.2.2.2.1, w.2.2.2.2.2.2.2.1, w.2.2.2.2.2.2.2.2.1, w.2.2.2.2.2.2.2.2.2.1, w.2.2.2.2.2.2.2.2.2.2.1, w.2.2.2.2.2.2.2.2.2.2.2.1, w.2.2.2.2.2.2.2.2.2.2.2.2.1, w.2.2.2.2.2.2.2.2.2.2.2.2.2.1, w.2.2.2.2.2.2.2.2.2.2.2.2.2.2.1, w.2.2.2.2.2.2.2.2.2.2.2.2.2.2.2.1, w.2.2.2.2.2.2.2.2.2.2.2.2.2.2.2.2.1, w.2.2.2.2.2.2.2.2.2.2.2.2.2.2.2.2.2.1, w.2.2.2.2.2.2.2.2.2.2.2.2.2.2.2.2.2.2) := by
  obtain ⟨h1, h2, h3, h4, h5, h6, ⟨n, hn, t1, t2, t3⟩, h8, h9, h10, h11⟩ := id hR
  refine ⟨_, _, rfl, rfl, ?_, ?_⟩
  · show u.2.2.2.2.2.2.2.2.1 = w.1.2.2.2.2.2.2.2.1
    rw [t1, t2]
  · exact mkRel h1 h2 h3 h4 h5 h6 ⟨0, by omega, rfl, rfl, fun j hj => by omega⟩ h8 h9 h10 h11
theorem relN_upd {m b : Nat} {f g : Nat → Int32} (h : relN m b f g) (k q : Nat) (hq : q ≤ b) : relN m b (upd f k (nI q)) (upd g k (nI q)) := by
  intro j hj
  unfold upd
  by_cases e : j = k
  · rw [if_pos e, if_pos e]; exact ⟨rfl, q, hq, rfl⟩
  · rw [if_neg e, if_neg e]; exact h j hj
set_option maxHeartbeats 4000000 in
theorem op_chance {N : Nat} (hN : 400 < N) {u : CX} {w : CM} (hR : Rel u w) (a1 : Int32) (a2 : Int32) : ∃ (rx : Int32 × (Nat → Int32)) (rm : Int32 × (Nat → Int32)), f_X6_chance u.1 u.2.2.2.2.2.2.2.2.2.2.2.2.1 a1 a2 = some rx ∧ f_X7_chance w.1 w.2.2.2.2.2.2.2.2.2.2.1 a1 a2 = some rm ∧ rx.1 = rm.1 ∧ Rel (u.1, u.2.1, u.2.2.1, u.2.2.2.1, u.2.2.2.2.1, u.2.2.2.2.2.1, u.2.2.2.2.2.2.1, u.2.2.2.2.2.2.2.1, u.2.2.2.2.2.2.2.2.1, u.2.2.2.2.2.2.2.2.2.1, u.2.2.2.2.2.2.2.2.2.2.1, u.2.2.2.2.2.2.2.2.2.2.2.1, rx.2, u.2.2.2.2.2.2.2.2.2.2.2.2.2.1, u.2.2.2.2.2.2.2.2.2.2.2.2.2.2.1, u.2.2.2.2.2.2.2.2.2.2.2.2.2.2.2.1, u.2.2.2.2.2.2.2.2.2.2.2.2.2.2.2.2.1, u.2.2.2.2.2.2.2.2.2.2.2.2.2.2.2.2.2.1, u.2.2.2.2.2.2.2.2.2.2.2.2.2.2.2.2.2.2.1, u.2.2.2.2.2.2.2.2.2.2.2.2.2.2.2.2.2.2.2.1, u.2.2.2.2.2.2.2.2.2.2.2.2.2.2.2.2.2.2.2.2.1, u.2.2.2.2.2.2.2.2.2.2.2.2.2.2.2.2.2.2.2.2.2.1, u.2.2.2.2.2.2.2.2.2.2.2.2.2.2.2.2.2.2.2.2.2.2.1, u.2.2.2.2.2.2.2.2.2.2.2.2.2.2.2.2.2.2.2.2.2.2.2.1, u.2.2.2.2.2.2.2.2.2.2.2.2.2.2.2.2.2.2.2.2.2.2.2.2) (w.1, w.2.1, w.2.2.1, w.2.2.2.1, w.2.2.2.2.1, w.2.2.2.2.2.1, w.2.2.2.2.2.2.1, w.2.2.2.2.2.2.2.1, w.2.2.2.2.2.2.2.2.1, w.2.2.2.2.2.2.2.2.2.1, rm.2, w.2.2.2.2.2.2.2.2.2.2.2.1, w.2.2.2.2.2.2.2.2.2.2.2.2.1, w.2.2.2.2.2.2.2.2.2.2.2.2.2.1, w.2.2.2.2.2.2.2.2.2.2.2.2.2.2.1, w.2.2.2.2.2.2.2.2.2.2.2.2.2.2.2.1, w.2.2.2.2.2.2.2.2.2.2.2.2.2.2.2.2.1, w.2.2.2.2.2.2.2.2.2.2.2.2.2.2.2.2.2.1, w.2.2.2.2.2.2.2.2.2.2.2.2.2.2.2.2.2.2) := by
  obtain ⟨h1, h2, h3, h4, h5, h6, h7, h8, h9, h10, h11⟩ := id hR
  by_cases ha : (0 : Int32).toInt ≤ a1.toInt ∧ a1.toInt ≤ (5 : Int32).toInt
  · by_cases hb : (0 : Int32).toInt ≤ a2.toInt ∧ a2.toInt ≤ (9 : Int32).toInt
    · obtain ⟨q, hq, -, rfl⟩ := rng (n := 5) (by decide) (by decide) ha
      obtain ⟨v, hv, -, rfl⟩ := rng (n := 9) (by decide) (by decide) hb
      refine ⟨_, _, by unfold f_X6_chance; rw [out0 ha, out0 hb, if_pos rfl, if_pos rfl, if_pos (xin_n (by omega) (by omega)), nI_clamp (by omega)], by unfold f_X7_chance f_X7_isTrouble; rw [in1 ha, in1 hb, if_neg ne10, if_neg ne10, if_pos (xin_n (by omega) (by omega)), nI_clamp (by omega)], ?_, ?_⟩
      · exact (h8 q (by omega)).1
      · exact mkRel h1 h2 h3 h4 h5 h6 h7 (relN_upd h8 q v hv) h9 h10 h11
    · refine ⟨_, _, by unfold f_X6_chance; rw [out0 ha, out1 hb, if_pos rfl, if_neg ne10], by unfold f_X7_chance f_X7_isTrouble; rw [in1 ha, in0 hb, if_neg ne10, if_pos rfl], ?_, ?_⟩
      · rfl
      · exact mkRel h1 h2 h3 h4 h5 h6 h7 h8 h9 h10 h11
  · refine ⟨_, _, by unfold f_X6_chance; rw [out1 ha, if_neg ne10], by unfold f_X7_chance f_X7_isTrouble; rw [in0 ha, if_pos rfl], ?_, ?_⟩
    · rfl
    · exact mkRel h1 h2 h3 h4 h5 h6 h7 h8 h9 h10 h11
set_option maxHeartbeats 4000000 in
theorem op_cost {N : Nat} (hN : 400 < N) {u : CX} {w : CM} (hR : Rel u w) (a1 : Int32) (a2 : Int32) : ∃ (rx : Int32 × (Nat → Int32)) (rm : Int32 × (Nat → Int32)), f_X6_cost u.1 u.2.2.2.2.2.2.2.2.2.2.2.2.2.1 a1 a2 = some rx ∧ f_X7_cost w.1 w.2.2.2.2.2.2.2.2.2.2.2.2.2.2.1 a1 a2 = some rm ∧ rx.1 = rm.1 ∧ Rel (u.1, u.2.1, u.2.2.1, u.2.2.2.1, u.2.2.2.2.1, u.2.2.2.2.2.1, u.2.2.2.2.2.2.1, u.2.2.2.2.2.2.2.1, u.2.2.2.2.2.2.2.2.1, u.2.2.2.2.2.2.2.2.2.1, u.2.2.2.2.2.2.2.2.2.2.1, u.2.2.2.2.2.2.2.2.2.2.2.1, u.2.2.2.2.2.2.2.2.2.2.2.2.1, rx.2, u.2.2.2.2.2.2.2.2.2.2.2.2.2.2.1, u.2.2.2.2.2.2.2.2.2.2.2.2.2.2.2.1, u.2.2.2.2.2.2.2.2.2.2.2.2.2.2.2.2.1, u.2.2.2.2.2.2.2.2.2.2.2.2.2.2.2.2.2.1, u.2.2.2.2.2.2.2.2.2.2.2.2.2.2.2.2.2.2.1, u.2.2.2.2.2.2.2.2.2.2.2.2.2.2.2.2.2.2.2.1, u.2.2.2.2.2.2.2.2.2.2.2.2.2.2.2.2.2.2.2.2.1, u.2.2.2.2.2.2.2.2.2.2.2.2.2.2.2.2.2.2.2.2.2.1, u.2.2.2.2.2.2.2.2.2.2.2.2.2.2.2.2.2.2.2.2.2.2.1, u.2.2.2.2.2.2.2.2.2.2.2.2.2.2.2.2.2.2.2.2.2.2.2.1, u.2.2.2.2.2.2.2.2.2.2.2.2.2.2.2.2.2.2.2.2.2.2.2.2) (w.1, w.2.1, w.2.2.1, w.2.2.2.1, w.2.2.2.2.1, w.2.2.2.2.2.1, w.2.2.2.2.2.2.1, w.2.2.2.2.2.2.2.1, w.2.2.2.2.2.2.2.2.1, w.2.2.2.2.2.2.2.2.2.1, w.2.2.2.2.2.2.2.2.2.2.1, w.2.2.2.2.2.2.2.2.2.2.2.1, w.2.2.2.2.2.2.2.2.2.2.2.2.1, w.2.2.2.2.2.2.2.2.2.2.2.2.2.1, rm.2, w.2.2.2.2.2.2.2.2.2.2.2.2.2.2.2.1, w.2.2.2.2.2.2.2.2.2.2.2.2.2.2.2.2.1, w.2.2.2.2.2.2.2.2.2.2.2.2.2.2.2.2.2.1, w.2.2.2.2.2.2.2.2.2.2.2.2.2.2.2.2.2.2) := by
  obtain ⟨h1, h2, h3, h4, h5, h6, h7, h8, h9, h10, h11⟩ := id hR
  by_cases ha : (0 : Int32).toInt ≤ a1.toInt ∧ a1.toInt ≤ (4 : Int32).toInt
  · by_cases hb : (0 : Int32).toInt ≤ a2.toInt ∧ a2.toInt ≤ (99 : Int32).toInt
    · obtain ⟨q, hq, -, rfl⟩ := rng (n := 4) (by decide) (by decide) ha
      obtain ⟨v, hv, -, rfl⟩ := rng (n := 99) (by decide) (by decide) hb
      refine ⟨_, _, by unfold f_X6_cost; rw [out0 ha, out0 hb, if_pos rfl, if_pos rfl, if_pos (xin_n (by omega) (by omega)), nI_clamp (by omega)], by unfold f_X7_cost; rw [in1 ha, in1 hb, if_neg ne10, if_neg ne10, if_pos (xin_n (by omega) (by omega)), nI_clamp (by omega)], ?_, ?_⟩
      · exact (h9 q (by omega)).1
      · exact mkRel h1 h2 h3 h4 h5 h6 h7 h8 (relN_upd h9 q v hv) h10 h11
    · refine ⟨_, _, by unfold f_X6_cost; rw [out0 ha, out1 hb, if_pos rfl, if_neg ne10], by unfold f_X7_cost; rw [in1 ha, in0 hb, if_neg ne10, if_pos rfl], ?_, ?_⟩
      · rfl
      · exact mkRel h1 h2 h3 h4 h5 h6 h7 h8 h9 h10 h11
  · refine ⟨_, _, by unfold f_X6_cost; rw [out1 ha, if_neg ne10], by unfold f_X7_cost; rw [in0 ha, if_pos rfl], ?_, ?_⟩
    · rfl
    · exact mkRel h1 h2 h3 h4 h5 h6 h7 h8 h9 h10 h11
set_option maxHeartbeats 4000000 in
theorem op_count {N : Nat} (hN : 400 < N) {u : CX} {w : CM} (hR : Rel u w) (a1 : Int32) : ∃ (rx : Int32) (rm : Int32), f_X6_count u.1 u.2.1 u.2.2.2.2.2.2.2.2.1 u.2.2.2.2.2.2.2.2.2.2.2.2.2.2.1 u.2.2.2.2.2.2.2.2.2.2.2.2.2.2.2.2.2.1 a1 = rx ∧ f_X7_count w.1 a1 = rm ∧ rx = rm ∧ Rel u w := by
  obtain ⟨h1, ⟨n0, -, t1, t2, -⟩, h3, h4, h5, h6, ⟨n1, -, s1, s2, -⟩, h8, h9, ⟨n2, -, r1, r2, -⟩, ⟨n3, -, q1, q2, -⟩⟩ := id hR
  refine ⟨_, _, rfl, rfl, ?_, hR⟩
  unfold f_X6_count f_X7_count
  rw [t1, t2, s1, s2, r1, r2, q1, q2]
set_option maxHeartbeats 4000000 in
theorem op_trace {N : Nat} (hN : 400 < N) {u : CX} {w : CM} (hR : Rel u w) : ∃ (rx : Int64) (rm : Int64), f_X6_trace u.1 = rx ∧ f_X7_trace w.1 = rm ∧ rx = rm ∧ Rel u w := by
  exact ⟨_, _, rfl, rfl, hR.1.symm, hR⟩
theorem relS_push {sd : K1} {sp sy : Nat → Int32} {o o' : K7} {tp hs : Nat → Int32} {n a b : Nat} (hn : n < 30) (h1 : sd = nI n) (h : ∀ j, j < n → sp j = tp j ∧ sy j = hs j ∧ (∃ q : Nat, 1 ≤ q ∧ q ≤ 200 ∧ sp j = nI q) ∧ (sy j = 0 ∨ sy j = 1)) (ha : 1 ≤ a) (ha2 : a ≤ 200) (hb : b ≤ 1) (ho : o'.2.2.2.2.2.2.2.2.2.2.1 = nI (n + 1)) : relS (nI (n + 1)) (upd sp n (nI a)) (upd sy n (nI b)) o' (upd tp n (nI a)) (upd hs n (nI b)) := by
  refine ⟨n + 1, by omega, rfl, ho, fun j hj => ?_⟩
  unfold upd
  by_cases e : j = n
  · simp only [if_pos e]
    refine ⟨trivial, trivial, ⟨a, ha, ha2, rfl⟩, ?_⟩
    rcases (show b = 0 ∨ b = 1 by omega) with rfl | rfl
    · exact Or.inl rfl
    · exact Or.inr rfl
  · simp only [if_neg e]; exact h j (by omega)
set_option maxHeartbeats 4000000 in
theorem op_sand {N : Nat} (hN : 400 < N) {u : CX} {w : CM} (hR : Rel u w) (a1 : Int32) (a2 : Int32) : ∃ (rx : Int32 × K1 × (Nat → Int32) × (Nat → Int32)) (rm : Int32 × K7 × (Nat → Int32) × (Nat → Int32)), f_X6_sand u.1 u.2.2.2.2.2.2.2.2.2.2.2.2.2.2.1 u.2.2.2.2.2.2.2.2.2.2.2.2.2.2.2.1 u.2.2.2.2.2.2.2.2.2.2.2.2.2.2.2.2.1 a1 a2 = some rx ∧ f_X7_sand w.1 w.2.2.2.2.2.2.2.2.2.2.2.2.2.2.2.1 w.2.2.2.2.2.2.2.2.2.2.2.2.2.2.2.2.1 a1 a2 = some rm ∧ rx.1 = rm.1 ∧ Rel (u.1, u.2.1, u.2.2.1, u.2.2.2.1, u.2.2.2.2.1, u.2.2.2.2.2.1, u.2.2.2.2.2.2.1, u.2.2.2.2.2.2.2.1, u.2.2.2.2.2.2.2.2.1, u.2.2.2.2.2.2.2.2.2.1, u.2.2.2.2.2.2.2.2.2.2.1, u.2.2.2.2.2.2.2.2.2.2.2.1, u.2.2.2.2.2.2.2.2.2.2.2.2.1, u.2.2.2.2.2.2.2.2.2.2.2.2.2.1, rx.2.1, rx.2.2.1, rx.2.2.2, u.2.2.2.2.2.2.2.2.2.2.2.2.2.2.2.2.2.1, u.2.2.2.2.2.2.2.2.2.2.2.2.2.2.2.2.2.2.1, u.2.2.2.2.2.2.2.2.2.2.2.2.2.2.2.2.2.2.2.1, u.2.2.2.2.2.2.2.2.2.2.2.2.2.2.2.2.2.2.2.2.1, u.2.2.2.2.2.2.2.2.2.2.2.2.2.2.2.2.2.2.2.2.2.1, u.2.2.2.2.2.2.2.2.2.2.2.2.2.2.2.2.2.2.2.2.2.2.1, u.2.2.2.2.2.2.2.2.2.2.2.2.2.2.2.2.2.2.2.2.2.2.2.1, u.2.2.2.2.2.2.2.2.2.2.2.2.2.2.2.2.2.2.2.2.2.2.2.2) (rm.2.1, w.2.1, w.2.2.1, w.2.2.2.1, w.2.2.2.2.1, w.2.2.2.2.2.1, w.2.2.2.2.2.2.1, w.2.2.2.2.2.2.2.1, w.2.2.2.2.2.2.2.2.1, w.2.2.2.2.2.2.2.2.2.1, w.2.2.2.2.2.2.2.2.2.2.1, w.2.2.2.2.2.2.2.2.2.2.2.1, w.2.2.2.2.2.2.2.2.2.2.2.2.1, w.2.2.2.2.2.2.2.2.2.2.2.2.2.1, w.2.2.2.2.2.2.2.2.2.2.2.2.2.2.1, rm.2.2.1, rm.2.2.2, w.2.2.2.2.2.2.2.2.2.2.2.2.2.2.2.2.2.1, w.2.2.2.2.2.2.2.2.2.2.2.2.2.2.2.2.2.2) := by
  obtain ⟨h1, h2, h3, h4, h5, h6, h7, h8, h9, ⟨n, hn, t1, t2, t3⟩, h11⟩ := id hR
  by_cases ha : (1 : Int32).toInt ≤ a1.toInt ∧ a1.toInt ≤ (200 : Int32).toInt
  · by_cases hb : (0 : Int32).toInt ≤ a2.toInt ∧ a2.toInt ≤ (1 : Int32).toInt
    · obtain ⟨q, hq, hq1, rfl⟩ := rng (n := 200) (by decide) (by decide) ha
      obtain ⟨v, hv, -, rfl⟩ := rng (n := 1) (by decide) (by decide) hb
      rw [z1] at hq1
      by_cases hf : n = 30
      · subst hf
        refine ⟨_, _, by unfold f_X6_sand f_X1_add; rw [out0 ha, out0 hb, if_pos rfl, if_pos rfl, t1, if_neg (by decide)]; rfl, by unfold f_X7_sand; rw [in1 ha, in1 hb, if_neg ne10, if_neg ne10, t2, if_pos (by decide)], ?_, ?_⟩
        · rfl
        · exact mkRel h1 h2 h3 h4 h5 h6 h7 h8 h9 ⟨30, by omega, by exact rfl, t2, t3⟩ h11
      · refine ⟨_, _, by unfold f_X6_sand f_X1_add; rw [out0 ha, out0 hb, if_pos rfl, if_pos rfl, t1, if_pos (by rw [nlit, nlt] <;> omega), if_pos (xin_n (by omega) (by omega)), nI_clamp (by omega), nI_1]; rfl, by unfold f_X7_sand; rw [in1 ha, in1 hb, if_neg ne10, if_neg ne10, t2, if_neg (by rw [nlit, nI_eq] <;> omega), if_pos (xin_n (by omega) (by omega)), nI_clamp (by omega), nI_1], ?_, ?_⟩
        · rfl
        · exact mkRel h1 h2 h3 h4 h5 h6 h7 h8 h9 (relS_push (o := w.1) (by omega) t1 t3 (by omega) hq hv rfl) h11
    · refine ⟨_, _, by unfold f_X6_sand; rw [out0 ha, out1 hb, if_pos rfl, if_neg ne10], by unfold f_X7_sand; rw [in1 ha, in0 hb, if_neg ne10, if_pos rfl], ?_, ?_⟩
      · rfl
      · exact mkRel h1 h2 h3 h4 h5 h6 h7 h8 h9 ⟨n, hn, t1, t2, t3⟩ h11
  · refine ⟨_, _, by unfold f_X6_sand; rw [out1 ha, if_neg ne10], by unfold f_X7_sand; rw [in0 ha, if_pos rfl], ?_, ?_⟩
    · rfl
    · exact mkRel h1 h2 h3 h4 h5 h6 h7 h8 h9 ⟨n, hn, t1, t2, t3⟩ h11
theorem relY_push {yr : K5} {sp sy : Nat → Int32} {o' : K7} {tp hs : Nat → Int32} {n a b : Nat} (hn : n < 20) (h1 : yr = nI n) (h : ∀ j, j < n → sp j = tp j ∧ sy j = hs j ∧ (∃ q : Nat, q ≤ 999 ∧ sp j = nI q) ∧ ∃ q : Nat, q ≤ 999 ∧ sy j = nI q) (ha : a ≤ 999) (hb : b ≤ 999) (ho : o'.2.2.2.2.2.2.2.2.2.2.2 = nI (n + 1)) : relY (nI (n + 1)) (upd sp n (nI a)) (upd sy n (nI b)) o' (upd tp n (nI a)) (upd hs n (nI b)) := by
  refine ⟨n + 1, by omega, rfl, ho, fun j hj => ?_⟩
  unfold upd
  by_cases e : j = n
  · simp only [if_pos e]
    exact ⟨trivial, trivial, ⟨a, ha, rfl⟩, b, hb, rfl⟩
  · simp only [if_neg e]; exact h j (by omega)
set_option maxHeartbeats 4000000 in
theorem op_year {N : Nat} (hN : 400 < N) {u : CX} {w : CM} (hR : Rel u w) (a1 : Int32) (a2 : Int32) : ∃ (rx : Int32 × K5 × (Nat → Int32) × (Nat → Int32)) (rm : Int32 × K7 × (Nat → Int32) × (Nat → Int32)), f_X6_year u.1 u.2.2.2.2.2.2.2.2.2.2.2.2.2.2.2.2.2.1 u.2.2.2.2.2.2.2.2.2.2.2.2.2.2.2.2.2.2.1 u.2.2.2.2.2.2.2.2.2.2.2.2.2.2.2.2.2.2.2.1 a1 a2 = some rx ∧ f_X7_year w.1 w.2.2.2.2.2.2.2.2.2.2.2.2.2.2.2.2.2.1 w.2.2.2.2.2.2.2.2.2.2.2.2.2.2.2.2.2.2 a1 a2 = some rm ∧ rx.1 = rm.1 ∧ Rel (u.1, u.2.1, u.2.2.1, u.2.2.2.1, u.2.2.2.2.1, u.2.2.2.2.2.1, u.2.2.2.2.2.2.1, u.2.2.2.2.2.2.2.1, u.2.2.2.2.2.2.2.2.1, u.2.2.2.2.2.2.2.2.2.1, u.2.2.2.2.2.2.2.2.2.2.1, u.2.2.2.2.2.2.2.2.2.2.2.1, u.2.2.2.2.2.2.2.2.2.2.2.2.1, u.2.2.2.2.2.2.2.2.2.2.2.2.2.1, u.2.2.2.2.2.2.2.2.2.2.2.2.2.2.1, u.2.2.2.2.2.2.2.2.2.2.2.2.2.2.2.1, u.2.2.2.2.2.2.2.2.2.2.2.2.2.2.2.2.1, rx.2.1, rx.2.2.1, rx.2.2.2, u.2.2.2.2.2.2.2.2.2.2.2.2.2.2.2.2.2.2.2.2.1, u.2.2.2.2.2.2.2.2.2.2.2.2.2.2.2.2.2.2.2.2.2.1, u.2.2.2.2.2.2.2.2.2.2.2.2.2.2.2.2.2.2.2.2.2.2.1, u.2.2.2.2.2.2.2.2.2.2.2.2.2.2.2.2.2.2.2.2.2.2.2.1, u.2.2.2.2.2.2.2.2.2.2.2.2.2.2.2.2.2.2.2.2.2.2.2.2) (rm.2.1, w.2.1, w.2.2.1, w.2.2.2.1, w.2.2.2.2.1, w.2.2.2.2.2.1, w.2.2.2.2.2.2.1, w.2.2.2.2.2.2.2.1, w.2.2.2.2.2.2.2.2.1, w.2.2.2.2.2.2.2.2.2.1, w.2.2.2.2.2.2.2.2.2.2.1, w.2.2.2.2.2.2.2.2.2.2.2.1, w.2.2.2.2.2.2.2.2.2.2.2.2.1, w.2.2.2.2.2.2.2.2.2.2.2.2.2.1, w.2.2.2.2.2.2.2.2.2.2.2.2.2.2.1, w.2.2.2.2.2.2.2.2.2.2.2.2.2.2.2.1, w.2.2.2.2.2.2.2.2.2.2.2.2.2.2.2.2.1, rm.2.2.1, rm.2.2.2) := by
  obtain ⟨h1, h2, h3, h4, h5, h6, h7, h8, h9, h10, ⟨n, hn, t1, t2, t3⟩⟩ := id hR
  by_cases ha : (0 : Int32).toInt ≤ a1.toInt ∧ a1.toInt ≤ (999 : Int32).toInt
  · by_cases hb : (0 : Int32).toInt ≤ a2.toInt ∧ a2.toInt ≤ (999 : Int32).toInt
    · obtain ⟨q, hq, -, rfl⟩ := rng (n := 999) (by decide) (by decide) ha
      obtain ⟨v, hv, -, rfl⟩ := rng (n := 999) (by decide) (by decide) hb
      by_cases hf : n = 20
      · subst hf
        refine ⟨_, _, by unfold f_X6_year f_X5_add; rw [out0 ha, out0 hb, if_pos rfl, if_pos rfl, t1, if_neg (by decide)]; rfl, by unfold f_X7_year; rw [in1 ha, in1 hb, if_neg ne10, if_neg ne10, t2, if_pos (by decide)], ?_, ?_⟩
        · rfl
        · exact mkRel h1 h2 h3 h4 h5 h6 h7 h8 h9 h10 ⟨20, by omega, by exact rfl, t2, t3⟩
      · refine ⟨_, _, by unfold f_X6_year f_X5_add; rw [out0 ha, out0 hb, if_pos rfl, if_pos rfl, t1, if_pos (by rw [nlit, nlt] <;> omega), if_pos (xin_n (by omega) (by omega)), nI_clamp (by omega), nI_1]; rfl, by unfold f_X7_year; rw [in1 ha, in1 hb, if_neg ne10, if_neg ne10, t2, if_neg (by rw [nlit, nI_eq] <;> omega), if_pos (xin_n (by omega) (by omega)), nI_clamp (by omega), nI_1], ?_, ?_⟩
        · rfl
        · exact mkRel h1 h2 h3 h4 h5 h6 h7 h8 h9 h10 (relY_push (by omega) t1 t3 hq hv rfl)
    · refine ⟨_, _, by unfold f_X6_year; rw [out0 ha, out1 hb, if_pos rfl, if_neg ne10], by unfold f_X7_year; rw [in1 ha, in0 hb, if_neg ne10, if_pos rfl], ?_, ?_⟩
      · rfl
      · exact mkRel h1 h2 h3 h4 h5 h6 h7 h8 h9 h10 ⟨n, hn, t1, t2, t3⟩
  · refine ⟨_, _, by unfold f_X6_year; rw [out1 ha, if_neg ne10], by unfold f_X7_year; rw [in0 ha, if_pos rfl], ?_, ?_⟩
    · rfl
    · exact mkRel h1 h2 h3 h4 h5 h6 h7 h8 h9 h10 ⟨n, hn, t1, t2, t3⟩
