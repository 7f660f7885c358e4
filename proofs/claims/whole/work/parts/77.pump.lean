/-! the pump's text: numbers of the loops -/
theorem beUntold4 (a : K4) {N : Nat} (hN : 400 < N) : f_X4_beUntold N a = some (40, 10, 26, 20, 10, 0, 99, 0, 100, 0, 0) := by
  obtain ⟨v, e1, e2⟩ := xlp_rel (st := s_X4_beUntold_2) (fun i v => v.1 = nI i ∧ v.2 = mixK i a (40, 10, 26, 20, 10, 0, 99, 0, 100, 0, 0)) 11 (fun v => v.2 = (40, 10, 26, 20, 10, 0, 99, 0, 100, 0, 0)) (n := N) (x := (0, a))
    (fun i x hi ⟨a1, a2⟩ => by
      have hg : ∀ j, j < 11 → sUNTOLD.getD j 0 = f_X4_get (40, 10, 26, 20, 10, 0, 99, 0, 100, 0, 0) (nI j) := by decide +kernel
      refine Or.inl ⟨(nI (i + 1), mixK (i + 1) a (40, 10, 26, 20, 10, 0, 99, 0, 100, 0, 0)), ?_, rfl, rfl⟩
      unfold s_X4_beUntold_2
      rw [a1, a2, if_neg (by rw [nlit, nle] <;> omega), if_pos (xin_n (by omega) (by omega)), nI_clamp (by omega), hg i hi, Option.bind_some, mixK_s a _ i hi, nI_1])
    (fun x ⟨a1, a2⟩ => ⟨x, by unfold s_X4_beUntold_2; rw [a1, if_pos (by rw [nlit, nle] <;> omega), ← a1], by rw [a2]; rfl⟩) (by omega) ⟨rfl, rfl⟩
  unfold f_X4_beUntold
  rw [e1, Option.bind_some, e2]
theorem untold_VY : VY (40, 10, 26, 20, 10, 0, 99, 0, 100, 0, 0) := by unfold VY; decide
theorem tellPlain_eq (o : K7) (told : Nat → Int32) : ∃ t', f_X7_tellPlain o told 11 = some t' ∧ RP (fun j => t' (11 + j)) (40, 10, 26, 20, 10, 0, 99, 0, 100, 0, 0) ∧ ∀ j, j < 11 → t' j = told j := by
  unfold f_X7_tellPlain
  rw [if_pos (by decide), if_pos (by decide), if_pos (by decide), if_pos (by decide), if_pos (by decide), if_pos (by decide), if_pos (by decide), if_pos (by decide), if_pos (by decide), if_pos (by decide), if_pos (by decide)]
  have c : ∀ k, k < 11 → ((11 : Int32) + nI k).toNatClampNeg = 11 + k := by decide +kernel
  have c0 := c 0 (by omega); have c1 := c 1 (by omega); have c2 := c 2 (by omega); have c3 := c 3 (by omega); have c4 := c 4 (by omega); have c5 := c 5 (by omega); have c6 := c 6 (by omega); have c7 := c 7 (by omega); have c8 := c 8 (by omega); have c9 := c 9 (by omega); have c10 := c 10 (by omega)
  refine ⟨_, rfl, ⟨rfl, rfl, rfl, rfl, rfl, rfl, rfl, rfl, rfl, rfl, rfl⟩, fun j hj => ?_⟩
  rcases (show j = 0 ∨ j = 1 ∨ j = 2 ∨ j = 3 ∨ j = 4 ∨ j = 5 ∨ j = 6 ∨ j = 7 ∨ j = 8 ∨ j = 9 ∨ j = 10 by omega) with rfl | rfl | rfl | rfl | rfl | rfl | rfl | rfl | rfl | rfl | rfl <;> rfl
/-- the items done, as a number below 64: how many, and the reference's mask -/
def bitD (d j : Nat) : Nat := d / 2 ^ j % 2
def cntD (d : Nat) : Nat := bitD d 0 + bitD d 1 + bitD d 2 + bitD d 3 + bitD d 4 + bitD d 5
def refD (d : Nat) : Nat := bitD d 0 + 4 * bitD d 1 + 32 * bitD d 2 + 64 * bitD d 3 + 256 * bitD d 4 + 512 * bitD d 5
theorem maskF : ∀ d, d < 64 → ∀ j, j < 6 → (decide ((nI d >>> (nI j &&& 31)) &&& 1 = 1) = decide (bitD d j = 1)) ∧ (decide ((nI (refD d) >>> (nI (sloN j) &&& 31)) &&& 1 = 0) = decide (bitD d j = 0)) ∧ (bitD d j = 0 → (nI d ||| (1 <<< (nI j &&& 31))) = nI (d + 2 ^ j) ∧ (nI (refD d) ||| (1 <<< (nI (sloN j) &&& 31))) = nI (refD (d + 2 ^ j)) ∧ cntD (d + 2 ^ j) = cntD d + 1 ∧ d + 2 ^ j < 64) := by decide +kernel
theorem cntD_le : ∀ d, d < 64 → cntD d ≤ 6 := by decide +kernel
theorem slots : ∀ j, j < 6 → sFIRST.getD j 0 = nI (sloN j) ∧ sFIRST.getD (j + 1) 0 = nI (sloN j) + f_X7_manyOf (nI (sloN j)) := by decide +kernel
theorem limits : ∀ i, i < 11 → sLEAST.getD i 0 = f_X7_lowOf (nI i) ∧ sMOST.getD i 0 = f_X7_highOf (nI i) := by decide +kernel
/-- the reference's next told rows, copied -/
theorem copy230 (t0 : Nat → Int32) {y : K4} {N : Nat} (hN : 400 < N) (h : RP (fun j => t0 (11 + j)) y) : ∃ v, xlp s_X7_pump_230 N (0, t0) = some v ∧ RP v.2 y := by
  obtain ⟨v, e1, e2, e3⟩ := xlp_rel (st := s_X7_pump_230) (fun i v => v.1 = nI i ∧ (∀ j, j < i → v.2 j = t0 (11 + j)) ∧ ∀ j, 11 ≤ j → v.2 j = t0 j) 11 (fun v => (∀ j, j < 11 → v.2 j = t0 (11 + j)) ∧ ∀ j, 11 ≤ j → v.2 j = t0 j) (n := N) (x := (0, t0))
    (fun i x hi ⟨a1, a2, a3⟩ => by
      have m : (11 : Int32) + nI i = nI (11 + i) := by rw [show (11 : Int32) = nI 11 from rfl, nI_add]
      refine Or.inl ⟨(nI (i + 1), upd x.2 i (x.2 (11 + i))), ?_, rfl, fun j hj => ?_, fun j hj => ?_⟩
      · unfold s_X7_pump_230
        rw [a1, if_neg (by rw [nlit, nle] <;> omega), m, if_pos (xin_n (by omega) (by omega)), if_pos (xin_n (by omega) (by omega)), nI_clamp (by omega), nI_clamp (by omega), nI_1]
      · show upd x.2 i (x.2 (11 + i)) j = _
        unfold upd
        by_cases e : j = i
        · rw [if_pos e, e]; exact a3 (11 + i) (by omega)
        · rw [if_neg e]; exact a2 j (by omega)
      · show upd x.2 i (x.2 (11 + i)) j = _
        unfold upd
        rw [if_neg (by omega)]; exact a3 j hj)
    (fun x ⟨a1, a2, a3⟩ => ⟨x, by unfold s_X7_pump_230; rw [a1, if_pos (by rw [nlit, nle] <;> omega), ← a1], a2, a3⟩) (by omega) ⟨rfl, fun j hj => by omega, fun _ _ => rfl⟩
  exact ⟨v, e1, RP_of e2 h⟩
/-- put at a slot, in class and reference -/
theorem put_RP {t0 : Nat → Int32} {y : K4} (h : RP (fun j => t0 (11 + j)) y) {i : Nat} (hi : i < 11) (v : Int32) : RP (fun j => upd t0 (11 + i) v (11 + j)) (f_X4_put y (nI i) v) := by
  obtain ⟨p0, p1, p2, p3, p4, p5, p6, p7, p8, p9, p10⟩ := h
  rcases (show i = 0 ∨ i = 1 ∨ i = 2 ∨ i = 3 ∨ i = 4 ∨ i = 5 ∨ i = 6 ∨ i = 7 ∨ i = 8 ∨ i = 9 ∨ i = 10 by omega) with rfl | rfl | rfl | rfl | rfl | rfl | rfl | rfl | rfl | rfl | rfl
  · exact ⟨rfl, p1, p2, p3, p4, p5, p6, p7, p8, p9, p10⟩
  · exact ⟨p0, rfl, p2, p3, p4, p5, p6, p7, p8, p9, p10⟩
  · exact ⟨p0, p1, rfl, p3, p4, p5, p6, p7, p8, p9, p10⟩
  · exact ⟨p0, p1, p2, rfl, p4, p5, p6, p7, p8, p9, p10⟩
  · exact ⟨p0, p1, p2, p3, rfl, p5, p6, p7, p8, p9, p10⟩
  · exact ⟨p0, p1, p2, p3, p4, rfl, p6, p7, p8, p9, p10⟩
  · exact ⟨p0, p1, p2, p3, p4, p5, rfl, p7, p8, p9, p10⟩
  · exact ⟨p0, p1, p2, p3, p4, p5, p6, rfl, p8, p9, p10⟩
  · exact ⟨p0, p1, p2, p3, p4, p5, p6, p7, rfl, p9, p10⟩
  · exact ⟨p0, p1, p2, p3, p4, p5, p6, p7, p8, rfl, p10⟩
  · exact ⟨p0, p1, p2, p3, p4, p5, p6, p7, p8, p9, rfl⟩
theorem put_VY {y : K4} (hy : VY y) {i : Nat} (hi : i < 11) {v : Int32} (h : (sLEAST.getD i 0).toInt ≤ v.toInt ∧ v.toInt ≤ (sMOST.getD i 0).toInt) : VY (f_X4_put y (nI i) v) := by
  obtain ⟨y0, y1, y2, y3, y4, y5, y6, y7, y8, y9, y10⟩ := hy
  rcases (show i = 0 ∨ i = 1 ∨ i = 2 ∨ i = 3 ∨ i = 4 ∨ i = 5 ∨ i = 6 ∨ i = 7 ∨ i = 8 ∨ i = 9 ∨ i = 10 by omega) with rfl | rfl | rfl | rfl | rfl | rfl | rfl | rfl | rfl | rfl | rfl
  · exact ⟨h, y1, y2, y3, y4, y5, y6, y7, y8, y9, y10⟩
  · exact ⟨y0, h, y2, y3, y4, y5, y6, y7, y8, y9, y10⟩
  · exact ⟨y0, y1, h, y3, y4, y5, y6, y7, y8, y9, y10⟩
  · exact ⟨y0, y1, y2, h, y4, y5, y6, y7, y8, y9, y10⟩
  · exact ⟨y0, y1, y2, y3, h, y5, y6, y7, y8, y9, y10⟩
  · exact ⟨y0, y1, y2, y3, y4, h, y6, y7, y8, y9, y10⟩
  · exact ⟨y0, y1, y2, y3, y4, y5, h, y7, y8, y9, y10⟩
  · exact ⟨y0, y1, y2, y3, y4, y5, y6, h, y8, y9, y10⟩
  · exact ⟨y0, y1, y2, y3, y4, y5, y6, y7, h, y9, y10⟩
  · exact ⟨y0, y1, y2, y3, y4, y5, y6, y7, y8, h, y10⟩
  · exact ⟨y0, y1, y2, y3, y4, y5, y6, y7, y8, y9, h⟩
