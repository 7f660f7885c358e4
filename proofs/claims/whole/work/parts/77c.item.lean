/-! one item: class and reference -/
theorem n9n {s : Nat} (h : s < 2 ^ 31) : ¬ nI s = -9 := nI_n9 h
theorem inLo {v i : Nat} (hv : v ≤ 100) (hi : i < 11) : (f_X6_outside (nI v) (sLEAST.getD i 0) (sMOST.getD i 0) = 0 ∧ f_X7_in (nI v) (f_X7_lowOf (nI i)) (f_X7_highOf (nI i)) = 1 ∧ (sLEAST.getD i 0).toInt ≤ (nI v).toInt ∧ (nI v).toInt ≤ (sMOST.getD i 0).toInt) ∨ (f_X6_outside (nI v) (sLEAST.getD i 0) (sMOST.getD i 0) = 1 ∧ f_X7_in (nI v) (f_X7_lowOf (nI i)) (f_X7_highOf (nI i)) = 0) := by
  obtain ⟨e1, e2⟩ := limits i hi
  rw [← e1, ← e2]
  by_cases c : (sLEAST.getD i 0).toInt ≤ (nI v).toInt ∧ (nI v).toInt ≤ (sMOST.getD i 0).toInt
  · exact Or.inl ⟨out0 c, in1 c, c⟩
  · exact Or.inr ⟨out1 c, in0 c⟩
set_option maxHeartbeats 4000000 in
theorem item_ok {n hi N : Nat} {bt : Nat → Nat} {tb text : Nat → Int32} {W : K7} (hN : 400 < N) (h : txB n bt tb text) (tx0 : K3) (hF1 : xin (tx0.2.2.2.2.1 + 1) 7 = true) (hF2 : sFIRST.getD ((tx0.2.2.2.2.1 + 1).toNatClampNeg) 0 = nI hi) (v3 : Int32 × Int32 × K7 × (Nat → Int32)) (v11 : Int32) (hb : v3.2.2.1.2.2.2.2.1 + v11 = nI hi) (hhi : hi ≤ 11) : ∀ (m idx : Nat) (tx : K3) (y : K4) (o : K7) (told : Nat → Int32) (p f6 f7 : Nat), idx + m = hi → m < f6 → m < f7 → tx.1 = nI n → tx.2.1 = nI p → p ≤ n → AH N text W o n p → VY y → RP (fun j => told (11 + j)) y →
    ∃ (ok : Int32) (tx' : K3) (y' : K4) (o' : K7) (told' : Nat → Int32), xlp (s_X3_readItem_48 N tx0 tb) f6 (nI idx, tx, y) = some (ok, tx', y') ∧ xlp (s_X7_pump_94 N text v3 v11) f7 (nI idx, o, told) = some (nI hi, o', told') ∧ tx'.1 = nI n ∧ tx'.2.2.2.2.2 = tx.2.2.2.2.2 ∧ (∀ j, j < 11 → told' j = told j) ∧ KP W o' n ∧
      ((ok = 1 ∧ o'.2.2.2.2.1 = 22 ∧ k7f o' = -9 ∧ VY y' ∧ RP (fun j => told' (11 + j)) y' ∧ ∃ e, e ≤ n ∧ tx'.2.1 = nI e ∧ o'.2.2.1 = nI e) ∨
       (ok = 0 ∧ ∃ s, s ≤ n ∧ tx'.2.2.1 = nI s ∧ (k7f o' = nI s ∨ (k7f o' = -9 ∧ ¬ o'.2.2.2.2.1 = 22 ∧ o'.2.2.2.1 = nI s))))
  | 0, idx, tx, y, o, told, p, f6, f7, h1, h2, h3, t1, t2, t3, hA, hy, hp => by
    have hn := h.1
    have e : idx = hi := by omega
    subst e
    obtain ⟨k6, rfl⟩ : ∃ k, f6 = k + 1 := ⟨f6 - 1, by omega⟩
    obtain ⟨k7, rfl⟩ : ∃ k, f7 = k + 1 := ⟨f7 - 1, by omega⟩
    obtain ⟨o0, kp, oa, of, on⟩ := hA
    obtain ⟨s, e6, e7, kd, vl, sr, vr, g6, g7, s1, s2, hc⟩ := tok_ok (tx := tx) (o := o0) hN h t1 t2 kp.2.1 oa t3
    obtain rfl := Option.some.inj (on.symm.trans g7)
    have st7 : s_X7_pump_94 N text v3 v11 (nI idx, (o0.1, nI n, nI e7, nI s, sr, vr, o0.2.2.2.2.2.2.1, o0.2.2.2.2.2.2.2.1, o0.2.2.2.2.2.2.2.2.1, o0.2.2.2.2.2.2.2.2.2.1, o0.2.2.2.2.2.2.2.2.2.2.1, o0.2.2.2.2.2.2.2.2.2.2.2), told) = some (.inr (nI idx, (o0.1, nI n, nI e7, nI s, sr, vr, o0.2.2.2.2.2.2.1, o0.2.2.2.2.2.2.2.1, o0.2.2.2.2.2.2.2.2.1, o0.2.2.2.2.2.2.2.2.2.1, o0.2.2.2.2.2.2.2.2.2.2.1, o0.2.2.2.2.2.2.2.2.2.2.2), told)) := by
      unfold s_X7_pump_94
      rw [hb]
      exact if_pos (by show nI idx ≤ nI idx; rw [nle] <;> omega)
    have st6 : s_X3_readItem_48 N tx0 tb (nI idx, tx, y) = some (.inr (if kd = 3 then 1 else 0, (nI n, nI e6, nI s, kd, vl, tx.2.2.2.2.2), y)) := by
      unfold s_X3_readItem_48
      rw [if_pos hF1, hF2]
      show (if nI idx ≤ nI idx then _ else _) = _
      rw [if_pos (by rw [nle] <;> omega)]
      show (Option.bind (f_X3_nextToken N tx tb) _) = _
      rw [g6, Option.bind_some]
      show (if kd = 3 then _ else _) = _
      by_cases c : kd = 3
      · rw [if_pos c, if_pos c]
      · rw [if_neg c, if_neg c]
    refine ⟨if kd = 3 then 1 else 0, (nI n, nI e6, nI s, kd, vl, tx.2.2.2.2.2), y, (o0.1, nI n, nI e7, nI s, sr, vr, o0.2.2.2.2.2.2.1, o0.2.2.2.2.2.2.2.1, o0.2.2.2.2.2.2.2.2.1, o0.2.2.2.2.2.2.2.2.2.1, o0.2.2.2.2.2.2.2.2.2.2.1, o0.2.2.2.2.2.2.2.2.2.2.2), told, by rw [xlp, st6]; rfl, by rw [xlp, st7]; rfl, rfl, rfl, fun _ _ => rfl, ⟨kp.1, rfl, kp.2.2.1, kp.2.2.2.1, kp.2.2.2.2⟩, ?_⟩
    have bad : ¬ kd = 3 → ¬ sr = 22 → (((if kd = 3 then 1 else 0 : Int32) = 1 ∧ sr = 22 ∧ o0.2.2.2.2.2.2.1 = -9 ∧ VY y ∧ RP (fun j => told (11 + j)) y ∧ ∃ e, e ≤ n ∧ nI e6 = nI e ∧ nI e7 = nI e) ∨ ((if kd = 3 then 1 else 0 : Int32) = 0 ∧ ∃ q, q ≤ n ∧ nI s = nI q ∧ (o0.2.2.2.2.2.2.1 = nI q ∨ (o0.2.2.2.2.2.2.1 = -9 ∧ ¬ sr = 22 ∧ nI s = nI q)))) := fun c1 c2 => Or.inr ⟨if_neg c1, s, s2, rfl, Or.inr ⟨of, c2, rfl⟩⟩
    rcases hc with ⟨c1, c2⟩ | ⟨c1, c2, c3, c4⟩ | ⟨c1, c2, -⟩ | ⟨c1, -, -, j, hj, -, c2⟩ | ⟨c1, c2⟩
    · exact bad (by rw [c1]; decide) (by rw [c2]; decide)
    · exact Or.inl ⟨if_pos c1, c2, of, hy, hp, e6, c4, rfl, by rw [c3]⟩
    · exact bad (by rw [c1]; decide) (by rw [c2]; decide)
    · refine bad (by rw [c1]; decide) ?_
      rw [c2]
      rcases (show j = 0 ∨ j = 1 ∨ j = 2 ∨ j = 3 ∨ j = 4 ∨ j = 5 by omega) with rfl | rfl | rfl | rfl | rfl | rfl <;> decide
    · exact bad (by rw [c1]; decide) (by rw [c2]; decide)
  | m + 1, idx, tx, y, o, told, p, f6, f7, h1, h2, h3, t1, t2, t3, hA, hy, hp => by
    have hn := h.1
    obtain ⟨k6, rfl⟩ : ∃ k, f6 = k + 1 := ⟨f6 - 1, by omega⟩
    obtain ⟨k7, rfl⟩ : ∃ k, f7 = k + 1 := ⟨f7 - 1, by omega⟩
    obtain ⟨o0, kp, oa, of, on⟩ := hA
    obtain ⟨s, e6, e7, kd, vl, sr, vr, g6, g7, s1, s2, hc⟩ := tok_ok (tx := tx) (o := o0) hN h t1 t2 kp.2.1 oa t3
    obtain rfl := Option.some.inj (on.symm.trans g7)
    have hi11 : idx < 11 := by omega
    have c6 : ∀ z, (if kd = 2 then (if xin (nI idx) 11 = true then (Option.bind (some (f_X6_outside vl (sLEAST.getD (nI idx).toNatClampNeg 0) (sMOST.getD (nI idx).toNatClampNeg 0))) fun r12 => if r12 = 0 then (Option.bind (some (f_X4_put y (nI idx) vl)) fun r14 => some (Sum.inl (nI idx + 1, (nI n, nI e6, nI s, kd, vl, tx.2.2.2.2.2), r14))) else some (Sum.inr (0, (nI n, nI e6, nI s, kd, vl, tx.2.2.2.2.2), y))) else none) else some (Sum.inr (0, (nI n, nI e6, nI s, kd, vl, tx.2.2.2.2.2), y)) : Option ((Int32 × K3 × K4) ⊕ (Int32 × K3 × K4))) = z → s_X3_readItem_48 N tx0 tb (nI idx, tx, y) = z := by
      intro z hz
      unfold s_X3_readItem_48
      rw [if_pos hF1, hF2]
      show (if nI hi ≤ nI idx then _ else _) = _
      rw [if_neg (by rw [nle] <;> omega)]
      show (Option.bind (f_X3_nextToken N tx tb) _) = _
      rw [g6, Option.bind_some]
      exact hz
    have badR : ∀ q : Int32, (if sr = 21 then ((some (f_X7_in vr (f_X7_lowOf (nI idx)) (f_X7_highOf (nI idx))) : Option Int32).bind fun r15 => if r15 = 0 then some 0 else some 1) else some 0 : Option Int32) = some 0 → q = q → xlp (s_X7_pump_94 N text v3 v11) (k7 + 1) (nI idx, (o0.1, nI n, nI e7, nI s, sr, vr, o0.2.2.2.2.2.2.1, o0.2.2.2.2.2.2.2.1, o0.2.2.2.2.2.2.2.2.1, o0.2.2.2.2.2.2.2.2.2.1, o0.2.2.2.2.2.2.2.2.2.2.1, o0.2.2.2.2.2.2.2.2.2.2.2), told) = some (nI hi, (o0.1, nI n, nI e7, nI s, sr, vr, nI s, o0.2.2.2.2.2.2.2.1, o0.2.2.2.2.2.2.2.2.1, o0.2.2.2.2.2.2.2.2.2.1, o0.2.2.2.2.2.2.2.2.2.2.1, o0.2.2.2.2.2.2.2.2.2.2.2), told) := by
      intro q e17 _
      have st : s_X7_pump_94 N text v3 v11 (nI idx, (o0.1, nI n, nI e7, nI s, sr, vr, o0.2.2.2.2.2.2.1, o0.2.2.2.2.2.2.2.1, o0.2.2.2.2.2.2.2.2.1, o0.2.2.2.2.2.2.2.2.2.1, o0.2.2.2.2.2.2.2.2.2.2.1, o0.2.2.2.2.2.2.2.2.2.2.2), told) = some (.inl (nI (idx + 1), (o0.1, nI n, nI e7, nI s, sr, vr, nI s, o0.2.2.2.2.2.2.2.1, o0.2.2.2.2.2.2.2.2.1, o0.2.2.2.2.2.2.2.2.2.1, o0.2.2.2.2.2.2.2.2.2.2.1, o0.2.2.2.2.2.2.2.2.2.2.2), told)) := by
        unfold s_X7_pump_94
        rw [hb]
        show (if nI hi ≤ nI idx then _ else (Option.bind (if sr = 21 then _ else some 0) _)) = _
        rw [if_neg (by rw [nle] <;> omega), e17, Option.bind_some]
        show (Option.bind (f_X7_due N (o0.1, nI n, nI e7, nI s, sr, vr, o0.2.2.2.2.2.2.1, o0.2.2.2.2.2.2.2.1, o0.2.2.2.2.2.2.2.2.1, o0.2.2.2.2.2.2.2.2.2.1, o0.2.2.2.2.2.2.2.2.2.2.1, o0.2.2.2.2.2.2.2.2.2.2.2) text 0) _) = _
        rw [due0 (o := (o0.1, nI n, nI e7, nI s, sr, vr, o0.2.2.2.2.2.2.1, o0.2.2.2.2.2.2.2.1, o0.2.2.2.2.2.2.2.2.1, o0.2.2.2.2.2.2.2.2.2.1, o0.2.2.2.2.2.2.2.2.2.2.1, o0.2.2.2.2.2.2.2.2.2.2.2)) of, Option.bind_some]
        show (if nI s = -9 then _ else some (Sum.inl (nI idx + 1, (o0.1, nI n, nI e7, nI s, sr, vr, nI s, o0.2.2.2.2.2.2.2.1, o0.2.2.2.2.2.2.2.2.1, o0.2.2.2.2.2.2.2.2.2.1, o0.2.2.2.2.2.2.2.2.2.2.1, o0.2.2.2.2.2.2.2.2.2.2.2), told))) = _
        rw [if_neg (n9n (by omega)), nI_1]
      rw [xlp, st]
      exact rest94 v3 v11 told hb (o := (o0.1, nI n, nI e7, nI s, sr, vr, nI s, o0.2.2.2.2.2.2.2.1, o0.2.2.2.2.2.2.2.2.1, o0.2.2.2.2.2.2.2.2.2.1, o0.2.2.2.2.2.2.2.2.2.2.1, o0.2.2.2.2.2.2.2.2.2.2.2)) (n9n (by omega)) m (idx + 1) k7 (by omega) hhi (by omega)
    have bad : s_X3_readItem_48 N tx0 tb (nI idx, tx, y) = some (.inr (0, (nI n, nI e6, nI s, kd, vl, tx.2.2.2.2.2), y)) → (if sr = 21 then ((some (f_X7_in vr (f_X7_lowOf (nI idx)) (f_X7_highOf (nI idx))) : Option Int32).bind fun r15 => if r15 = 0 then some 0 else some 1) else some 0 : Option Int32) = some 0 → ∃ (ok : Int32) (tx' : K3) (y' : K4) (o' : K7) (told' : Nat → Int32), xlp (s_X3_readItem_48 N tx0 tb) (k6 + 1) (nI idx, tx, y) = some (ok, tx', y') ∧ xlp (s_X7_pump_94 N text v3 v11) (k7 + 1) (nI idx, (o0.1, nI n, nI e7, nI s, sr, vr, o0.2.2.2.2.2.2.1, o0.2.2.2.2.2.2.2.1, o0.2.2.2.2.2.2.2.2.1, o0.2.2.2.2.2.2.2.2.2.1, o0.2.2.2.2.2.2.2.2.2.2.1, o0.2.2.2.2.2.2.2.2.2.2.2), told) = some (nI hi, o', told') ∧ tx'.1 = nI n ∧ tx'.2.2.2.2.2 = tx.2.2.2.2.2 ∧ (∀ j, j < 11 → told' j = told j) ∧ KP W o' n ∧ ((ok = 1 ∧ o'.2.2.2.2.1 = 22 ∧ k7f o' = -9 ∧ VY y' ∧ RP (fun j => told' (11 + j)) y' ∧ ∃ e, e ≤ n ∧ tx'.2.1 = nI e ∧ o'.2.2.1 = nI e) ∨ (ok = 0 ∧ ∃ s, s ≤ n ∧ tx'.2.2.1 = nI s ∧ (k7f o' = nI s ∨ (k7f o' = -9 ∧ ¬ o'.2.2.2.2.1 = 22 ∧ o'.2.2.2.1 = nI s)))) := fun st6 e17 =>
      ⟨0, (nI n, nI e6, nI s, kd, vl, tx.2.2.2.2.2), y, (o0.1, nI n, nI e7, nI s, sr, vr, nI s, o0.2.2.2.2.2.2.2.1, o0.2.2.2.2.2.2.2.2.1, o0.2.2.2.2.2.2.2.2.2.1, o0.2.2.2.2.2.2.2.2.2.2.1, o0.2.2.2.2.2.2.2.2.2.2.2), told, by rw [xlp, st6]; rfl, badR 0 e17 rfl, rfl, rfl, fun _ _ => rfl, ⟨kp.1, rfl, kp.2.2.1, kp.2.2.2.1, kp.2.2.2.2⟩, Or.inr ⟨rfl, s, s2, rfl, Or.inl rfl⟩⟩
    have nosr : ∀ j, j < 6 → ¬ nI (sloN j) = 21 := by decide
    rcases hc with ⟨c1, c2⟩ | ⟨c1, c2, -⟩ | ⟨c1, c2, c3, c4, c5, v, hv, c7⟩ | ⟨c1, -, -, j, hj, -, c2⟩ | ⟨c1, c2⟩
    · exact bad (c6 _ (by rw [c1]; exact if_neg (by decide))) (by rw [c2]; exact if_neg (by decide))
    · exact bad (c6 _ (by rw [c1]; exact if_neg (by decide))) (by rw [c2]; exact if_neg (by decide))
    · subst c1; subst c2; subst c3; subst c5; subst c7
      rcases inLo hv hi11 with ⟨i1, i2, i3⟩ | ⟨i1, i2⟩
      · have st6 : s_X3_readItem_48 N tx0 tb (nI idx, tx, y) = some (.inl (nI (idx + 1), (nI n, nI e6, nI s, 2, nI v, tx.2.2.2.2.2), f_X4_put y (nI idx) (nI v))) := c6 _ (by
          rw [if_pos rfl, if_pos (xin_n (by omega) (by omega)), nI_clamp (by omega), i1, Option.bind_some, if_pos rfl, Option.bind_some, nI_1])
        obtain ⟨s', e6', e7', kd', vl', sr', vr', -, g7', -, -, -⟩ := tok_ok (tx := (nI n, nI e6, nI s, 2, nI v, tx.2.2.2.2.2)) (o := (o0.1, nI n, nI e6, nI s, 21, nI v, o0.2.2.2.2.2.2.1, o0.2.2.2.2.2.2.2.1, o0.2.2.2.2.2.2.2.2.1, o0.2.2.2.2.2.2.2.2.2.1, o0.2.2.2.2.2.2.2.2.2.2.1, o0.2.2.2.2.2.2.2.2.2.2.2)) hN h rfl rfl rfl rfl c4
        obtain ⟨R, gR, fR⟩ : ∃ R, f_X7_next N (o0.1, nI n, nI e6, nI s, 21, nI v, o0.2.2.2.2.2.2.1, o0.2.2.2.2.2.2.2.1, o0.2.2.2.2.2.2.2.2.1, o0.2.2.2.2.2.2.2.2.2.1, o0.2.2.2.2.2.2.2.2.2.2.1, o0.2.2.2.2.2.2.2.2.2.2.2) text = some R ∧ k7f R = -9 := ⟨_, g7', of⟩
        have hA' : AH N text W R n e6 := ⟨(o0.1, nI n, nI e6, nI s, 21, nI v, o0.2.2.2.2.2.2.1, o0.2.2.2.2.2.2.2.1, o0.2.2.2.2.2.2.2.2.1, o0.2.2.2.2.2.2.2.2.2.1, o0.2.2.2.2.2.2.2.2.2.2.1, o0.2.2.2.2.2.2.2.2.2.2.2), ⟨kp.1, rfl, kp.2.2.1, kp.2.2.2.1, kp.2.2.2.2⟩, rfl, of, gR⟩
        have st7 : s_X7_pump_94 N text v3 v11 (nI idx, (o0.1, nI n, nI e6, nI s, 21, nI v, o0.2.2.2.2.2.2.1, o0.2.2.2.2.2.2.2.1, o0.2.2.2.2.2.2.2.2.1, o0.2.2.2.2.2.2.2.2.2.1, o0.2.2.2.2.2.2.2.2.2.2.1, o0.2.2.2.2.2.2.2.2.2.2.2), told) = some (.inl (nI (idx + 1), R, upd told (11 + idx) (nI v))) := by
          unfold s_X7_pump_94
          rw [hb]
          show (if nI hi ≤ nI idx then _ else (Option.bind (if (21 : Int32) = 21 then _ else some 0) _)) = _
          rw [if_neg (by rw [nle] <;> omega), if_pos rfl]
          show (Option.bind (Option.bind (some (f_X7_in (nI v) (f_X7_lowOf (nI idx)) (f_X7_highOf (nI idx)))) _) _) = _
          rw [i2, Option.bind_some, if_neg ne10, Option.bind_some]
          show (Option.bind (f_X7_due N (o0.1, nI n, nI e6, nI s, 21, nI v, o0.2.2.2.2.2.2.1, o0.2.2.2.2.2.2.2.1, o0.2.2.2.2.2.2.2.2.1, o0.2.2.2.2.2.2.2.2.2.1, o0.2.2.2.2.2.2.2.2.2.2.1, o0.2.2.2.2.2.2.2.2.2.2.2) text 1) _) = _
          rw [due1 (o := (o0.1, nI n, nI e6, nI s, 21, nI v, o0.2.2.2.2.2.2.1, o0.2.2.2.2.2.2.2.1, o0.2.2.2.2.2.2.2.2.1, o0.2.2.2.2.2.2.2.2.2.1, o0.2.2.2.2.2.2.2.2.2.2.1, o0.2.2.2.2.2.2.2.2.2.2.2)) of gR, Option.bind_some]
          show (if k7f R = -9 then (if xin (11 + nI idx) 22 = true then _ else none) else _) = _
          rw [if_pos fR, show (11 : Int32) + nI idx = nI (11 + idx) by rw [show (11 : Int32) = nI 11 from rfl, nI_add], if_pos (xin_n (by omega) (by omega)), nI_clamp (by omega), nI_1]
        obtain ⟨ok, tx', y', o', told', r1, r2, r3, r4, r5, r6, r7⟩ := item_ok hN h tx0 hF1 hF2 v3 v11 hb hhi m (idx + 1) (nI n, nI e6, nI s, 2, nI v, tx.2.2.2.2.2) (f_X4_put y (nI idx) (nI v)) R (upd told (11 + idx) (nI v)) e6 k6 k7 (by omega) (by omega) (by omega) rfl rfl c4 hA' (put_VY hy hi11 i3) (put_RP hp hi11 (nI v))
        refine ⟨ok, tx', y', o', told', by rw [xlp, st6]; exact r1, by rw [xlp, st7]; exact r2, r3, r4, fun j hj => ?_, r6, r7⟩
        rw [r5 j hj]
        unfold upd
        rw [if_neg (by omega)]
      · exact bad (c6 _ (by rw [if_pos rfl, if_pos (xin_n (by omega) (by omega)), nI_clamp (by omega), i1, Option.bind_some, if_neg ne10])) (by rw [if_pos rfl, i2, Option.bind_some, if_pos rfl])
    · exact bad (c6 _ (by rw [c1]; exact if_neg (by decide))) (by rw [c2]; exact if_neg (nosr j hj))
    · exact bad (c6 _ (by rw [c1]; exact if_neg (by decide))) (by rw [c2]; exact if_neg (by decide))
