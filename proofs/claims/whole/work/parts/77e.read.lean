/-! the whole text: one round, then all -/
set_option maxHeartbeats 1000000 in
theorem read_step {n N : Nat} {bt : Nat → Nat} {tb text : Nat → Int32} {W : K7} (hN : 400 < N) (h : txB n bt tb text) {d : Nat} (hd : d < 64) (tx : K3) (y : K4) (o : K7) (told : Nat → Int32) (p f6 f7 : Nat) (hf6 : 1 < f6) (hf7 : 2 < f7) (t1 : tx.1 = nI n) (t2 : tx.2.1 = nI p) (t3 : tx.2.2.2.2.2 = nI d) (hp : p ≤ n) (hA : AH N text W o n p) (hy : VY y) (hr : RP (fun j => told (11 + j)) y)
    (ih : ∀ (d' : Nat) (tx' : K3) (y' : K4) (o' : K7) (told' : Nat → Int32) (p' : Nat), d' < 64 → cntD d' = cntD d + 1 → tx'.1 = nI n → tx'.2.1 = nI p' → tx'.2.2.2.2.2 = nI d' → p' ≤ n → AH N text W o' n p' → VY y' → RP (fun j => told' (11 + j)) y' → RO N n tb text W d' tx' y' o' told' (f6 - 1) (f7 - 1)) : RO N n tb text W d tx y o told f6 f7 := by
  have hn := h.1
  have hc6 := cntD_le d hd
  obtain ⟨o0, kp, oa, of, on⟩ := hA
  obtain ⟨s, e6, e7, kd, vl, sr, vr, g6, g7, s1, s2, hc⟩ := tok_ok (tx := tx) (o := o0) hN h t1 t2 kp.2.1 oa hp
  have eo := Option.some.inj (on.symm.trans g7)
  have kpo : KP W o n := by rw [eo]; exact ⟨kp.1, rfl, kp.2.2.1, kp.2.2.2.1, kp.2.2.2.2⟩
  have fo : k7f o = -9 := by rw [eo]; exact of
  have po : o.2.2.1 = nI e7 := by rw [eo]
  have so : o.2.2.2.1 = nI s := by rw [eo]
  have ro : o.2.2.2.2.1 = sr := by rw [eo]
  clear eo g7 on of oa kp
  rw [t3] at g6
  have st6 : ∀ z, (if kd = 0 then some (Sum.inr (nI (cntD d), (nI n, nI e6, nI s, kd, vl, nI d), y)) else Option.bind (f_X3_readItem N (nI n, nI e6, nI s, kd, vl, nI d) tb y) fun r6 => if r6.1 = 0 then some (Sum.inr ((-10) - r6.2.1.2.2.1, r6.2.1, r6.2.2)) else some (Sum.inl (nI (cntD d) + 1, r6.2.1, r6.2.2)) : Option ((Int32 × K3 × K4) ⊕ (Int32 × K3 × K4))) = z → s_X3_read_16 N tb (nI (cntD d), tx, y) = z := by
    intro z hz
    unfold s_X3_read_16
    show (if 6 < nI (cntD d) then _ else Option.bind (f_X3_nextToken N tx tb) _) = _
    rw [if_neg (by rw [nlit, nlt] <;> omega), g6, Option.bind_some]
    exact hz
  have bad : ¬ kd = 0 → f_X3_readItem N (nI n, nI e6, nI s, kd, vl, nI d) tb y = some (0, (nI n, nI e6, nI s, kd, vl, nI d), y) → ¬ sr = 20 → (if 20 ≤ sr then some 0 else if ((nI (refD d) >>> (sr &&& 31)) &&& 1) = 0 then some 1 else some 0 : Option Int32) = some 0 → RO N n tb text W d tx y o told f6 f7 := fun c1 c2 c3 c4 => by
    obtain ⟨mk, st7⟩ := bad25 (N := N) (s := s) (text := text) (v3 := (nI (cntD d), nI (refD d), o, told)) (by omega) (by omega) fo so (by show ¬ o.2.2.2.2.1 = 20; rw [ro]; exact c3) (by show (if 20 ≤ o.2.2.2.2.1 then some 0 else if ((nI (refD d) >>> (o.2.2.2.2.1 &&& 31)) &&& 1) = 0 then some 1 else some 0 : Option Int32) = some 0; rw [ro]; exact c4)
    exact RO_bad (tx' := (nI n, nI e6, nI s, kd, vl, nI d)) hn s2 (st6 _ (by rw [if_neg c1, c2, Option.bind_some]; exact if_pos rfl)) rfl st7 so (fun _ _ => rfl) kpo hf6 hf7
  have notW : ¬ kd = 1 → f_X3_readItem N (nI n, nI e6, nI s, kd, vl, nI d) tb y = some (0, (nI n, nI e6, nI s, kd, vl, nI d), y) := fun c => by
    unfold f_X3_readItem
    exact if_neg c
  rcases hc with ⟨c1, c2⟩ | ⟨c1, c2, -⟩ | ⟨c1, c2, -⟩ | ⟨c1, c3, c4, j, hj, c5, c2⟩ | ⟨c1, c2⟩
  · obtain ⟨a, rfl⟩ : ∃ k, f6 = k + 1 := ⟨f6 - 1, by omega⟩
    obtain ⟨b, rfl⟩ : ∃ k, f7 = k + 1 := ⟨f7 - 1, by omega⟩
    have q6 := st6 _ (if_pos c1)
    have q7 : s_X7_pump_25 N text (nI (cntD d), nI (refD d), o, told) = some (.inr (nI (cntD d), nI (refD d), o, told)) := by
      unfold s_X7_pump_25
      show (if k7f o = -9 then (if o.2.2.2.2.1 = 20 then _ else _) else _) = _
      rw [if_pos fo, if_pos (ro.trans c2)]
    exact ⟨nI (cntD d), (nI n, nI e6, nI s, kd, vl, nI d), y, (nI (cntD d), nI (refD d), o, told), by rw [xlp, q6]; rfl, by rw [xlp, q7]; rfl, rfl, fun _ _ => rfl, kpo, Or.inl ⟨cntD d, hc6, rfl, rfl, fo, hy, hr⟩⟩
  · exact bad (by rw [c1]; decide) (notW (by rw [c1]; decide)) (by rw [c2]; decide) (by rw [c2]; exact if_pos (by decide))
  · exact bad (by rw [c1]; decide) (notW (by rw [c1]; decide)) (by rw [c2]; decide) (by rw [c2]; exact if_pos (by decide))
  · obtain ⟨u1, u2, u3, u4, u5⟩ := his j hj
    subst c1; subst c2; subst c3; subst c5
    rcases bitD01 d j with b | b
    · obtain ⟨m1, m2, m3, m4⟩ := (maskF d hd j hj).2.2 b
      have mb := (maskF d hd j hj).2.1
      rw [decide_eq_true b] at mb
      have mb := of_decide_eq_true mb
      obtain ⟨R1, gR, fR, hA1⟩ := next_ok hN h kpo po fo c4
      obtain ⟨ok, tx', y', o', told', r1, r2, r3, r4, r5, r6, r7⟩ := item_ok (N := N) hN h (nI n, nI e6, nI s, 1, nI j, nI d) (hi := hiN j) (by show xin (nI j + 1) 7 = true; rw [nI_1]; exact xin_n (by omega) (by omega)) (by show sFIRST.getD ((nI j + 1).toNatClampNeg) 0 = nI (hiN j); rw [nI_1, nI_clamp (by omega), (slots j hj).2, u1]) (nI (cntD d), nI (refD d), o, told) (f_X7_manyOf (nI (sloN j))) (by show o.2.2.2.2.1 + f_X7_manyOf (nI (sloN j)) = nI (hiN j); rw [ro, u1]) u3 (hiN j - sloN j) (sloN j) (nI n, nI e6, nI s, 1, nI j, nI (d + 2 ^ j)) y R1 told e6 N N (by omega) (by omega) (by omega) rfl rfl c4 hA1 hy hr
      have q6 := (item6g (N := N) (tb := tb) (tx := (nI n, nI e6, nI s, 1, nI j, nI d)) y hd hj rfl rfl rfl b).trans r1
      have good : ∀ (R2 : K7) (z : Int32), f_X7_due N o' text (if o'.2.2.2.2.1 = 22 then 1 else 0) = some (z, R2) → s_X7_pump_25 N text (nI (cntD d), nI (refD d), o, told) = some (.inl (nI (cntD (d + 2 ^ j)), nI (refD (d + 2 ^ j)), R2, told')) := fun R2 z hdu => by
        have e := good25 (N := N) (text := text) (v3 := (nI (cntD d), nI (refD d), o, told)) (v21 := (nI (hiN j), o', told')) (z := z) (R1 := R1) (R2 := R2) fo (by show ¬ o.2.2.2.2.1 = 20; rw [ro]; exact u5) (by show ¬ 20 ≤ o.2.2.2.2.1; rw [ro]; exact u4) (by show ((nI (refD d) >>> (o.2.2.2.2.1 &&& 31)) &&& 1) = 0; rw [ro]; exact mb) gR fR (by show xlp (s_X7_pump_94 N text (nI (cntD d), nI (refD d), o, told) (f_X7_manyOf o.2.2.2.2.1)) N (o.2.2.2.2.1, R1, told) = _; rw [ro]; exact r2) hdu
        rw [e]
        show some (Sum.inl (nI (cntD d) + 1, (nI (refD d) ||| (1 <<< (o.2.2.2.2.1 &&& 31))), R2, told')) = _
        rw [ro, m2, nI_1, m3]
      rcases r7 with ⟨k1, k2, k3, k4, k5, e, k6, k7, k8⟩ | ⟨k1, q, k2, k3, k4⟩
      · obtain ⟨R2, gR2, fR2, hA2⟩ := next_ok hN h r6 k8 k3 k6
        have q7 := good R2 _ (by rw [if_pos k2]; exact due1 k3 gR2)
        have q6' : s_X3_read_16 N tb (nI (cntD d), tx, y) = some (.inl (nI (cntD (d + 2 ^ j)), tx', y')) := st6 _ (by
          rw [if_neg (show ¬ (1 : Int32) = 0 by decide), q6, Option.bind_some]
          show (if ok = 0 then _ else some (Sum.inl (nI (cntD d) + 1, tx', y'))) = _
          rw [if_neg (by rw [k1]; decide), nI_1, m3])
        obtain ⟨ans, tx2, y2, v, w1, w2, w3, w4, w5, w6⟩ := ih (d + 2 ^ j) tx' y' R2 told' e m4 m3 r3 k7 r4 k6 hA2 k4 k5
        obtain ⟨a, rfl⟩ : ∃ k, f6 = k + 1 := ⟨f6 - 1, by omega⟩
        obtain ⟨b, rfl⟩ : ∃ k, f7 = k + 1 := ⟨f7 - 1, by omega⟩
        exact ⟨ans, tx2, y2, v, by rw [xlp, q6']; exact w1, by rw [xlp, q7]; exact w2, w3, fun i hi => (w4 i hi).trans (r5 i hi), w5, w6⟩
      · have q6' : s_X3_read_16 N tb (nI (cntD d), tx, y) = some (.inr (-10 - nI q, tx', y')) := st6 _ (by
          rw [if_neg (show ¬ (1 : Int32) = 0 by decide), q6, Option.bind_some]
          show (if ok = 0 then some (Sum.inr (-10 - tx'.2.2.1, tx', y')) else _) = _
          rw [if_pos k1, k3])
        rcases k4 with k4 | ⟨k4, k5, k6⟩
        · exact RO_bad hn k2 q6' r3 (good o' _ (dueF (by rw [k4]; exact n9n (by omega)))) k4 r5 r6 hf6 hf7
        · have gd := good (o'.1, o'.2.1, o'.2.2.1, o'.2.2.2.1, o'.2.2.2.2.1, o'.2.2.2.2.2.1, o'.2.2.2.1, o'.2.2.2.2.2.2.2.1, o'.2.2.2.2.2.2.2.2.1, o'.2.2.2.2.2.2.2.2.2.1, o'.2.2.2.2.2.2.2.2.2.2.1, o'.2.2.2.2.2.2.2.2.2.2.2) _ (by rw [if_neg k5]; exact due0 k4)
          exact RO_bad hn k2 q6' r3 gd k6 r5 r6 hf6 hf7
    · have mb := (maskF d hd j hj).2.1
      have b1 : ¬ bitD d j = 0 := by omega
      rw [decide_eq_false b1] at mb
      have mb := of_decide_eq_false mb
      exact bad (by decide) (item6b y hd hj rfl rfl rfl b) u5 (by rw [if_neg u4, if_neg mb])
  · exact bad (by rw [c1]; decide) (notW (by rw [c1]; decide)) (by rw [c2]; decide) (by rw [c2]; exact if_pos (by decide))
theorem read_ok {n N : Nat} {bt : Nat → Nat} {tb text : Nat → Int32} {W : K7} (hN : 400 < N) (h : txB n bt tb text) : ∀ (k d : Nat) (tx : K3) (y : K4) (o : K7) (told : Nat → Int32) (p f6 f7 : Nat), d < 64 → cntD d + k = 6 → k + 1 < f6 → k + 2 < f7 → tx.1 = nI n → tx.2.1 = nI p → tx.2.2.2.2.2 = nI d → p ≤ n → AH N text W o n p → VY y → RP (fun j => told (11 + j)) y → RO N n tb text W d tx y o told f6 f7
  | 0, d, tx, y, o, told, p, f6, f7, hd, hk, h6, h7, t1, t2, t3, hp, hA, hy, hr => read_step hN h hd tx y o told p f6 f7 (by omega) (by omega) t1 t2 t3 hp hA hy hr (fun d' _ _ _ _ _ hd' hc' => by
      have := cntD_le d' hd'
      omega)
  | k + 1, d, tx, y, o, told, p, f6, f7, hd, hk, h6, h7, t1, t2, t3, hp, hA, hy, hr => read_step hN h hd tx y o told p f6 f7 (by omega) (by omega) t1 t2 t3 hp hA hy hr (fun d' tx' y' o' told' p' hd' hc' a1 a2 a3 a4 a5 a6 a7 => read_ok hN h k d' tx' y' o' told' p' (f6 - 1) (f7 - 1) hd' (by omega) (by omega) (by omega) a1 a2 a3 a4 a5 a6 a7)
