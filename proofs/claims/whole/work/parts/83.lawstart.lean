/-! the law, from its entry -/
section XQ
variable {p : Program} {l : Launch} {e : Env} {R : Room} {s : State} {m : MethodId} {args : Array Value} {below : List Frame} {meth : Method} {c : Code} {H : Heap} {locs : List Loc} {cells slots mc ms : Nat} {Q : State → Prop}
variable {cc : ByteArray} {pc : Nat} {ls : Array Slot} {rest st0 : List Value} {D : va_G} {T : xT} {A : Nat → Prop} {H0 : Heap} {a : Array Value} {W0 wc : va_W}
theorem xaftp {B : (Nat → Nat) → va_W} {wr : va_W} {post : (Nat → Nat) → Prop} (hr : va_Run p l e R s m args below meth c H locs cells slots mc ms (F0 m pc ls st0) rest (va_Qv post (fun u => xPost D T (B u) (va_A wc H.size)) (va_A wc H.size) a) (va_A wc H.size)) (hP : va_P D vwCl W0 H) (hD : va_D A W0) (hS : va_S A H0 H locs) (hA : ∀ q : Nat, H0.size ≤ q → A q)
    (isC isR : List Nat) (hC : isC.map (fun i => W0[i]?) = wc.map some) (hR : isR.map (fun i => W0[i]?) = wr.map some) (hn : va_nd isR = true) (hdis : ∀ i ∈ isR, i ∉ isC)
    (kk : ∀ (u : Nat → Nat) (H1 : Heap) (locs1 : List Loc), post u → va_P D vwCl (wr ++ B u) H1 → va_D A (wr ++ B u) → va_S A H0 H1 locs1 → W p l e R s m args below meth c H1 locs1 (cells + mc) (slots + ms) Q (F0 m (pc + 3) ls rest)) : W p l e R s m args below meth c H locs cells slots Q (F0 m pc ls st0) := by
  have hF := va_free (wc := wc) hD hS hA isC hC
  refine va_callv hr hS (fun q _ h => hF q h) hF (fun u t H1 locs1 ht hvm hp hB hz hk hS1 => ?_)
  obtain ⟨hP2, hD2⟩ := va_join (wr := wr) (w1 := B u) hP hD isC isR hC hR hn hdis hk hF (by rw [← ht]; exact hB.1) hB.2.2
  exact kk u H1 locs1 hp hP2 hD2 hS1
end XQ
abbrev iy0 : K4 := (40, 10, 26, 20, 10, 0, 99, 0, 100, 0, 0)
abbrev ic0 : K0 := (260, 100, 0, 0, 0, 0, 0)
theorem i_k4 {o : Option K4} {a0 a1 a2 a3 a4 a5 a6 a7 a8 a9 a10 : Int32} (h : o.map (fun y => [y.1, y.2.1, y.2.2.1, y.2.2.2.1, y.2.2.2.2.1, y.2.2.2.2.2.1, y.2.2.2.2.2.2.1, y.2.2.2.2.2.2.2.1, y.2.2.2.2.2.2.2.2.1, y.2.2.2.2.2.2.2.2.2.1, y.2.2.2.2.2.2.2.2.2.2]) = some [a0, a1, a2, a3, a4, a5, a6, a7, a8, a9, a10]) : o = some (a0, a1, a2, a3, a4, a5, a6, a7, a8, a9, a10) := by
  cases o with
  | none => cases h
  | some y =>
    obtain ⟨y0, y1, y2, y3, y4, y5, y6, y7, y8, y9, y10⟩ := y
    have h := Option.some.inj h
    simp only [List.cons.injEq, and_true] at h
    obtain ⟨rfl, rfl, rfl, rfl, rfl, rfl, rfl, rfl, rfl, rfl, rfl⟩ := h
    rfl
theorem i_k0 {o : Option K0} {a0 a1 a2 a3 a4 a5 a6 : Int32} (h : o.map (fun y => [y.1, y.2.1, y.2.2.1, y.2.2.2.1, y.2.2.2.2.1, y.2.2.2.2.2.1, y.2.2.2.2.2.2]) = some [a0, a1, a2, a3, a4, a5, a6]) : o = some (a0, a1, a2, a3, a4, a5, a6) := by
  cases o with
  | none => cases h
  | some y =>
    obtain ⟨y0, y1, y2, y3, y4, y5, y6⟩ := y
    have h := Option.some.inj h
    simp only [List.cons.injEq, and_true] at h
    obtain ⟨rfl, rfl, rfl, rfl, rfl, rfl, rfl⟩ := h
    rfl
theorem i_X4 : f_X4_beUntold 500 (0, 0, 0, 0, 0, 0, 0, 0, 0, 0, 0) = some iy0 := i_k4 (by decide +kernel)
theorem i_X0 : f_X0_startEmpty (0, 0, 0, 0, 0, 0, 0) iy0 = some ic0 := i_k0 (by decide +kernel)
theorem i_some : (f_X7_init 500).isSome = true := by decide +kernel
theorem i_o : (f_X7_init 500).map (fun r => (r.1.1, [r.1.2.1, r.1.2.2.1, r.1.2.2.2.1, r.1.2.2.2.2.1, r.1.2.2.2.2.2.1, r.1.2.2.2.2.2.2.1, r.1.2.2.2.2.2.2.2.1, r.1.2.2.2.2.2.2.2.2.1, r.1.2.2.2.2.2.2.2.2.2.1, r.1.2.2.2.2.2.2.2.2.2.2.1, r.1.2.2.2.2.2.2.2.2.2.2.2])) = some (0, [0, 0, 0, 0, 0, 0, 0, 0, 0, 0, 0]) := by decide +kernel
theorem i_told : (f_X7_init 500).map (fun r => (List.range 11).map r.2.2.1) = some [40, 10, 26, 20, 10, 0, 99, 0, 100, 0, 0] := by decide +kernel
theorem i_nows : (f_X7_init 500).map (fun r => (List.range 21).map r.2.2.2.2.2.1) = some [260, 100, 0, 0, 0, 0, 0, 0, 0, 0, 0, 0, 0, 0, 0, 0, 0, 0, 0, 0, 0] := by decide +kernel
theorem i_kept : (f_X7_init 500).map (fun r => (List.range 2).map r.2.2.2.2.2.2.1) = some [0, 0] := by decide +kernel
theorem i_chances : (f_X7_init 500).map (fun r => (List.range 6).map r.2.2.2.2.2.2.2.2.2.2.1) = some [1, 1, 1, 1, 1, 1] := by decide +kernel
theorem i_costs : (f_X7_init 500).map (fun r => (List.range 5).map r.2.2.2.2.2.2.2.2.2.2.2.2.2.2.1) = some [10, 10, 10, 10, 10] := by decide +kernel
abbrev iu : CX := (0, (0, 0, 0, 0, 0, 0), fun _ => 0, iy0, ic0, (0, 0, 0, 0, 0, 0, 0), (0, 0, 0, 0, 0, 0, 0), fun _ => 0, 0, fun _ => 0, fun _ => 0, fun _ => 0, upd (upd (upd (upd (upd (upd (fun _ => 0) 0 1) 1 1) 2 1) 3 1) 4 1) 5 1, upd (upd (upd (upd (upd (fun _ => 0) 0 10) 1 10) 2 10) 3 10) 4 10, 0, fun _ => 0, fun _ => 0, 0, fun _ => 0, fun _ => 0, iy0, (0, 0, 0, 0, 0, 0, 0), fun _ => 0, fun _ => 0, fun _ => 0)
theorem i_at {f : Nat → Int32} {n : Nat} {L : List Int32} (h : (List.range n).map f = L) (j : Nat) (hj : j < n) : f j = L.getD j 0 := by
  rw [← h, List.getD_eq_getElem?_getD, List.getElem?_map, List.getElem?_range hj]; rfl
set_option maxHeartbeats 4000000 in
set_option maxRecDepth 100000 in
theorem i_Rel : ∃ w : CM, f_X7_init 500 = some w ∧ Rel iu w := by
  obtain ⟨w, hw⟩ := Option.isSome_iff_exists.mp i_some
  have h1 := i_o; have h2 := i_told; have h3 := i_nows; have h4 := i_kept; have h5 := i_chances; have h6 := i_costs
  rw [hw] at h1 h2 h3 h4 h5 h6
  replace h1 := Option.some.inj h1; replace h2 := i_at (Option.some.inj h2); replace h3 := i_at (Option.some.inj h3); replace h4 := i_at (Option.some.inj h4); replace h5 := i_at (Option.some.inj h5); replace h6 := i_at (Option.some.inj h6)
  have ho : w.1 = (0, 0, 0, 0, 0, 0, 0, 0, 0, 0, 0, 0) := by
    obtain ⟨⟨o0, o1, o2, o3, o4, o5, o6, o7, o8, o9, o10, o11⟩, wr⟩ := w
    have h1 := Prod.mk.inj h1
    obtain ⟨g0, g1⟩ := h1
    simp only [List.cons.injEq, and_true] at g0 g1
    obtain ⟨rfl, rfl, rfl, rfl, rfl, rfl, rfl, rfl, rfl, rfl, rfl⟩ := g1
    subst g0
    rfl
  refine ⟨w, hw, mkRel ?_ ?_ ⟨?_, ?_⟩ ⟨?_, ?_⟩ ⟨?_, ?_, ?_, ?_⟩ ⟨?_, ?_⟩ ?_ ?_ ?_ ?_ ?_⟩
  · rw [ho]
  · exact ⟨0, by omega, rfl, by rw [ho]; rfl, fun j hj => by omega⟩
  · unfold VY; decide
  · exact ⟨h2 0 (by omega), h2 1 (by omega), h2 2 (by omega), h2 3 (by omega), h2 4 (by omega), h2 5 (by omega), h2 6 (by omega), h2 7 (by omega), h2 8 (by omega), h2 9 (by omega), h2 10 (by omega)⟩
  · unfold VC; decide
  · exact ⟨h3 0 (by omega), h3 1 (by omega), h3 2 (by omega), h3 3 (by omega), h3 4 (by omega), h3 5 (by omega), h3 6 (by omega)⟩
  · unfold VC; decide
  · unfold VC; decide
  · exact ⟨h3 7 (by omega), h3 8 (by omega), h3 9 (by omega), h3 10 (by omega), h3 11 (by omega), h3 12 (by omega), h3 13 (by omega)⟩
  · exact ⟨h3 14 (by omega), h3 15 (by omega), h3 16 (by omega), h3 17 (by omega), h3 18 (by omega), h3 19 (by omega), h3 20 (by omega)⟩
  · exact (h4 0 (by omega)).symm
  · exact (h4 1 (by omega)).symm
  · exact ⟨0, by omega, rfl, by rw [ho]; rfl, fun j hj => by omega⟩
  · intro j hj
    rcases (show j = 0 ∨ j = 1 ∨ j = 2 ∨ j = 3 ∨ j = 4 ∨ j = 5 by omega) with rfl | rfl | rfl | rfl | rfl | rfl
    · exact ⟨(h5 0 (by omega)).symm, 1, by omega, rfl⟩
    · exact ⟨(h5 1 (by omega)).symm, 1, by omega, rfl⟩
    · exact ⟨(h5 2 (by omega)).symm, 1, by omega, rfl⟩
    · exact ⟨(h5 3 (by omega)).symm, 1, by omega, rfl⟩
    · exact ⟨(h5 4 (by omega)).symm, 1, by omega, rfl⟩
    · exact ⟨(h5 5 (by omega)).symm, 1, by omega, rfl⟩
  · intro j hj
    rcases (show j = 0 ∨ j = 1 ∨ j = 2 ∨ j = 3 ∨ j = 4 by omega) with rfl | rfl | rfl | rfl | rfl
    · exact ⟨(h6 0 (by omega)).symm, 10, by omega, rfl⟩
    · exact ⟨(h6 1 (by omega)).symm, 10, by omega, rfl⟩
    · exact ⟨(h6 2 (by omega)).symm, 10, by omega, rfl⟩
    · exact ⟨(h6 3 (by omega)).symm, 10, by omega, rfl⟩
    · exact ⟨(h6 4 (by omega)).symm, 10, by omega, rfl⟩
  · exact ⟨0, by omega, rfl, by rw [ho]; rfl, fun j hj => by omega⟩
  · exact ⟨0, by omega, rfl, by rw [ho]; rfl, fun j hj => by omega⟩
abbrev LW6 (x : Nat → Nat) (T : xT) (u : CX) : va_W := [((x 0), .inr (6, o6 x u.1)), ((x 1), .inr (3, o3 (x 2) u.2.1)), ((x 2), .inl (T.1, 300, .inl u.2.2.1)), ((x 3), .inr (4, o4 u.2.2.2.1)), ((x 4), .inr (0, o0 u.2.2.2.2.1)), ((x 5), .inl (T.2.2.2, 2, .inr (.inr (.inr (.inr (xim x)))))), ((x 6), .inr (0, o0 u.2.2.2.2.2.1)), ((x 7), .inr (0, o0 u.2.2.2.2.2.2.1)), ((x 8), .inl (T.2.2.1, 2, .inl u.2.2.2.2.2.2.2.1)), ((x 9), .inr (2, o2 (x 10) (x 11) (x 12) u.2.2.2.2.2.2.2.2.1)), ((x 10), .inl (T.1, 6, .inl u.2.2.2.2.2.2.2.2.2.1)), ((x 11), .inl (T.1, 6, .inl u.2.2.2.2.2.2.2.2.2.2.1)), ((x 12), .inl (T.1, 6, .inl u.2.2.2.2.2.2.2.2.2.2.2.1)), ((x 13), .inl (T.1, 6, .inl u.2.2.2.2.2.2.2.2.2.2.2.2.1)), ((x 14), .inl (T.1, 5, .inl u.2.2.2.2.2.2.2.2.2.2.2.2.2.1)), ((x 15), .inr (1, o1 (x 16) (x 17) u.2.2.2.2.2.2.2.2.2.2.2.2.2.2.1)), ((x 16), .inl (T.1, 30, .inl u.2.2.2.2.2.2.2.2.2.2.2.2.2.2.2.1)), ((x 17), .inl (T.1, 30, .inl u.2.2.2.2.2.2.2.2.2.2.2.2.2.2.2.2.1)), ((x 18), .inr (5, o5 (x 19) (x 20) u.2.2.2.2.2.2.2.2.2.2.2.2.2.2.2.2.2.1)), ((x 19), .inl (T.1, 20, .inl u.2.2.2.2.2.2.2.2.2.2.2.2.2.2.2.2.2.2.1)), ((x 20), .inl (T.1, 20, .inl u.2.2.2.2.2.2.2.2.2.2.2.2.2.2.2.2.2.2.2.1)), ((x 21), .inr (4, o4 u.2.2.2.2.2.2.2.2.2.2.2.2.2.2.2.2.2.2.2.2.1)), ((x 22), .inr (0, o0 u.2.2.2.2.2.2.2.2.2.2.2.2.2.2.2.2.2.2.2.2.2.1)), ((x 23), .inl (T.1, 54, .inl u.2.2.2.2.2.2.2.2.2.2.2.2.2.2.2.2.2.2.2.2.2.2.1)), ((x 24), .inl (T.1, 100, .inl u.2.2.2.2.2.2.2.2.2.2.2.2.2.2.2.2.2.2.2.2.2.2.2.1)), ((x 25), .inl (T.1, 100, .inl u.2.2.2.2.2.2.2.2.2.2.2.2.2.2.2.2.2.2.2.2.2.2.2.2))]
set_option maxHeartbeats 8000000 in
set_option maxRecDepth 100000 in
theorem whole_start {p : Program} {e : Env} {s : State} {m : MethodId} {below : List Frame} {meth : Method} {c : Code} (l : Launch) (hflags : l.flags = flags0) {b L : Nat} {xs : Nat → Int32} (hL : L ≤ 2560) (C0 : lw_At p s m meth c b L xs) : W p l e room_1 s m #[Value.ref b] below meth c s.heap [] 0 0 (lw_Z below #[Value.ref b] s) (entryFrame m ([Value.ref b] : List Value).toArray 4) := by
  obtain ⟨hx, hb, hr, hml, hown, hts0, hX, hbl, hlocks, hgv⟩ := id C0
  obtain ⟨D, T, hK⟩ := law_K hts0
  obtain ⟨k, hE⟩ := law_E hts0 hgv
  obtain ⟨w, hM7, hR⟩ := i_Rel
  have hAO : va_AO "YardPump$Column" s := va_AO.of (hts0 _ (by decide +kernel))
  have hts : ∀ w ∈ wsL_law, w.before #[Value.ref b] s = true := fun w h => hts0 w (wsL_law_in w h)
  have hA : ∀ q : Nat, s.heap.size ≤ q → (fun q : Nat => s.heap.size ≤ q) q := fun _ h => h
  have hbA : ¬ (fun q : Nat => s.heap.size ≤ q) b := Nat.not_le.mpr hbl
  have hP : va_P D vwCl [] s.heap := fun i q h => by simp at h
  have hD : va_D (fun q : Nat => s.heap.size ≤ q) [] := ⟨fun i j p q h => by simp at h, fun i q h => by simp at h⟩
  have hS : va_S (fun q : Nat => s.heap.size ≤ q) s.heap s.heap [] := va_S.rf
  rw [lg_entry_eq]
  have hl : lv_has ((lg_sl [Value.ref b] ++ List.replicate (4 - (lg_sl [Value.ref b]).length) Slot.unset).toArray) 4 [(0, .ref b)] := lv_entry [.ref b] (Nat.le_of_ble_eq_true rfl)
  generalize ((lg_sl [Value.ref b] ++ List.replicate (4 - (lg_sl [Value.ref b]).length) Slot.unset).toArray) = ls at hl ⊢
  refine va_new (ci := 6) (fs := [.null, .null, .null, .null, .null, .null, .null, .null, .null, .null, .long 0, .null, .null, .null, .null, .null]) (C := RX6) (T := TX6) (N := 16) hx hb hts0 (by decide +kernel) tyX6 tyX6_ok hown (hts0 _ (by decide +kernel)) (hts0 _ (by decide +kernel)) (hts0 _ (by decide +kernel)) hK hP hD hS hA rfl (fun j hj => by rcases (show j = 0 ∨ j = 1 ∨ j = 2 ∨ j = 3 ∨ j = 4 ∨ j = 5 ∨ j = 6 ∨ j = 7 ∨ j = 8 ∨ j = 9 ∨ j = 10 ∨ j = 11 ∨ j = 12 ∨ j = 13 ∨ j = 14 ∨ j = 15 by omega) with rfl | rfl | rfl | rfl | rfl | rfl | rfl | rfl | rfl | rfl | rfl | rfl | rfl | rfl | rfl | rfl <;> rfl) (by show 0 + 1 ≤ _; exact Nat.le_of_ble_eq_true rfl) (by show 0 + 16 ≤ _; exact Nat.le_of_ble_eq_true rfl) dL_law_0 (fun q1 H hP hD hS => ?_)
  have hP : va_P D vwCl [(q1, .inr (6, [.null, .null, .null, .null, .null, .null, .null, .null, .null, .null, .long 0, .null, .null, .null, .null, .null]))] H := hP
  have hD : va_D (fun q : Nat => s.heap.size ≤ q) [(q1, .inr (6, [.null, .null, .null, .null, .null, .null, .null, .null, .null, .null, .long 0, .null, .null, .null, .null, .null]))] := hD
  refine lv_dup hx hb dL_law_3 rfl ?_
  refine xaftp (wr := []) (va_runI (As := []) (rest := [.ref q1]) ⟨hx, hb, hml, hown, hts⟩ (c_X6_init l D T k q1 i_X4 i_X0) (cwI 0 hts gL_law_X6_init rfl rfl rfl (hts0 _ (by decide +kernel)) (hts0 _ (by decide +kernel)) (hts0 _ (by decide +kernel)) rfl (by decide +kernel) ⟨Nat.le_of_ble_eq_true rfl, Nat.le_of_ble_eq_true rfl⟩) (xpvs hP hD hK [0] (by decide) rfl (fun U hU hW => ⟨xE1_at hE hS hU hW (va_free hD hS hA [0] rfl), va_AO.moved hW.alike hAO⟩) (fun B U g mk a h => ⟨xE1_blind B U g mk a h.1, va_AO.moved (u := U) (U := U.calling g mk a) (Vm.Alike.refl U.vm) h.2⟩)) rfl rfl hl.1 rfl (lv_room (Nat.le_of_ble_eq_true rfl)) dL_law_4 ⟨by show 1 + 25 ≤ _; exact Nat.le_of_ble_eq_true rfl, by show 16 + 754 ≤ _; exact Nat.le_of_ble_eq_true rfl⟩) hP hD hS hA [0] [] rfl rfl (by decide) (by decide) (fun x H locs hx0 hP hD hS => ?_)
  have hP : va_P D vwCl (LW6 x T iu) H := hP
  have hD : va_D (fun q : Nat => s.heap.size ≤ q) (LW6 x T iu) := hD
  rw [← hx0]
  refine lv_astore_n (lv' := [(1, .ref (x 0)), (0, .ref b)]) hx hb dL_law_7 rfl hl (by decide) rfl (fun ls hl => ?_)
  refine W.widen (k := 26) (n := 770) (by omega) (by omega) ?_
  refine va_new (ci := 7) (fs := [.long 0, .null, .int 0, .null, .int 0, .int 0, .int 0, .int 0, .int 0, .null, .null, .null, .null, .int 0, .null, .null, .null, .null, .null, .int 0, .int 0, .null, .null, .null, .int 0, .null, .null, .int 0, .null, .null]) (C := RX7) (T := TX7) (N := 30) hx hb hts0 (by decide +kernel) tyX7 tyX7_ok hown (hts0 _ (by decide +kernel)) (hts0 _ (by decide +kernel)) (hts0 _ (by decide +kernel)) hK hP hD hS hA rfl (fun j hj => by rcases (show j = 0 ∨ j = 1 ∨ j = 2 ∨ j = 3 ∨ j = 4 ∨ j = 5 ∨ j = 6 ∨ j = 7 ∨ j = 8 ∨ j = 9 ∨ j = 10 ∨ j = 11 ∨ j = 12 ∨ j = 13 ∨ j = 14 ∨ j = 15 ∨ j = 16 ∨ j = 17 ∨ j = 18 ∨ j = 19 ∨ j = 20 ∨ j = 21 ∨ j = 22 ∨ j = 23 ∨ j = 24 ∨ j = 25 ∨ j = 26 ∨ j = 27 ∨ j = 28 ∨ j = 29 by omega) with rfl | rfl | rfl | rfl | rfl | rfl | rfl | rfl | rfl | rfl | rfl | rfl | rfl | rfl | rfl | rfl | rfl | rfl | rfl | rfl | rfl | rfl | rfl | rfl | rfl | rfl | rfl | rfl | rfl | rfl <;> rfl) (by show 26 + 1 ≤ _; exact Nat.le_of_ble_eq_true rfl) (by show 770 + 30 ≤ _; exact Nat.le_of_ble_eq_true rfl) dL_law_8 (fun q2 H hP hD hS => ?_)
  have hP : va_P D vwCl (LW6 x T iu ++ [(q2, .inr (7, [.long 0, .null, .int 0, .null, .int 0, .int 0, .int 0, .int 0, .int 0, .null, .null, .null, .null, .int 0, .null, .null, .null, .null, .null, .int 0, .int 0, .null, .null, .null, .int 0, .null, .null, .int 0, .null, .null]))]) H := hP
  have hD : va_D (fun q : Nat => s.heap.size ≤ q) (LW6 x T iu ++ [(q2, .inr (7, [.long 0, .null, .int 0, .null, .int 0, .int 0, .int 0, .int 0, .int 0, .null, .null, .null, .null, .int 0, .null, .null, .null, .null, .null, .int 0, .int 0, .null, .null, .null, .int 0, .null, .null, .int 0, .null, .null]))]) := hD
  refine lv_dup hx hb dL_law_11 rfl ?_
  refine xaftp (wr := LW6 x T iu) (va_runI (As := []) (rest := [.ref q2]) ⟨hx, hb, hml, hown, hts⟩ (c_X7_init l D T q2 hM7) (cwI 0 hts gL_law_X7_init rfl rfl rfl (hts0 _ (by decide +kernel)) (hts0 _ (by decide +kernel)) (hts0 _ (by decide +kernel)) rfl (by decide +kernel) ⟨Nat.le_of_ble_eq_true rfl, Nat.le_of_ble_eq_true rfl⟩) (xpvs hP hD hK [26] (by decide) rfl (fun _ _ _ => trivial) (fun _ _ _ _ _ _ => trivial)) rfl rfl hl.1 rfl (lv_room (Nat.le_of_ble_eq_true rfl)) dL_law_12 ⟨by show 27 + 18 ≤ _; exact Nat.le_of_ble_eq_true rfl, by show 800 + 746 ≤ _; exact Nat.le_of_ble_eq_true rfl⟩) hP hD hS hA [26] [0, 1, 2, 3, 4, 5, 6, 7, 8, 9, 10, 11, 12, 13, 14, 15, 16, 17, 18, 19, 20, 21, 22, 23, 24, 25] rfl rfl (by decide) (by decide) (fun z H locs hz0 hP hD hS => ?_)
  have hP : va_P D vwCl (LWd x z T iu w) H := hP
  have hD : va_D (fun q : Nat => s.heap.size ≤ q) (LWd x z T iu w) := hD
  rw [← hz0]
  refine lv_astore_n (lv' := [(2, .ref (z 0)), (1, .ref (x 0)), (0, .ref b)]) hx hb dL_law_15 rfl hl (by decide) rfl (fun ls hl => ?_)
  refine lv_iconst (v := 0) hx hb dL_law_16 (by decide) ?_
  refine lv_istore_n (lv' := [(3, .int 0), (2, .ref (z 0)), (1, .ref (x 0)), (0, .ref b)]) hx hb dL_law_17 rfl hl (by decide) rfl (fun ls hl => ?_)
  refine W.widen (k := 45) (n := 1546) (by omega) (by omega) ?_
  exact law_loop (N := 500) (by omega) C0 hK hE hL (L + 1) 0 (by omega) (by omega) iu w H locs ls hR hP hD hS (lv_sub hl [3, 2, 1, 0] rfl)
