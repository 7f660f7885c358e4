/-! what stays for ever: static arrays, nest links, String constants: carried in contracts as xE1 -/
abbrev xK : Type := (Nat → Nat) × (Nat → Nat) × (Nat → Nat)
def sUNTOLD : List Int32 := [40, 10, 26, 20, 10, 0, 99, 0, 100, 0, 0]
def sLEAST : List Int32 := [1, 1, 1, 0, 1, 0, 1, 0, 0, 0, 0]
def sMOST : List Int32 := [99, 30, 99, 99, 99, 99, 99, 30, 100, 99, 40]
def sFIRST : List Int32 := [0, 2, 5, 6, 8, 9, 11]
def xlen : List Nat := [4, 4, 4, 5, 7, 5]
def xbyt : List (List Int32) := [[112, 117, 109, 112], [119, 101, 108, 108], [102, 108, 97, 112], [106, 111, 105, 110, 116], [108, 101, 97, 116, 104, 101, 114], [112, 108, 97, 99, 101]]
def xstat (nm : String) (n : Nat) (L : List Int32) (t : Nat) (A : Nat → Prop) (U : State) : Prop := va_Z "YardPump" nm "[I" (.ref t) A U U.heap ∧ va_T .int t n (fun j => .int (L.getD j 0)) A U U.heap
def xlinks (U : State) : Prop := va_Nw (.methodLinkNest RX3 57 yX6_outside RX6) U ∧ va_Nw (.methodLinkNest RX5 24 yX6_leastTerms RX6) U ∧ va_Nw (.fieldLinkNest RX4 14 "YardPump" "UNTOLD" "[I" RX6) U ∧ va_Nw (.fieldLinkNest RX3 48 "YardPump" "FIRST_SLOT" "[I" RX6) U ∧ va_Nw (.fieldLinkNest RX3 51 "YardPump" "LEAST_TOLD" "[I" RX6) U ∧ va_Nw (.fieldLinkNest RX3 54 "YardPump" "MOST_TOLD" "[I" RX6) U ∧
  va_Nw (.methodLinkNest RX6 9 yX3_init RX6) U ∧ va_Nw (.methodLinkNest RX6 25 yX0_init RX6) U ∧ va_Nw (.methodLinkNest RX6 40 yX2_init RX6) U ∧ va_Nw (.methodLinkNest RX6 54 yX1_init RX6) U ∧ va_Nw (.methodLinkNest RX6 61 yX5_init RX6) U
def xrefs (a : Nat → Nat) (U : State) : Prop := vk_R RX3 102 "pump" (a 0) U ∧ vk_R RX3 104 "well" (a 1) U ∧ vk_R RX3 106 "flap" (a 2) U ∧ vk_R RX3 108 "joint" (a 3) U ∧ vk_R RX3 110 "leather" (a 4) U ∧ vk_R RX3 112 "place" (a 5) U
def xE1 (k : xK) (A : Nat → Prop) (U : State) : Prop := xstat "UNTOLD" 11 sUNTOLD (k.1 0) A U ∧ xstat "LEAST_TOLD" 11 sLEAST (k.1 1) A U ∧ xstat "MOST_TOLD" 11 sMOST (k.1 2) A U ∧ xstat "FIRST_SLOT" 7 sFIRST (k.1 3) A U ∧ xlinks U ∧
  va_Z "java/lang/String" "COMPACT_STRINGS" "Z" (.int 1) A U U.heap ∧ va_Zq "jdk/internal/util/Preconditions" "SIOOBE_FORMATTER" "Ljava/util/function/BiFunction;" A U U.heap ∧ vk_S 6 xlen xbyt k.2.1 k.2.2 A U U.heap ∧ xrefs k.2.1 U
theorem xstat_at {nm : String} {n : Nat} {L : List Int32} {t : Nat} {A B : Nat → Prop} {s U : State} {locs : List Loc} (h : xstat nm n L t A s) (hS : va_S A s.heap U.heap locs) (hW : s.WarmedH U.vm) (hAB : ∀ q, B q → A q) : xstat nm n L t B U :=
  ⟨((h.1.kept hS.2.1).moved hW.alike).narrow hAB, ((h.2.kept hS.2.1).moved hW.alike).narrow hAB⟩
theorem xlinks_at {s U : State} (h : xlinks s) (hW : s.WarmedH U.vm) : xlinks U := by
  obtain ⟨h1, h2, h3, h4, h5, h6, h7, h8, h9, h10, h11⟩ := h
  exact ⟨h1.warmM hW, h2.warmM hW, h3.warmF hW, h4.warmF hW, h5.warmF hW, h6.warmF hW, h7.warmM hW, h8.warmM hW, h9.warmM hW, h10.warmM hW, h11.warmM hW⟩
theorem xlinks_same {u U : State} (h : xlinks u) (hv : u.vm = U.vm) : xlinks U := by
  obtain ⟨h1, h2, h3, h4, h5, h6, h7, h8, h9, h10, h11⟩ := h
  exact ⟨h1.same rfl hv, h2.same rfl hv, h3.same rfl hv, h4.same rfl hv, h5.same rfl hv, h6.same rfl hv, h7.same rfl hv, h8.same rfl hv, h9.same rfl hv, h10.same rfl hv, h11.same rfl hv⟩
theorem xrefs_at {a : Nat → Nat} {s U : State} (h : xrefs a s) (hW : s.WarmedH U.vm) : xrefs a U := by
  obtain ⟨h1, h2, h3, h4, h5, h6⟩ := h
  exact ⟨h1.warm hW, h2.warm hW, h3.warm hW, h4.warm hW, h5.warm hW, h6.warm hW⟩
theorem xrefs_same {a : Nat → Nat} {u U : State} (h : xrefs a u) (hv : U.vm = u.vm) : xrefs a U := by
  obtain ⟨h1, h2, h3, h4, h5, h6⟩ := h
  exact ⟨h1.same hv, h2.same hv, h3.same hv, h4.same hv, h5.same hv, h6.same hv⟩
theorem xE1_at {k : xK} {A B : Nat → Prop} {s U : State} {H : Heap} {locs : List Loc} (h : xE1 k A s) (hS : va_S A s.heap H locs) (hU : U.heap = H) (hW : s.WarmedH U.vm) (hAB : ∀ q, B q → A q) : xE1 k B U := by
  subst hU
  obtain ⟨h1, h2, h3, h4, h5, h6, h7, h8, h9⟩ := h
  exact ⟨xstat_at h1 hS hW hAB, xstat_at h2 hS hW hAB, xstat_at h3 hS hW hAB, xstat_at h4 hS hW hAB, xlinks_at h5 hW, ((h6.kept hS.2.1).moved hW.alike).narrow hAB, ((h7.kept hS.2.1).moved hW.alike).narrow hAB, ((h8.kept hS.2.1).moved hW.alike).narrow hAB, xrefs_at h9 hW⟩
theorem xE1_blind {k : xK} (B : Nat → Prop) (U : State) (g : JFrame) (mk : MethodId) (a : Array Value) (h : xE1 k B U) : xE1 k B (U.calling g mk a) := by
  have hv := Vm.Alike.refl U.vm
  obtain ⟨h1, h2, h3, h4, h5, h6, h7, h8, h9⟩ := h
  exact ⟨⟨va_Z.moved (u := U) (U := U.calling g mk a) hv h1.1, va_T.moved (u := U) (U := U.calling g mk a) hv h1.2⟩, ⟨va_Z.moved (u := U) (U := U.calling g mk a) hv h2.1, va_T.moved (u := U) (U := U.calling g mk a) hv h2.2⟩, ⟨va_Z.moved (u := U) (U := U.calling g mk a) hv h3.1, va_T.moved (u := U) (U := U.calling g mk a) hv h3.2⟩, ⟨va_Z.moved (u := U) (U := U.calling g mk a) hv h4.1, va_T.moved (u := U) (U := U.calling g mk a) hv h4.2⟩,
    xlinks_same (u := U) (U := U.calling g mk a) h5 rfl, va_Z.moved (u := U) (U := U.calling g mk a) hv h6, va_Zq.moved (u := U) (U := U.calling g mk a) hv h7, vk_S.moved (u := U) (U := U.calling g mk a) hv h8, xrefs_same (u := U) (U := U.calling g mk a) h9 rfl⟩
theorem xE1_out {k : xK} {A : Nat → Prop} {U : State} (h : xE1 k A U) : va_Nw (.methodLinkNest RX3 57 yX6_outside RX6) U := h.2.2.2.2.1.1
theorem xE1_lt {k : xK} {A : Nat → Prop} {U : State} (h : xE1 k A U) : va_Nw (.methodLinkNest RX5 24 yX6_leastTerms RX6) U := h.2.2.2.2.1.2.1
theorem xE1_S {k : xK} {A : Nat → Prop} {U : State} (h : xE1 k A U) : vk_S 6 xlen xbyt k.2.1 k.2.2 A U U.heap := h.2.2.2.2.2.2.2.1
theorem xE1_C {k : xK} {A : Nat → Prop} {U : State} (h : xE1 k A U) : va_Z "java/lang/String" "COMPACT_STRINGS" "Z" (.int 1) A U U.heap := h.2.2.2.2.2.1
theorem xE1_Q {k : xK} {A : Nat → Prop} {U : State} (h : xE1 k A U) : va_Zq "jdk/internal/util/Preconditions" "SIOOBE_FORMATTER" "Ljava/util/function/BiFunction;" A U U.heap := h.2.2.2.2.2.2.1
theorem xE1_R {k : xK} {A : Nat → Prop} {U : State} (h : xE1 k A U) : xrefs k.2.1 U := h.2.2.2.2.2.2.2.2
section XPS
variable {s : State} {H : Heap} {locs : List Loc} {D : va_G} {T : xT} {A : Nat → Prop} {W0 : va_W} {k : xK}
/-- a call on a String constant: no cell of the world is needed -/
theorem xpvS {As : List Value} {j : Nat} (hj : j < 6) (hP : va_P D vwCl W0 H) (hD : va_D A W0) (hK : va_K D vwCl (xty T) s) (hE : xE1 k A s) (hS : va_S A s.heap H locs) (hA : ∀ q : Nat, s.heap.size ≤ q → A q) : PreV s H "java/lang/String" (k.2.1 j) (va_Pc (.ref (k.2.1 j) :: As) (xPre D T [] H.size (xE1 k))) As := by
  have hPc : va_P D vwCl [] H := fun i q h => by simp at h
  have hDc : va_D A [] := ⟨fun i j p q h => by simp at h, fun i q h => by simp at h⟩
  have hF := va_free (wc := []) hD hS hA [] rfl
  exact ⟨fun a U g mk q => by obtain ⟨q0, q1, qP, qK, qD, qE⟩ := q; exact ⟨q0, q1, qP, va_K.moved (u := U) (U := U.calling g mk a) (Vm.Alike.refl U.vm) qK, qD, xE1_blind _ _ _ _ _ qE⟩, vk_recv (xE1_S hE) hj hS, fun U hU hW => ⟨rfl, by rw [hU], by rw [hU]; exact hPc, va_K.moved hW.alike hK, hDc.weaken (fun _ _ _ _ => trivial), xE1_at hE hS hU hW hF⟩⟩
end XPS
set_option maxHeartbeats 4000000 in
set_option maxRecDepth 100000 in
theorem c_J0_coder (l : Launch) (D : va_G) (T : xT) (k : xK) {sz : Nat} (j : Nat) (hj : j < 6) : Met l yJ0_coder_7d493 wsJ0_coder_7d493 ({ frames := 0, cells := 0, slots := 0, locals := 0 } : Room) (va_Pc [.ref (k.2.1 j)] (xPre D T [] sz (xE1 k))) (va_Qi (fun (r : Int32) (_ : Unit) => r = 0) (fun _ => xPost D T [] (va_A [] sz)) (va_A [] sz)) 0 0 (va_A [] sz) := by
  refine xMet (av := [.ref (k.2.1 j)]) (Wd := []) (E := xE1 k) (Qc := fun A => (va_Qi (fun (r : Int32) (_ : Unit) => r = 0) (fun _ => xPost D T [] A) A)) (cc := cJ0_coder_7d493) (maxL := 1) (ret := some .byte) (by decide) rfl (Nat.le_of_ble_eq_true rfl) ?_
  intro p e s m below meth c A ls hx hb hr hml hts hown hlocks hnm hP hK hD hS hA hE hl
  have hown : s.vm.findClass RJ0 = some m.cls := hown
  have hl : lv_has ls 1 [(0, .ref (k.2.1 j))] := hl
  refine va_gets hx hb (xE1_C hE) hS hown (hts _ (List.mem_of_getElem? (i := 1) rfl)) (fun _ h9 => h9) dJ0_coder_7d493_0 ?_
  refine lv_if_eq (tgt := 13) hx hb dJ0_coder_7d493_3 (by decide) (fun c1 => absurd c1 (by decide)) (fun c1 => ?_)
  refine lv_aload_n hx hb dJ0_coder_7d493_6 rfl (lv_at hl 0 rfl) ?_
  refine vk_getf hx hb ((xE1_S hE).1 j hj).2.1 hS hown (hts _ (List.mem_of_getElem? (i := 2) rfl)) (fun _ h9 => h9) dJ0_coder_7d493_7 ?_
  refine lv_goto (tgt := 14) hx hb dJ0_coder_7d493_10 (by decide) ?_
  exact xretz hx hb hr hlocks hP hK hD hS dJ0_coder_7d493_14 rfl rfl
set_option maxHeartbeats 4000000 in
set_option maxRecDepth 100000 in
theorem c_J0_isLatin1 (l : Launch) (D : va_G) (T : xT) (k : xK) {sz : Nat} (j : Nat) (hj : j < 6) : Met l yJ0_isLatin1_aae02 wsJ0_isLatin1_aae02 ({ frames := 0, cells := 0, slots := 0, locals := 0 } : Room) (va_Pc [.ref (k.2.1 j)] (xPre D T [] sz (xE1 k))) (va_Qi (fun (r : Int32) (_ : Unit) => r = 1) (fun _ => xPost D T [] (va_A [] sz)) (va_A [] sz)) 0 0 (va_A [] sz) := by
  refine xMet (av := [.ref (k.2.1 j)]) (Wd := []) (E := xE1 k) (Qc := fun A => (va_Qi (fun (r : Int32) (_ : Unit) => r = 1) (fun _ => xPost D T [] A) A)) (cc := cJ0_isLatin1_aae02) (maxL := 1) (ret := some .boolean) (by decide) rfl (Nat.le_of_ble_eq_true rfl) ?_
  intro p e s m below meth c A ls hx hb hr hml hts hown hlocks hnm hP hK hD hS hA hE hl
  have hown : s.vm.findClass RJ0 = some m.cls := hown
  have hl : lv_has ls 1 [(0, .ref (k.2.1 j))] := hl
  refine va_gets hx hb (xE1_C hE) hS hown (hts _ (List.mem_of_getElem? (i := 1) rfl)) (fun _ h9 => h9) dJ0_isLatin1_aae02_0 ?_
  refine lv_if_eq (tgt := 17) hx hb dJ0_isLatin1_aae02_3 (by decide) (fun c1 => absurd c1 (by decide)) (fun c1 => ?_)
  refine lv_aload_n hx hb dJ0_isLatin1_aae02_6 rfl (lv_at hl 0 rfl) ?_
  refine vk_getf hx hb ((xE1_S hE).1 j hj).2.1 hS hown (hts _ (List.mem_of_getElem? (i := 2) rfl)) (fun _ h9 => h9) dJ0_isLatin1_aae02_7 ?_
  refine lv_if_ne (tgt := 17) hx hb dJ0_isLatin1_aae02_10 (by decide) (fun c1 => absurd rfl c1) (fun c1 => ?_)
  refine lv_iconst (v := 1) hx hb dJ0_isLatin1_aae02_13 (by decide) ?_
  refine lv_goto (tgt := 18) hx hb dJ0_isLatin1_aae02_14 (by decide) ?_
  exact xretz hx hb hr hlocks hP hK hD hS dJ0_isLatin1_aae02_18 rfl rfl
set_option maxHeartbeats 4000000 in
set_option maxRecDepth 100000 in
theorem c_J0_length (l : Launch) (D : va_G) (T : xT) (k : xK) {sz : Nat} (j : Nat) (hj : j < 6) : Met l yJ0_length_8abf5 wsJ0_length_8abf5 ({ frames := 1, cells := 0, slots := 0, locals := 20 } : Room) (va_Pc [.ref (k.2.1 j)] (xPre D T [] sz (xE1 k))) (va_Qi (fun (r : Int32) (_ : Unit) => r = nI (xlen.getD j 0)) (fun _ => xPost D T [] (va_A [] sz)) (va_A [] sz)) 0 0 (va_A [] sz) := by
  refine xMet (av := [.ref (k.2.1 j)]) (Wd := []) (E := xE1 k) (Qc := fun A => (va_Qi (fun (r : Int32) (_ : Unit) => r = nI (xlen.getD j 0)) (fun _ => xPost D T [] A) A)) (cc := cJ0_length_8abf5) (maxL := 1) (ret := some .int) (by decide) rfl (Nat.le_of_ble_eq_true rfl) ?_
  intro p e s m below meth c A ls hx hb hr hml hts hown hlocks hnm hP hK hD hS hA hE hl
  have hown : s.vm.findClass RJ0 = some m.cls := hown
  have hl : lv_has ls 1 [(0, .ref (k.2.1 j))] := hl
  refine lv_aload_n hx hb dJ0_length_8abf5_0 rfl (lv_at hl 0 rfl) ?_
  refine vk_getf hx hb ((xE1_S hE).1 j hj).2.2.1 hS hown (hts _ (List.mem_of_getElem? (i := 1) rfl)) (fun _ h9 => h9) dJ0_length_8abf5_1 ?_
  refine va_tlen (v := nI (xlen.getD j 0)) hx hb ((xE1_S hE).1 j hj).2.2.2 hS rfl dJ0_length_8abf5_4 ?_
  refine lv_aload_n hx hb dJ0_length_8abf5_5 rfl (lv_at hl 0 rfl) ?_
  refine xafti (rv := 0) (W2 := []) (va_runV (As := []) (rest := [.int (nI (xlen.getD j 0))]) ⟨hx, hb, hml, hown, hts⟩ (c_J0_coder l D T k j hj) (cwV 0 hts gJ0_length_8abf5_J0_coder_7d493 rfl rfl rfl (by decide +kernel) ⟨Nat.le_of_ble_eq_true rfl, Nat.le_of_ble_eq_true rfl⟩) (xpvS hj hP hD hK hE hS hA) rfl rfl hl.1 rfl (lv_room (Nat.le_of_ble_eq_true rfl)) dJ0_length_8abf5_6 ⟨Nat.le_of_ble_eq_true rfl, Nat.le_of_ble_eq_true rfl⟩) hP hD hS hA [] rfl rfl rfl rfl (fun H locs hP hD hS => ?_)
  refine lv_ishr hx hb dJ0_length_8abf5_9 ?_
  refine xreti hx hb hr hlocks hP hK hD hS dJ0_length_8abf5_10 ?_
  rcases (show j = 0 ∨ j = 1 ∨ j = 2 ∨ j = 3 ∨ j = 4 ∨ j = 5 by omega) with rfl | rfl | rfl | rfl | rfl | rfl <;> decide
set_option maxHeartbeats 4000000 in
set_option maxRecDepth 100000 in
theorem c_J3_checkIndex_n (l : Launch) (D : va_G) (T : xT) (k : xK) {sz : Nat} (i n : Int32) (h0 : ¬ i < 0) (h1 : i < n) : Met l yJ3_checkIndex_8e157 wsJ3_checkIndex_8e157 ({ frames := 0, cells := 0, slots := 0, locals := 0 } : Room) (va_Pc [.int i, .int n, .null] (xPre D T [] sz (xE1 k))) (va_Qi (fun (r : Int32) (_ : Unit) => r = i) (fun _ => xPost D T [] (va_A [] sz)) (va_A [] sz)) 0 0 (va_A [] sz) := by
  refine xMet (av := [.int i, .int n, .null]) (Wd := []) (E := xE1 k) (Qc := fun A => (va_Qi (fun (r : Int32) (_ : Unit) => r = i) (fun _ => xPost D T [] A) A)) (cc := cJ3_checkIndex_8e157) (maxL := 3) (ret := some .int) (by decide) rfl (Nat.le_of_ble_eq_true rfl) ?_
  intro p e s m below meth c A ls hx hb hr hml hts hown hlocks hnm hP hK hD hS hA hE hl
  have hl : lv_has ls 3 [(0, .int i), (1, .int n), (2, .null)] := hl
  refine lv_iload_n hx hb dJ3_checkIndex_8e157_0 rfl (lv_at hl 0 rfl) ?_
  refine lv_if_lt (tgt := 9) hx hb dJ3_checkIndex_8e157_1 (by decide) (fun c1 => absurd c1 h0) (fun c1 => ?_)
  refine lv_iload_n hx hb dJ3_checkIndex_8e157_4 rfl (lv_at hl 0 rfl) ?_
  refine lv_iload_n hx hb dJ3_checkIndex_8e157_5 rfl (lv_at hl 1 rfl) ?_
  refine lv_icmp_lt (tgt := 16) hx hb dJ3_checkIndex_8e157_6 (by decide) (fun c2 => ?_) (fun c2 => absurd h1 c2)
  refine lv_iload_n hx hb dJ3_checkIndex_8e157_16 rfl (lv_at hl 0 rfl) ?_
  exact xreti hx hb hr hlocks hP hK hD hS dJ3_checkIndex_8e157_17 rfl
set_option maxHeartbeats 4000000 in
set_option maxRecDepth 100000 in
theorem c_J3_checkIndex_r (l : Launch) (D : va_G) (T : xT) (k : xK) {sz : Nat} (i n : Int32) (t : Nat) (h0 : ¬ i < 0) (h1 : i < n) : Met l yJ3_checkIndex_8e157 wsJ3_checkIndex_8e157 ({ frames := 0, cells := 0, slots := 0, locals := 0 } : Room) (va_Pc [.int i, .int n, .ref t] (xPre D T [] sz (xE1 k))) (va_Qi (fun (r : Int32) (_ : Unit) => r = i) (fun _ => xPost D T [] (va_A [] sz)) (va_A [] sz)) 0 0 (va_A [] sz) := by
  refine xMet (av := [.int i, .int n, .ref t]) (Wd := []) (E := xE1 k) (Qc := fun A => (va_Qi (fun (r : Int32) (_ : Unit) => r = i) (fun _ => xPost D T [] A) A)) (cc := cJ3_checkIndex_8e157) (maxL := 3) (ret := some .int) (by decide) rfl (Nat.le_of_ble_eq_true rfl) ?_
  intro p e s m below meth c A ls hx hb hr hml hts hown hlocks hnm hP hK hD hS hA hE hl
  have hl : lv_has ls 3 [(0, .int i), (1, .int n), (2, .ref t)] := hl
  refine lv_iload_n hx hb dJ3_checkIndex_8e157_0 rfl (lv_at hl 0 rfl) ?_
  refine lv_if_lt (tgt := 9) hx hb dJ3_checkIndex_8e157_1 (by decide) (fun c1 => absurd c1 h0) (fun c1 => ?_)
  refine lv_iload_n hx hb dJ3_checkIndex_8e157_4 rfl (lv_at hl 0 rfl) ?_
  refine lv_iload_n hx hb dJ3_checkIndex_8e157_5 rfl (lv_at hl 1 rfl) ?_
  refine lv_icmp_lt (tgt := 16) hx hb dJ3_checkIndex_8e157_6 (by decide) (fun c2 => ?_) (fun c2 => absurd h1 c2)
  refine lv_iload_n hx hb dJ3_checkIndex_8e157_16 rfl (lv_at hl 0 rfl) ?_
  exact xreti hx hb hr hlocks hP hK hD hS dJ3_checkIndex_8e157_17 rfl
set_option maxHeartbeats 4000000 in
set_option maxRecDepth 100000 in
theorem c_J0_checkIndex (l : Launch) (D : va_G) (T : xT) (k : xK) {sz : Nat} (i n : Int32) (h0 : ¬ i < 0) (h1 : i < n) : Met l yJ0_checkIndex_df160 wsJ0_checkIndex_df160 ({ frames := 1, cells := 0, slots := 0, locals := 22 } : Room) (va_Pc [.int i, .int n] (xPre D T [] sz (xE1 k))) (va_Qv (fun (_ : Unit) => True) (fun _ => xPost D T [] (va_A [] sz)) (va_A [] sz)) 0 0 (va_A [] sz) := by
  refine xMet (av := [.int i, .int n]) (Wd := []) (E := xE1 k) (Qc := fun A => (va_Qv (fun (_ : Unit) => True) (fun _ => xPost D T [] A) A)) (cc := cJ0_checkIndex_df160) (maxL := 2) (ret := none) (by decide) rfl (Nat.le_of_ble_eq_true rfl) ?_
  intro p e s m below meth c A ls hx hb hr hml hts hown hlocks hnm hP hK hD hS hA hE hl
  have hown : s.vm.findClass RJ0 = some m.cls := hown
  have hl : lv_has ls 2 [(0, .int i), (1, .int n)] := hl
  refine lv_iload_n hx hb dJ0_checkIndex_df160_0 rfl (lv_at hl 0 rfl) ?_
  refine lv_iload_n hx hb dJ0_checkIndex_df160_1 rfl (lv_at hl 1 rfl) ?_
  rcases xE1_Q hE with hZ | ⟨t, hZ⟩
  · refine va_gets hx hb hZ hS hown (hts _ (List.mem_of_getElem? (i := 1) rfl)) (fun _ h9 => h9) dJ0_checkIndex_df160_2 ?_
    refine xafti (rv := i) (W2 := []) (va_runS (As := [.int i, .int n, .null]) (rest := []) ⟨hx, hb, hml, hown, hts⟩ (c_J3_checkIndex_n l D T k i n h0 h1) (va_cwS 3 hts gJ0_checkIndex_df160_J3_checkIndex_8e157 rfl rfl rfl (by decide +kernel) ⟨Nat.le_of_ble_eq_true rfl, Nat.le_of_ble_eq_true rfl⟩) (xpvs hP hD hK [] (by decide) rfl (fun U hU hW => xE1_at hE hS hU hW (va_free hD hS hA [] rfl)) xE1_blind) rfl rfl hl.1 rfl (lv_room (Nat.le_of_ble_eq_true rfl)) dJ0_checkIndex_df160_5 ⟨Nat.le_of_ble_eq_true rfl, Nat.le_of_ble_eq_true rfl⟩) hP hD hS hA [] rfl rfl rfl rfl (fun H locs hP hD hS => ?_)
    refine lv_pop hx hb dJ0_checkIndex_df160_8 rfl ?_
    exact xretv hx hb hr hlocks hP hK hD hS dJ0_checkIndex_df160_9
  · refine va_gets hx hb hZ hS hown (hts _ (List.mem_of_getElem? (i := 1) rfl)) (fun _ h9 => h9) dJ0_checkIndex_df160_2 ?_
    refine xafti (rv := i) (W2 := []) (va_runS (As := [.int i, .int n, .ref t]) (rest := []) ⟨hx, hb, hml, hown, hts⟩ (c_J3_checkIndex_r l D T k i n t h0 h1) (va_cwS 3 hts gJ0_checkIndex_df160_J3_checkIndex_8e157 rfl rfl rfl (by decide +kernel) ⟨Nat.le_of_ble_eq_true rfl, Nat.le_of_ble_eq_true rfl⟩) (xpvs hP hD hK [] (by decide) rfl (fun U hU hW => xE1_at hE hS hU hW (va_free hD hS hA [] rfl)) xE1_blind) rfl rfl hl.1 rfl (lv_room (Nat.le_of_ble_eq_true rfl)) dJ0_checkIndex_df160_5 ⟨Nat.le_of_ble_eq_true rfl, Nat.le_of_ble_eq_true rfl⟩) hP hD hS hA [] rfl rfl rfl rfl (fun H locs hP hD hS => ?_)
    refine lv_pop hx hb dJ0_checkIndex_df160_8 rfl ?_
    exact xretv hx hb hr hlocks hP hK hD hS dJ0_checkIndex_df160_9
/-- the char at i of the j-th String constant -/
def xch (j : Nat) (i : Int32) : Int32 := ((((xbyt.getD j []).getD i.toNatClampNeg 0) &&& 255).toUInt32 % 65536).toInt32
theorem xch_c : ∀ j, j < 6 → ∀ q, q < xlen.getD j 0 → narrow .char (.int (xch j (nI q))) = .int (xch j (nI q)) := by decide +kernel
theorem xlen_lt : ∀ j, j < 6 → xlen.getD j 0 < 8 := by decide
set_option maxHeartbeats 4000000 in
set_option maxRecDepth 100000 in
theorem c_J1_charAt (l : Launch) (D : va_G) (T : xT) (k : xK) {sz : Nat} (j : Nat) (hj : j < 6) (i : Int32) (hi : vp_in i (xlen.getD j 0)) : Met l yJ1_charAt_3b067 wsJ1_charAt_3b067 ({ frames := 2, cells := 0, slots := 0, locals := 43 } : Room) (va_Pc [.ref (k.2.2 j), .int i] (xPre D T [] sz (xE1 k))) (va_Qi (fun (r : Int32) (_ : Unit) => r = xch j i) (fun _ => xPost D T [] (va_A [] sz)) (va_A [] sz)) 0 0 (va_A [] sz) := by
  have hlen := xlen_lt j hj
  obtain ⟨q, hq, rfl⟩ := vp_in_of hi (by omega)
  refine xMet (av := [.ref (k.2.2 j), .int (nI q)]) (Wd := []) (E := xE1 k) (Qc := fun A => (va_Qi (fun (r : Int32) (_ : Unit) => r = xch j (nI q)) (fun _ => xPost D T [] A) A)) (cc := cJ1_charAt_3b067) (maxL := 2) (ret := some .char) (by decide) rfl (Nat.le_of_ble_eq_true rfl) ?_
  intro p e s m below meth c A ls hx hb hr hml hts hown hlocks hnm hP hK hD hS hA hE hl
  have hown : s.vm.findClass RJ1 = some m.cls := hown
  have hl : lv_has ls 2 [(0, .ref (k.2.2 j)), (1, .int (nI q))] := hl
  refine lv_iload_n hx hb dJ1_charAt_3b067_0 rfl (lv_at hl 1 rfl) ?_
  refine lv_aload_n hx hb dJ1_charAt_3b067_1 rfl (lv_at hl 0 rfl) ?_
  refine va_tlen (v := nI (xlen.getD j 0)) hx hb ((xE1_S hE).1 j hj).2.2.2 hS rfl dJ1_charAt_3b067_2 ?_
  refine xaftv (W2 := []) (va_runS (As := [.int (nI q), .int (nI (xlen.getD j 0))]) (rest := []) ⟨hx, hb, hml, hown, hts⟩ (c_J0_checkIndex l D T k (nI q) (nI (xlen.getD j 0)) (nI_pos (by omega)) (nI_lt hq (by omega))) (va_cwS 2 hts gJ1_charAt_3b067_J0_checkIndex_df160 rfl rfl rfl (by decide +kernel) ⟨Nat.le_of_ble_eq_true rfl, Nat.le_of_ble_eq_true rfl⟩) (xpvs hP hD hK [] (by decide) rfl (fun U hU hW => xE1_at hE hS hU hW (va_free hD hS hA [] rfl)) xE1_blind) rfl rfl hl.1 rfl (lv_room (Nat.le_of_ble_eq_true rfl)) dJ1_charAt_3b067_3 ⟨Nat.le_of_ble_eq_true rfl, Nat.le_of_ble_eq_true rfl⟩) hP hD hS hA [] rfl rfl rfl rfl (fun H locs hP hD hS => ?_)
  refine lv_aload_n hx hb dJ1_charAt_3b067_6 rfl (lv_at hl 0 rfl) ?_
  refine lv_iload_n hx hb dJ1_charAt_3b067_7 rfl (lv_at hl 1 rfl) ?_
  refine va_tb hx hb ((xE1_S hE).1 j hj).2.2.2 hS hi rfl dJ1_charAt_3b067_8 ?_
  refine lv_sipush (v := 255) hx hb dJ1_charAt_3b067_9 (by decide) ?_
  refine lv_iand hx hb dJ1_charAt_3b067_12 ?_
  refine lv_i2c (v := xch j (nI q)) hx hb dJ1_charAt_3b067_13 rfl ?_
  exact xretz hx hb hr hlocks hP hK hD hS dJ1_charAt_3b067_14 rfl (xch_c j hj q hq)
set_option maxHeartbeats 4000000 in
set_option maxRecDepth 100000 in
theorem c_J0_charAt (l : Launch) (D : va_G) (T : xT) (k : xK) {sz : Nat} (j : Nat) (hj : j < 6) (i : Int32) (hi : vp_in i (xlen.getD j 0)) : Met l yJ0_charAt_5068e wsJ0_charAt_5068e ({ frames := 3, cells := 0, slots := 0, locals := 64 } : Room) (va_Pc [.ref (k.2.1 j), .int i] (xPre D T [] sz (xE1 k))) (va_Qi (fun (r : Int32) (_ : Unit) => r = xch j i) (fun _ => xPost D T [] (va_A [] sz)) (va_A [] sz)) 0 0 (va_A [] sz) := by
  have hlen := xlen_lt j hj
  have hi2 := hi
  obtain ⟨q, hq, rfl⟩ := vp_in_of hi (by omega)
  refine xMet (av := [.ref (k.2.1 j), .int (nI q)]) (Wd := []) (E := xE1 k) (Qc := fun A => (va_Qi (fun (r : Int32) (_ : Unit) => r = xch j (nI q)) (fun _ => xPost D T [] A) A)) (cc := cJ0_charAt_5068e) (maxL := 2) (ret := some .char) (by decide) rfl (Nat.le_of_ble_eq_true rfl) ?_
  intro p e s m below meth c A ls hx hb hr hml hts hown hlocks hnm hP hK hD hS hA hE hl
  have hown : s.vm.findClass RJ0 = some m.cls := hown
  have hl : lv_has ls 2 [(0, .ref (k.2.1 j)), (1, .int (nI q))] := hl
  refine lv_aload_n hx hb dJ0_charAt_5068e_0 rfl (lv_at hl 0 rfl) ?_
  refine xafti (rv := 1) (W2 := []) (va_runV (As := []) (rest := []) ⟨hx, hb, hml, hown, hts⟩ (c_J0_isLatin1 l D T k j hj) (cwV 0 hts gJ0_charAt_5068e_J0_isLatin1_aae02 rfl rfl rfl (by decide +kernel) ⟨Nat.le_of_ble_eq_true rfl, Nat.le_of_ble_eq_true rfl⟩) (xpvS hj hP hD hK hE hS hA) rfl rfl hl.1 rfl (lv_room (Nat.le_of_ble_eq_true rfl)) dJ0_charAt_5068e_1 ⟨Nat.le_of_ble_eq_true rfl, Nat.le_of_ble_eq_true rfl⟩) hP hD hS hA [] rfl rfl rfl rfl (fun H locs hP hD hS => ?_)
  refine lv_if_eq (tgt := 16) hx hb dJ0_charAt_5068e_4 (by decide) (fun c1 => absurd c1 (by decide)) (fun c1 => ?_)
  refine lv_aload_n hx hb dJ0_charAt_5068e_7 rfl (lv_at hl 0 rfl) ?_
  refine vk_getf hx hb ((xE1_S hE).1 j hj).2.2.1 hS hown (hts _ (List.mem_of_getElem? (i := 1) rfl)) (fun _ h9 => h9) dJ0_charAt_5068e_8 ?_
  refine lv_iload_n hx hb dJ0_charAt_5068e_11 rfl (lv_at hl 1 rfl) ?_
  refine xafti (rv := xch j (nI q)) (W2 := []) (va_runS (As := [.ref (k.2.2 j), .int (nI q)]) (rest := []) ⟨hx, hb, hml, hown, hts⟩ (c_J1_charAt l D T k j hj (nI q) hi2) (va_cwS 2 hts gJ0_charAt_5068e_J1_charAt_3b067 rfl rfl rfl (by decide +kernel) ⟨Nat.le_of_ble_eq_true rfl, Nat.le_of_ble_eq_true rfl⟩) (xpvs hP hD hK [] (by decide) rfl (fun U hU hW => xE1_at hE hS hU hW (va_free hD hS hA [] rfl)) xE1_blind) rfl rfl hl.1 rfl (lv_room (Nat.le_of_ble_eq_true rfl)) dJ0_charAt_5068e_12 ⟨Nat.le_of_ble_eq_true rfl, Nat.le_of_ble_eq_true rfl⟩) hP hD hS hA [] rfl rfl rfl rfl (fun H locs hP hD hS => ?_)
  exact xretz hx hb hr hlocks hP hK hD hS dJ0_charAt_5068e_15 rfl (xch_c j hj q hq)
section XRS
variable {p : Program} {l : Launch} {e : Env} {R : Room} {s : State} {m : MethodId} {args : Array Value} {below : List Frame} {meth : Method} {c : Code} {H : Heap} {locs : List Loc} {cells slots : Nat} {Q : State → Prop}
variable {cc : ByteArray} {pc : Nat} {ls : Array Slot} {rest st0 : List Value} {D : va_G} {T : xT} {A : Nat → Prop} {H0 : Heap} {a : Array Value} {W0 wc w1 W2 : va_W}
theorem xreta (hx : p.tables.exec = Jvm.exec) (hb : c.code = cc) {nm : String} (hr : meth.sig.returnType = some (.object nm)) (hlocks : meth.locks = false) (hP : va_P D vwCl W2 H) (hK : va_K D vwCl (xty T) s) (hD : va_D A W2) (hS : va_S A s.heap H locs) {v rv : Nat} (hdg : decode cc pc = .ok (.areturn, 1)) (hv : v = rv) :
    W p l e R s m args below meth c H locs cells slots (MQ below (va_Qr (fun (_ : Unit) => True) (fun _ a t => a = rv ∧ xPost D T W2 A t) A) args s cells slots A) (F0 m pc ls [.ref v]) :=
  W.aret hx hb hr (Or.inl ⟨_, rfl⟩) (Or.inr ⟨_, rfl⟩) (fun t ht hW => ⟨⟨(), v, rfl, trivial, hv, by rw [ht]; exact hP, va_K.moved hW.alike hK, hD⟩, hS.F ht⟩) hS.2.2 hdg hlocks
theorem xafta {rv : Nat} (hr : va_Run p l e R s m args below meth c H locs cells slots 0 0 (F0 m pc ls st0) rest (va_Qr (fun (_ : Unit) => True) (fun _ a t => a = rv ∧ xPost D T w1 (va_A wc H.size) t) (va_A wc H.size) a) (va_A wc H.size)) (hP : va_P D vwCl W0 H) (hD : va_D A W0) (hS : va_S A H0 H locs) (hA : ∀ q : Nat, H0.size ≤ q → A q)
    (is : List Nat) (hC : is.map (fun i => W0[i]?) = wc.map some) (hl : is.length = w1.length) (h2 : xput W0 is w1 = W2) (hf : W2.map Prod.fst = W0.map Prod.fst)
    (kk : ∀ (H1 : Heap) (locs1 : List Loc), va_P D vwCl W2 H1 → va_D A W2 → va_S A H0 H1 locs1 → W p l e R s m args below meth c H1 locs1 cells slots Q (F0 m (pc + 3) ls (.ref rv :: rest))) : W p l e R s m args below meth c H locs cells slots Q (F0 m pc ls st0) := by
  have hF := va_free (wc := wc) hD hS hA is hC
  refine va_callr hr hS (fun q _ h => hF q h) hF (fun u ra t H1 locs1 ht hvm hp hB hz hk hS1 => ?_)
  obtain ⟨rfl, hB⟩ := hB
  refine kk H1 locs1 ?_ (xD_of hf hD) hS1
  rw [← h2]
  exact xP_put hP hD is hC hl hk (by rw [← ht]; exact hB.1)
end XRS
