/-! laid by wip/whole/gen.py out of the decode rows: functional readings and contracts -/
def s_X6_greatestDivisor_9 (v1 : Int64 × Int64 × Int32) : Option ((Int64 × Int64 × Int32) ⊕ (Int64 × Int64 × Int32)) :=
  if (100) ≤ v1.2.2 then
   (some (.inr (v1.1, v1.2.1, v1.2.2)))
  else
   (if (lg_cmp v1.2.1 (0)) ≤ (0) then
     (some (.inr (v1.1, v1.2.1, v1.2.2)))
    else
     (if v1.2.1 = 0 then none else
      (some (.inl (v1.2.1, (v1.1 - v1.1 / v1.2.1 * v1.2.1), v1.2.2 + 1)))))
def f_X6_greatestDivisor (N : Nat) (p1 : Int64) (p2 : Int64) : Option (Int64) :=
  (xlp s_X6_greatestDivisor_9 N (p1, p2, 0)).bind fun v5 =>
  some v5.1
set_option maxHeartbeats 4000000 in
set_option maxRecDepth 100000 in
theorem c_X6_greatestDivisor (l : Launch) (D : va_G) (T : xT)  {sz : Nat} {N : Nat} (p1 : Int64) (p2 : Int64) {rv : Int64} (hM : f_X6_greatestDivisor N p1 p2 = some rv) : Met l yX6_greatestDivisor wsX6_greatestDivisor ({ frames := 0, cells := 0, slots := 0, locals := 0 } : Room) (va_Pc [.long p1, .long p2] (xPre D T [] sz xE0)) (va_Ql (fun (r : Int64) (_ : Unit) => r = rv) (fun _ => xPost D T [] (va_A [] sz)) (va_A [] sz)) 0 0 (va_A [] sz) := by
  refine xMet (av := [.long p1, .long p2]) (Wd := []) (E := xE0) (Qc := fun A => (va_Ql (fun (r : Int64) (_ : Unit) => r = rv) (fun _ => xPost D T [] A) A)) (cc := cX6_greatestDivisor) (maxL := 11) (ret := (some .long)) (by decide) rfl (Nat.le_of_ble_eq_true rfl) ?_
  intro p e s m below meth c A ls hx hb hr hml hts hown hlocks hnm hP hK hD hS hA hE hl
  have hown : s.vm.findClass RX6 = some m.cls := hown
  have hl : lv_has ls 11 [(0, .long p1), (2, .long p2)] := hl
  unfold f_X6_greatestDivisor at hM
  refine lv_lload_n hx hb dX6_greatestDivisor_0 rfl (lv_at hl 0 rfl) ?_
  refine lv_lstore (lv' := [(4, .long p1), (0, .long p1), (2, .long p2)]) hx hb dX6_greatestDivisor_1 hl (by decide) rfl (fun ls hl => ?_)
  refine lv_lload_n hx hb dX6_greatestDivisor_3 rfl (lv_at hl 2 rfl) ?_
  refine lv_lstore (lv' := [(6, .long p2), (4, .long p1), (0, .long p1), (2, .long p2)]) hx hb dX6_greatestDivisor_4 hl (by decide) rfl (fun ls hl => ?_)
  refine lv_iconst (v := 0) hx hb dX6_greatestDivisor_6 (by decide) ?_
  refine lv_istore (lv' := [(8, .int (0)), (6, .long p2), (4, .long p1), (0, .long p1), (2, .long p2)]) hx hb dX6_greatestDivisor_7 hl (by decide) rfl (fun ls hl => ?_)
  obtain ⟨v5, hM, hNv5⟩ := xbd hM
  have hQv5 := hM
  have Kv5 : ∀ (H : Heap) (locs : List Loc) (ls : Array Slot), va_P D vwCl [] H → va_D A [] → va_S A s.heap H locs → lv_has ls 11 [(4, .long v5.1)] → W p l e ({ frames := 0, cells := 0, slots := 0, locals := 0 } : Room) s m ([.long p1, .long p2] : List Value).toArray below meth c H locs 0 0 (MQ below (va_Ql (fun (r : Int64) (_ : Unit) => r = rv) (fun _ => xPost D T [] A) A) ([.long p1, .long p2] : List Value).toArray s 0 0 A) (F0 m 44 ls []) := by
    intro H locs ls hP hD hS hl
    have hM := hNv5
    refine lv_lload hx hb dX6_greatestDivisor_44 (lv_at hl 0 rfl) ?_
    obtain rfl := Option.some.inj hM
    exact xretl hx hb hr hlocks hP hK hD hS dX6_greatestDivisor_46 rfl
  have Lv1 : ∀ (n : Nat) (v1 : Int64 × Int64 × Int32), xlp s_X6_greatestDivisor_9 n v1 = some v5 → ∀ (H : Heap) (locs : List Loc) (ls : Array Slot), va_P D vwCl [] H → va_D A [] → va_S A s.heap H locs → lv_has ls 11 [(4, .long v1.1), (6, .long v1.2.1), (8, .int v1.2.2)] → W p l e ({ frames := 0, cells := 0, slots := 0, locals := 0 } : Room) s m ([.long p1, .long p2] : List Value).toArray below meth c H locs 0 0 (MQ below (va_Ql (fun (r : Int64) (_ : Unit) => r = rv) (fun _ => xPost D T [] A) A) ([.long p1, .long p2] : List Value).toArray s 0 0 A) (F0 m 9 ls []) := by
    intro n
    induction n with
    | zero => exact fun _ h => (xlp_0 h).elim
    | succ n ih =>
      intro v1 hM H locs ls hP hD hS hl
      obtain ⟨z, hM, hz1, hz2⟩ := xlp_s hM
      unfold s_X6_greatestDivisor_9 at hM
      refine lv_iload hx hb dX6_greatestDivisor_9 (lv_at hl 2 rfl) ?_
      refine lv_bipush (v := 100) hx hb dX6_greatestDivisor_11 (by decide) ?_
      refine lv_icmp_ge (tgt := 44) hx hb dX6_greatestDivisor_13 (by decide) (fun c2 => ?_) (fun c2 => ?_)
      · have hM := xit c2 hM
        obtain rfl := hz2 _ (Option.some.inj hM).symm
        exact Kv5 _ _ _ hP hD hS (lv_sub hl [0] rfl)
      · have hM := xif c2 hM
        refine lv_lload hx hb dX6_greatestDivisor_16 (lv_at hl 1 rfl) ?_
        refine lv_lconst (v := 0) hx hb dX6_greatestDivisor_18 (by decide) ?_
        refine W.lcmp hx hb dX6_greatestDivisor_19 ?_
        refine lv_if_le (tgt := 44) hx hb dX6_greatestDivisor_20 (by decide) (fun c3 => ?_) (fun c3 => ?_)
        · have hM := xit c3 hM
          obtain rfl := hz2 _ (Option.some.inj hM).symm
          exact Kv5 _ _ _ hP hD hS (lv_sub hl [0] rfl)
        · have hM := xif c3 hM
          refine lv_lload hx hb dX6_greatestDivisor_23 (lv_at hl 0 rfl) ?_
          refine lv_lload hx hb dX6_greatestDivisor_25 (lv_at hl 1 rfl) ?_
          obtain ⟨g4, hM⟩ := xnzl hM
          refine lv_lrem hx hb dX6_greatestDivisor_27 g4 ?_
          refine lv_lstore (lv' := [(9, .long (v1.1 - v1.1 / v1.2.1 * v1.2.1)), (4, .long v1.1), (6, .long v1.2.1), (8, .int v1.2.2)]) hx hb dX6_greatestDivisor_28 hl (by decide) rfl (fun ls hl => ?_)
          refine lv_lload hx hb dX6_greatestDivisor_30 (lv_at hl 2 rfl) ?_
          refine lv_lstore (lv' := [(4, .long v1.2.1), (9, .long (v1.1 - v1.1 / v1.2.1 * v1.2.1)), (6, .long v1.2.1), (8, .int v1.2.2)]) hx hb dX6_greatestDivisor_32 hl (by decide) rfl (fun ls hl => ?_)
          refine lv_lload hx hb dX6_greatestDivisor_34 (lv_at hl 1 rfl) ?_
          refine lv_lstore (lv' := [(6, .long (v1.1 - v1.1 / v1.2.1 * v1.2.1)), (4, .long v1.2.1), (9, .long (v1.1 - v1.1 / v1.2.1 * v1.2.1)), (8, .int v1.2.2)]) hx hb dX6_greatestDivisor_36 hl (by decide) rfl (fun ls hl => ?_)
          refine lv_iinc (v := v1.2.2 + 1) (lv' := [(8, .int (v1.2.2 + 1)), (6, .long (v1.1 - v1.1 / v1.2.1 * v1.2.1)), (4, .long v1.2.1), (9, .long (v1.1 - v1.1 / v1.2.1 * v1.2.1))]) hx hb dX6_greatestDivisor_38 hl (k := 3) rfl rfl (by decide) rfl (fun ls hl => ?_)
          refine lv_goto (tgt := 9) hx hb dX6_greatestDivisor_41 (by decide) ?_
          exact ih _ (hz1 _ (Option.some.inj hM).symm) _ _ _ hP hD hS (lv_sub hl [2, 1, 0] rfl)
  exact Lv1 _ _ hM _ _ _ hP hD hS (lv_sub hl [2, 1, 0] rfl)
def f_X6_leastTerms (N : Nat) (p1 : Int64) (p2 : Int64) (p3 : Int32) : Option (Int64) :=
  (f_X6_greatestDivisor N (xabsl p1) p2).bind fun r1 =>
  if (0) < (lg_cmp r1 (0)) then
   (if p3 = (0) then
     (if r1 = 0 then none else
      (some (p2 / r1)))
    else
     (if r1 = 0 then none else
      (some (p1 / r1))))
  else
   (some (0))
set_option maxHeartbeats 4000000 in
set_option maxRecDepth 100000 in
theorem c_X6_leastTerms (l : Launch) (D : va_G) (T : xT)  {sz : Nat} {N : Nat} (p1 : Int64) (p2 : Int64) (p3 : Int32) {rv : Int64} (hM : f_X6_leastTerms N p1 p2 p3 = some rv) : Met l yX6_leastTerms wsX6_leastTerms ({ frames := 1, cells := 0, slots := 0, locals := 30 } : Room) (va_Pc [.long p1, .long p2, .int p3] (xPre D T [] sz xE0)) (va_Ql (fun (r : Int64) (_ : Unit) => r = rv) (fun _ => xPost D T [] (va_A [] sz)) (va_A [] sz)) 0 0 (va_A [] sz) := by
  refine xMet (av := [.long p1, .long p2, .int p3]) (Wd := []) (E := xE0) (Qc := fun A => (va_Ql (fun (r : Int64) (_ : Unit) => r = rv) (fun _ => xPost D T [] A) A)) (cc := cX6_leastTerms) (maxL := 7) (ret := (some .long)) (by decide) rfl (Nat.le_of_ble_eq_true rfl) ?_
  intro p e s m below meth c A ls hx hb hr hml hts hown hlocks hnm hP hK hD hS hA hE hl
  have hown : s.vm.findClass RX6 = some m.cls := hown
  have hl : lv_has ls 7 [(0, .long p1), (2, .long p2), (4, .int p3)] := hl
  unfold f_X6_leastTerms at hM
  refine lv_lload_n hx hb dX6_leastTerms_0 rfl (lv_at hl 0 rfl) ?_
  refine va_mabs_long hx hb (hml.trans hl.1.symm) hown (hts _ (List.mem_of_getElem? (i := 1) rfl)) (hts _ (List.mem_of_getElem? (i := 2) rfl)) (hts _ (List.mem_of_getElem? (i := 3) rfl)) (hts _ (List.mem_of_getElem? (i := 4) rfl)) (Nat.le_of_ble_eq_true rfl) (Nat.le_of_ble_eq_true rfl) (Nat.zero_le _) (Nat.zero_le _) dX6_leastTerms_1 ?_
  refine lv_lload_n hx hb dX6_leastTerms_4 rfl (lv_at hl 1 rfl) ?_
  obtain ⟨r1, er1, hM⟩ := xbd hM
  refine xaftl (rv := r1) (W2 := []) (va_runS (As := [.long (xabsl p1), .long p2]) (rest := []) ⟨hx, hb, hml, hown, hts⟩ (c_X6_greatestDivisor l D T (xabsl p1) p2 er1) (cwS 2 hts gX6_leastTerms_X6_greatestDivisor rfl rfl rfl (by decide +kernel) ⟨Nat.le_of_ble_eq_true rfl, Nat.le_of_ble_eq_true rfl⟩) (xpvs hP hD hK [] (by decide) rfl (fun _ _ _ => trivial) (fun _ _ _ _ _ _ => trivial)) rfl rfl hl.1 rfl (lv_room (Nat.le_of_ble_eq_true rfl)) dX6_leastTerms_5 ⟨Nat.le_of_ble_eq_true rfl, Nat.le_of_ble_eq_true rfl⟩) hP hD hS hA [] rfl rfl rfl rfl (fun H locs hP hD hS => ?_)
  refine lv_lstore (lv' := [(5, .long r1), (0, .long p1), (2, .long p2), (4, .int p3)]) hx hb dX6_leastTerms_8 hl (by decide) rfl (fun ls hl => ?_)
  refine lv_lload hx hb dX6_leastTerms_10 (lv_at hl 0 rfl) ?_
  refine lv_lconst (v := 0) hx hb dX6_leastTerms_12 (by decide) ?_
  refine W.lcmp hx hb dX6_leastTerms_13 ?_
  refine lv_if_gt (tgt := 19) hx hb dX6_leastTerms_14 (by decide) (fun c2 => ?_) (fun c2 => ?_)
  · have hM := xit c2 hM
    refine lv_iload hx hb dX6_leastTerms_19 (lv_at hl 3 rfl) ?_
    refine lv_if_eq (tgt := 28) hx hb dX6_leastTerms_21 (by decide) (fun c3 => ?_) (fun c3 => ?_)
    · have hM := xit c3 hM
      refine lv_lload_n hx hb dX6_leastTerms_28 rfl (lv_at hl 2 rfl) ?_
      refine lv_lload hx hb dX6_leastTerms_29 (lv_at hl 0 rfl) ?_
      obtain ⟨g4, hM⟩ := xnzl hM
      refine lv_ldiv hx hb dX6_leastTerms_31 g4 ?_
      obtain rfl := Option.some.inj hM
      exact xretl hx hb hr hlocks hP hK hD hS dX6_leastTerms_32 rfl
    · have hM := xif c3 hM
      refine lv_lload_n hx hb dX6_leastTerms_24 rfl (lv_at hl 1 rfl) ?_
      refine lv_goto (tgt := 29) hx hb dX6_leastTerms_25 (by decide) ?_
      refine lv_lload hx hb dX6_leastTerms_29 (lv_at hl 0 rfl) ?_
      obtain ⟨g5, hM⟩ := xnzl hM
      refine lv_ldiv hx hb dX6_leastTerms_31 g5 ?_
      obtain rfl := Option.some.inj hM
      exact xretl hx hb hr hlocks hP hK hD hS dX6_leastTerms_32 rfl
  · have hM := xif c2 hM
    refine lv_lconst (v := 0) hx hb dX6_leastTerms_17 (by decide) ?_
    obtain rfl := Option.some.inj hM
    exact xretl hx hb hr hlocks hP hK hD hS dX6_leastTerms_18 rfl
def f_X6_type (N : Nat) (u_this : K6) (u_this_text : K3) (u_this_text_bytes : (Nat → Int32)) (p1 : Int64) (p2 : Int32) : Option (Int32 × K3 × (Nat → Int32)) :=
  if (f_X6_outside p2 (1) (8)) = (0) then
   ((f_X3_add N u_this_text u_this_text_bytes p1 p2).bind fun r2 =>
    some (r2.1, r2.2.1, r2.2.2))
  else
   (some ((-1), u_this_text, u_this_text_bytes))
set_option maxHeartbeats 4000000 in
set_option maxRecDepth 100000 in
theorem c_X6_type (l : Launch) (D : va_G) (T : xT) (x : Nat → Nat) {sz : Nat} {N : Nat} (u_this : K6) (u_this_text : K3) (u_this_text_bytes : (Nat → Int32)) (p1 : Int64) (p2 : Int32) {rv : Int32 × K3 × (Nat → Int32)} (hM : f_X6_type N u_this u_this_text u_this_text_bytes p1 p2 = some rv) : Met l yX6_type wsX6_type ({ frames := 1, cells := 0, slots := 0, locals := 24 } : Room) (va_Pc [.ref (x 0), .long p1, .int p2] (xPre D T [((x 0), .inr (6, o6 x u_this)), ((x 1), .inr (3, o3 (x 2) u_this_text)), ((x 2), .inl (T.1, 300, .inl u_this_text_bytes))] sz xE0)) (va_Qi (fun (r : Int32) (_ : Unit) => r = rv.1) (fun _ => xPost D T [((x 0), .inr (6, o6 x u_this)), ((x 1), .inr (3, o3 (x 2) rv.2.1)), ((x 2), .inl (T.1, 300, .inl rv.2.2))] (va_A [((x 0), .inr (6, o6 x u_this)), ((x 1), .inr (3, o3 (x 2) u_this_text)), ((x 2), .inl (T.1, 300, .inl u_this_text_bytes))] sz)) (va_A [((x 0), .inr (6, o6 x u_this)), ((x 1), .inr (3, o3 (x 2) u_this_text)), ((x 2), .inl (T.1, 300, .inl u_this_text_bytes))] sz)) 0 0 (va_A [((x 0), .inr (6, o6 x u_this)), ((x 1), .inr (3, o3 (x 2) u_this_text)), ((x 2), .inl (T.1, 300, .inl u_this_text_bytes))] sz) := by
  refine xMet (av := [.ref (x 0), .long p1, .int p2]) (Wd := [((x 0), .inr (6, o6 x u_this)), ((x 1), .inr (3, o3 (x 2) u_this_text)), ((x 2), .inl (T.1, 300, .inl u_this_text_bytes))]) (E := xE0) (Qc := fun A => (va_Qi (fun (r : Int32) (_ : Unit) => r = rv.1) (fun _ => xPost D T [((x 0), .inr (6, o6 x u_this)), ((x 1), .inr (3, o3 (x 2) rv.2.1)), ((x 2), .inl (T.1, 300, .inl rv.2.2))] A) A)) (cc := cX6_type) (maxL := 4) (ret := (some .int)) (by decide) rfl (Nat.le_of_ble_eq_true rfl) ?_
  intro p e s m below meth c A ls hx hb hr hml hts hown hlocks hnm hP hK hD hS hA hE hl
  have hown : s.vm.findClass RX6 = some m.cls := hown
  have hl : lv_has ls 4 [(0, .ref (x 0)), (1, .long p1), (3, .int p2)] := hl
  unfold f_X6_type at hM
  refine lv_iload_n hx hb dX6_type_0 rfl (lv_at hl 2 rfl) ?_
  refine lv_iconst (v := 1) hx hb dX6_type_1 (by decide) ?_
  refine lv_bipush (v := 8) hx hb dX6_type_2 (by decide) ?_
  refine xafti (rv := (f_X6_outside p2 (1) (8))) (W2 := [((x 0), .inr (6, o6 x u_this)), ((x 1), .inr (3, o3 (x 2) u_this_text)), ((x 2), .inl (T.1, 300, .inl u_this_text_bytes))]) (va_runS (As := [.int p2, .int (1), .int (8)]) (rest := []) ⟨hx, hb, hml, hown, hts⟩ (c_X6_outside (rv := (f_X6_outside p2 (1) (8))) l D T p2 (1) (8) rfl) (cwS 3 hts gX6_type_X6_outside rfl rfl rfl (by decide +kernel) ⟨Nat.le_of_ble_eq_true rfl, Nat.le_of_ble_eq_true rfl⟩) (xpvs hP hD hK [] (by decide) rfl (fun _ _ _ => trivial) (fun _ _ _ _ _ _ => trivial)) rfl rfl hl.1 rfl (lv_room (Nat.le_of_ble_eq_true rfl)) dX6_type_4 ⟨Nat.le_of_ble_eq_true rfl, Nat.le_of_ble_eq_true rfl⟩) hP hD hS hA [] rfl rfl rfl rfl (fun H locs hP hD hS => ?_)
  refine lv_if_eq (tgt := 12) hx hb dX6_type_7 (by decide) (fun c1 => ?_) (fun c1 => ?_)
  · have hM := xit c1 hM
    refine lv_aload_n hx hb dX6_type_12 rfl (lv_at hl 0 rfl) ?_
    refine va_get (D := D) (ci := 6) (v := .ref (x 1)) (C := RX6) (T := TX6) (N := 16) hx hb hts (fun w h => List.mem_cons_of_mem _ (List.mem_append_left _ (List.mem_append_right _ h))) hown hK hP 0 rfl rfl 0 (by decide) (hts _ (List.mem_of_getElem? (i := 1) rfl)) (fun _ h9 => h9) rfl dX6_type_13 ?_
    refine lv_lload_n hx hb dX6_type_16 rfl (lv_at hl 1 rfl) ?_
    refine lv_iload_n hx hb dX6_type_17 rfl (lv_at hl 2 rfl) ?_
    obtain ⟨r2, er2, hM⟩ := xbd hM
    refine xafti (rv := r2.1) (W2 := [((x 0), .inr (6, o6 x u_this)), ((x 1), .inr (3, o3 (x 2) r2.2.1)), ((x 2), .inl (T.1, 300, .inl r2.2.2))]) (va_runV (As := [.long p1, .int p2]) (rest := []) ⟨hx, hb, hml, hown, hts⟩ (c_X3_add l D T (x 1) (x 2) u_this_text u_this_text_bytes p1 p2 er2) (cwV 2 hts gX6_type_X3_add rfl rfl rfl (by decide +kernel) ⟨Nat.le_of_ble_eq_true rfl, Nat.le_of_ble_eq_true rfl⟩) (xpvv hP hD hK [1, 2] (by decide) rfl 0 3 rfl rfl (fun _ _ _ => trivial) (fun _ _ _ _ _ _ => trivial)) rfl rfl hl.1 rfl (lv_room (Nat.le_of_ble_eq_true rfl)) dX6_type_18 ⟨Nat.le_of_ble_eq_true rfl, Nat.le_of_ble_eq_true rfl⟩) hP hD hS hA [1, 2] rfl rfl rfl rfl (fun H locs hP hD hS => ?_)
    obtain rfl := Option.some.inj hM
    exact xreti hx hb hr hlocks hP hK hD hS dX6_type_21 rfl
  · have hM := xif c1 hM
    refine lv_iconst (v := (-1)) hx hb dX6_type_10 (by decide) ?_
    obtain rfl := Option.some.inj hM
    exact xreti hx hb hr hlocks hP hK hD hS dX6_type_11 rfl
def f_X6_clear (u_this : K6) (u_this_text : K3) : Int32 × K3 :=
  ((f_X3_empty u_this_text).1, (f_X3_empty u_this_text).2)
set_option maxHeartbeats 4000000 in
set_option maxRecDepth 100000 in
theorem c_X6_clear (l : Launch) (D : va_G) (T : xT) (x : Nat → Nat) {sz : Nat} (u_this : K6) (u_this_text : K3) {rv : Int32 × K3} (hM : f_X6_clear u_this u_this_text = rv) : Met l yX6_clear wsX6_clear ({ frames := 1, cells := 0, slots := 0, locals := 21 } : Room) (va_Pc [.ref (x 0)] (xPre D T [((x 0), .inr (6, o6 x u_this)), ((x 1), .inr (3, o3 (x 2) u_this_text))] sz xE0)) (va_Qi (fun (r : Int32) (_ : Unit) => r = rv.1) (fun _ => xPost D T [((x 0), .inr (6, o6 x u_this)), ((x 1), .inr (3, o3 (x 2) rv.2))] (va_A [((x 0), .inr (6, o6 x u_this)), ((x 1), .inr (3, o3 (x 2) u_this_text))] sz)) (va_A [((x 0), .inr (6, o6 x u_this)), ((x 1), .inr (3, o3 (x 2) u_this_text))] sz)) 0 0 (va_A [((x 0), .inr (6, o6 x u_this)), ((x 1), .inr (3, o3 (x 2) u_this_text))] sz) := by
  refine xMet (av := [.ref (x 0)]) (Wd := [((x 0), .inr (6, o6 x u_this)), ((x 1), .inr (3, o3 (x 2) u_this_text))]) (E := xE0) (Qc := fun A => (va_Qi (fun (r : Int32) (_ : Unit) => r = rv.1) (fun _ => xPost D T [((x 0), .inr (6, o6 x u_this)), ((x 1), .inr (3, o3 (x 2) rv.2))] A) A)) (cc := cX6_clear) (maxL := 1) (ret := (some .int)) (by decide) rfl (Nat.le_of_ble_eq_true rfl) ?_
  intro p e s m below meth c A ls hx hb hr hml hts hown hlocks hnm hP hK hD hS hA hE hl
  have hown : s.vm.findClass RX6 = some m.cls := hown
  have hl : lv_has ls 1 [(0, .ref (x 0))] := hl
  unfold f_X6_clear at hM
  refine lv_aload_n hx hb dX6_clear_0 rfl (lv_at hl 0 rfl) ?_
  refine va_get (D := D) (ci := 6) (v := .ref (x 1)) (C := RX6) (T := TX6) (N := 16) hx hb hts (fun w h => List.mem_cons_of_mem _ (List.mem_append_left _ (List.mem_append_right _ h))) hown hK hP 0 rfl rfl 0 (by decide) (hts _ (List.mem_of_getElem? (i := 1) rfl)) (fun _ h9 => h9) rfl dX6_clear_1 ?_
  refine xafti (rv := (f_X3_empty u_this_text).1) (W2 := [((x 0), .inr (6, o6 x u_this)), ((x 1), .inr (3, o3 (x 2) ((f_X3_empty u_this_text).2)))]) (va_runV (As := []) (rest := []) ⟨hx, hb, hml, hown, hts⟩ (c_X3_empty (rv := (f_X3_empty u_this_text)) l D T (x 1) (x 2) u_this_text rfl) (cwV 0 hts gX6_clear_X3_empty rfl rfl rfl (by decide +kernel) ⟨Nat.le_of_ble_eq_true rfl, Nat.le_of_ble_eq_true rfl⟩) (xpvv hP hD hK [1] (by decide) rfl 0 3 rfl rfl (fun _ _ _ => trivial) (fun _ _ _ _ _ _ => trivial)) rfl rfl hl.1 rfl (lv_room (Nat.le_of_ble_eq_true rfl)) dX6_clear_4 ⟨Nat.le_of_ble_eq_true rfl, Nat.le_of_ble_eq_true rfl⟩) hP hD hS hA [1] rfl rfl rfl rfl (fun H locs hP hD hS => ?_)
  obtain rfl := hM
  exact xreti hx hb hr hlocks hP hK hD hS dX6_clear_7 rfl
def f_X6_pump (N : Nat) (u_this : K6) (u_this_text : K3) (u_this_text_bytes : (Nat → Int32)) (u_this_yard : K4) (u_this_column : K0) (u_this_kept : (Nat → Int32)) (u_this_other : K4) : Option (Int32 × K3 × K4 × K0 × (Nat → Int32) × K4) :=
  (f_X3_read N u_this_text u_this_text_bytes u_this_other).bind fun r1 =>
  if (0) ≤ r1.1 then
   ((some (f_X3_empty r1.2.1) : Option (Int32 × K3)).bind fun r3 =>
    (f_X4_beLike N u_this_yard r1.2.2).bind fun r4 =>
    (f_X0_startEmpty u_this_column r4).bind fun r5 =>
    some (r1.1, r3.2, r4, r5, (upd (upd u_this_kept (0) (0)) (1) (0)), r1.2.2))
  else
   (some (r1.1, r1.2.1, u_this_yard, u_this_column, u_this_kept, r1.2.2))
set_option maxHeartbeats 4000000 in
set_option maxRecDepth 100000 in
theorem c_X6_pump (l : Launch) (D : va_G) (T : xT) (k : xK) (x : Nat → Nat) {sz : Nat} {N : Nat} (u_this : K6) (u_this_text : K3) (u_this_text_bytes : (Nat → Int32)) (u_this_yard : K4) (u_this_column : K0) (u_this_kept : (Nat → Int32)) (u_this_other : K4) {rv : Int32 × K3 × K4 × K0 × (Nat → Int32) × K4} (hM : f_X6_pump N u_this u_this_text u_this_text_bytes u_this_yard u_this_column u_this_kept u_this_other = some rv) : Met l yX6_pump wsX6_pump ({ frames := 9, cells := 0, slots := 0, locals := 193 } : Room) (va_Pc [.ref (x 0)] (xPre D T [((x 0), .inr (6, o6 x u_this)), ((x 1), .inr (3, o3 (x 2) u_this_text)), ((x 2), .inl (T.1, 300, .inl u_this_text_bytes)), ((x 3), .inr (4, o4 u_this_yard)), ((x 4), .inr (0, o0 u_this_column)), ((x 8), .inl (T.2.2.1, 2, .inl u_this_kept)), ((x 21), .inr (4, o4 u_this_other))] sz (xE1 k))) (va_Qi (fun (r : Int32) (_ : Unit) => r = rv.1) (fun _ => xPost D T [((x 0), .inr (6, o6 x u_this)), ((x 1), .inr (3, o3 (x 2) rv.2.1)), ((x 2), .inl (T.1, 300, .inl u_this_text_bytes)), ((x 3), .inr (4, o4 rv.2.2.1)), ((x 4), .inr (0, o0 rv.2.2.2.1)), ((x 8), .inl (T.2.2.1, 2, .inl rv.2.2.2.2.1)), ((x 21), .inr (4, o4 rv.2.2.2.2.2))] (va_A [((x 0), .inr (6, o6 x u_this)), ((x 1), .inr (3, o3 (x 2) u_this_text)), ((x 2), .inl (T.1, 300, .inl u_this_text_bytes)), ((x 3), .inr (4, o4 u_this_yard)), ((x 4), .inr (0, o0 u_this_column)), ((x 8), .inl (T.2.2.1, 2, .inl u_this_kept)), ((x 21), .inr (4, o4 u_this_other))] sz)) (va_A [((x 0), .inr (6, o6 x u_this)), ((x 1), .inr (3, o3 (x 2) u_this_text)), ((x 2), .inl (T.1, 300, .inl u_this_text_bytes)), ((x 3), .inr (4, o4 u_this_yard)), ((x 4), .inr (0, o0 u_this_column)), ((x 8), .inl (T.2.2.1, 2, .inl u_this_kept)), ((x 21), .inr (4, o4 u_this_other))] sz)) 0 0 (va_A [((x 0), .inr (6, o6 x u_this)), ((x 1), .inr (3, o3 (x 2) u_this_text)), ((x 2), .inl (T.1, 300, .inl u_this_text_bytes)), ((x 3), .inr (4, o4 u_this_yard)), ((x 4), .inr (0, o0 u_this_column)), ((x 8), .inl (T.2.2.1, 2, .inl u_this_kept)), ((x 21), .inr (4, o4 u_this_other))] sz) := by
  refine xMet (av := [.ref (x 0)]) (Wd := [((x 0), .inr (6, o6 x u_this)), ((x 1), .inr (3, o3 (x 2) u_this_text)), ((x 2), .inl (T.1, 300, .inl u_this_text_bytes)), ((x 3), .inr (4, o4 u_this_yard)), ((x 4), .inr (0, o0 u_this_column)), ((x 8), .inl (T.2.2.1, 2, .inl u_this_kept)), ((x 21), .inr (4, o4 u_this_other))]) (E := (xE1 k)) (Qc := fun A => (va_Qi (fun (r : Int32) (_ : Unit) => r = rv.1) (fun _ => xPost D T [((x 0), .inr (6, o6 x u_this)), ((x 1), .inr (3, o3 (x 2) rv.2.1)), ((x 2), .inl (T.1, 300, .inl u_this_text_bytes)), ((x 3), .inr (4, o4 rv.2.2.1)), ((x 4), .inr (0, o0 rv.2.2.2.1)), ((x 8), .inl (T.2.2.1, 2, .inl rv.2.2.2.2.1)), ((x 21), .inr (4, o4 rv.2.2.2.2.2))] A) A)) (cc := cX6_pump) (maxL := 2) (ret := (some .int)) (by decide) rfl (Nat.le_of_ble_eq_true rfl) ?_
  intro p e s m below meth c A ls hx hb hr hml hts hown hlocks hnm hP hK hD hS hA hE hl
  have hown : s.vm.findClass RX6 = some m.cls := hown
  have hl : lv_has ls 2 [(0, .ref (x 0))] := hl
  unfold f_X6_pump at hM
  refine lv_aload_n hx hb dX6_pump_0 rfl (lv_at hl 0 rfl) ?_
  refine va_get (D := D) (ci := 6) (v := .ref (x 1)) (C := RX6) (T := TX6) (N := 16) hx hb hts (fun w h => List.mem_cons_of_mem _ (List.mem_append_left _ (List.mem_append_left _ (List.mem_append_left _ (List.mem_append_right _ h))))) hown hK hP 0 rfl rfl 0 (by decide) (hts _ (List.mem_of_getElem? (i := 1) rfl)) (fun _ h9 => h9) rfl dX6_pump_1 ?_
  refine lv_aload_n hx hb dX6_pump_4 rfl (lv_at hl 0 rfl) ?_
  refine va_get (D := D) (ci := 6) (v := .ref (x 21)) (C := RX6) (T := TX6) (N := 16) hx hb hts (fun w h => List.mem_cons_of_mem _ (List.mem_append_left _ (List.mem_append_left _ (List.mem_append_left _ (List.mem_append_right _ h))))) hown hK hP 0 rfl rfl 11 (by decide) (hts _ (List.mem_of_getElem? (i := 2) rfl)) (fun _ h9 => h9) rfl dX6_pump_5 ?_
  obtain ⟨r1, er1, hM⟩ := xbd hM
  refine xafti (rv := r1.1) (W2 := [((x 0), .inr (6, o6 x u_this)), ((x 1), .inr (3, o3 (x 2) r1.2.1)), ((x 2), .inl (T.1, 300, .inl u_this_text_bytes)), ((x 3), .inr (4, o4 u_this_yard)), ((x 4), .inr (0, o0 u_this_column)), ((x 8), .inl (T.2.2.1, 2, .inl u_this_kept)), ((x 21), .inr (4, o4 r1.2.2))]) (va_runV (As := [.ref (x 21)]) (rest := []) ⟨hx, hb, hml, hown, hts⟩ (c_X3_read l D T k (x 1) (x 2) (x 21) u_this_text u_this_text_bytes u_this_other er1) (cwV 1 hts gX6_pump_X3_read rfl rfl rfl (by decide +kernel) ⟨Nat.le_of_ble_eq_true rfl, Nat.le_of_ble_eq_true rfl⟩) (xpvv hP hD hK [1, 2, 6] (by decide) rfl 0 3 rfl rfl (fun U hU hW => xE1_at hE hS hU hW (va_free hD hS hA [1, 2, 6] rfl)) xE1_blind) rfl rfl hl.1 rfl (lv_room (Nat.le_of_ble_eq_true rfl)) dX6_pump_8 ⟨Nat.le_of_ble_eq_true rfl, Nat.le_of_ble_eq_true rfl⟩) hP hD hS hA [1, 2, 6] rfl rfl rfl rfl (fun H locs hP hD hS => ?_)
  refine lv_istore_n (lv' := [(1, .int r1.1), (0, .ref (x 0))]) hx hb dX6_pump_11 rfl hl (by decide) rfl (fun ls hl => ?_)
  refine lv_iload_n hx hb dX6_pump_12 rfl (lv_at hl 0 rfl) ?_
  refine lv_if_ge (tgt := 18) hx hb dX6_pump_13 (by decide) (fun c2 => ?_) (fun c2 => ?_)
  · have hM := xit c2 hM
    refine lv_aload_n hx hb dX6_pump_18 rfl (lv_at hl 1 rfl) ?_
    refine va_get (D := D) (ci := 6) (v := .ref (x 1)) (C := RX6) (T := TX6) (N := 16) hx hb hts (fun w h => List.mem_cons_of_mem _ (List.mem_append_left _ (List.mem_append_left _ (List.mem_append_left _ (List.mem_append_right _ h))))) hown hK hP 0 rfl rfl 0 (by decide) (hts _ (List.mem_of_getElem? (i := 1) rfl)) (fun _ h9 => h9) rfl dX6_pump_19 ?_
    obtain ⟨r3, er3, hM⟩ := xbd hM
    refine xafti (rv := r3.1) (W2 := [((x 0), .inr (6, o6 x u_this)), ((x 1), .inr (3, o3 (x 2) r3.2)), ((x 2), .inl (T.1, 300, .inl u_this_text_bytes)), ((x 3), .inr (4, o4 u_this_yard)), ((x 4), .inr (0, o0 u_this_column)), ((x 8), .inl (T.2.2.1, 2, .inl u_this_kept)), ((x 21), .inr (4, o4 r1.2.2))]) (va_runV (As := []) (rest := []) ⟨hx, hb, hml, hown, hts⟩ (c_X3_empty l D T (x 1) (x 2) r1.2.1 (Option.some.inj er3)) (cwV 0 hts gX6_pump_X3_empty rfl rfl rfl (by decide +kernel) ⟨Nat.le_of_ble_eq_true rfl, Nat.le_of_ble_eq_true rfl⟩) (xpvv hP hD hK [1] (by decide) rfl 0 3 rfl rfl (fun _ _ _ => trivial) (fun _ _ _ _ _ _ => trivial)) rfl rfl hl.1 rfl (lv_room (Nat.le_of_ble_eq_true rfl)) dX6_pump_22 ⟨Nat.le_of_ble_eq_true rfl, Nat.le_of_ble_eq_true rfl⟩) hP hD hS hA [1] rfl rfl rfl rfl (fun H locs hP hD hS => ?_)
    refine lv_pop hx hb dX6_pump_25 rfl ?_
    refine lv_aload_n hx hb dX6_pump_26 rfl (lv_at hl 1 rfl) ?_
    refine va_get (D := D) (ci := 6) (v := .ref (x 3)) (C := RX6) (T := TX6) (N := 16) hx hb hts (fun w h => List.mem_cons_of_mem _ (List.mem_append_left _ (List.mem_append_left _ (List.mem_append_left _ (List.mem_append_right _ h))))) hown hK hP 0 rfl rfl 1 (by decide) (hts _ (List.mem_of_getElem? (i := 3) rfl)) (fun _ h9 => h9) rfl dX6_pump_27 ?_
    refine lv_aload_n hx hb dX6_pump_30 rfl (lv_at hl 1 rfl) ?_
    refine va_get (D := D) (ci := 6) (v := .ref (x 21)) (C := RX6) (T := TX6) (N := 16) hx hb hts (fun w h => List.mem_cons_of_mem _ (List.mem_append_left _ (List.mem_append_left _ (List.mem_append_left _ (List.mem_append_right _ h))))) hown hK hP 0 rfl rfl 11 (by decide) (hts _ (List.mem_of_getElem? (i := 2) rfl)) (fun _ h9 => h9) rfl dX6_pump_31 ?_
    obtain ⟨r4, er4, hM⟩ := xbd hM
    refine xaftv (W2 := [((x 0), .inr (6, o6 x u_this)), ((x 1), .inr (3, o3 (x 2) r3.2)), ((x 2), .inl (T.1, 300, .inl u_this_text_bytes)), ((x 3), .inr (4, o4 r4)), ((x 4), .inr (0, o0 u_this_column)), ((x 8), .inl (T.2.2.1, 2, .inl u_this_kept)), ((x 21), .inr (4, o4 r1.2.2))]) (va_runV (As := [.ref (x 21)]) (rest := []) ⟨hx, hb, hml, hown, hts⟩ (c_X4_beLike l D T (x 3) (x 21) u_this_yard r1.2.2 er4) (cwV 1 hts gX6_pump_X4_beLike rfl rfl rfl (by decide +kernel) ⟨Nat.le_of_ble_eq_true rfl, Nat.le_of_ble_eq_true rfl⟩) (xpvv hP hD hK [3, 6] (by decide) rfl 0 4 rfl rfl (fun _ _ _ => trivial) (fun _ _ _ _ _ _ => trivial)) rfl rfl hl.1 rfl (lv_room (Nat.le_of_ble_eq_true rfl)) dX6_pump_34 ⟨Nat.le_of_ble_eq_true rfl, Nat.le_of_ble_eq_true rfl⟩) hP hD hS hA [3, 6] rfl rfl rfl rfl (fun H locs hP hD hS => ?_)
    refine lv_aload_n hx hb dX6_pump_37 rfl (lv_at hl 1 rfl) ?_
    refine va_get (D := D) (ci := 6) (v := .ref (x 4)) (C := RX6) (T := TX6) (N := 16) hx hb hts (fun w h => List.mem_cons_of_mem _ (List.mem_append_left _ (List.mem_append_left _ (List.mem_append_left _ (List.mem_append_right _ h))))) hown hK hP 0 rfl rfl 2 (by decide) (hts _ (List.mem_of_getElem? (i := 4) rfl)) (fun _ h9 => h9) rfl dX6_pump_38 ?_
    refine lv_aload_n hx hb dX6_pump_41 rfl (lv_at hl 1 rfl) ?_
    refine va_get (D := D) (ci := 6) (v := .ref (x 3)) (C := RX6) (T := TX6) (N := 16) hx hb hts (fun w h => List.mem_cons_of_mem _ (List.mem_append_left _ (List.mem_append_left _ (List.mem_append_left _ (List.mem_append_right _ h))))) hown hK hP 0 rfl rfl 1 (by decide) (hts _ (List.mem_of_getElem? (i := 3) rfl)) (fun _ h9 => h9) rfl dX6_pump_42 ?_
    obtain ⟨r5, er5, hM⟩ := xbd hM
    refine xaftv (W2 := [((x 0), .inr (6, o6 x u_this)), ((x 1), .inr (3, o3 (x 2) r3.2)), ((x 2), .inl (T.1, 300, .inl u_this_text_bytes)), ((x 3), .inr (4, o4 r4)), ((x 4), .inr (0, o0 r5)), ((x 8), .inl (T.2.2.1, 2, .inl u_this_kept)), ((x 21), .inr (4, o4 r1.2.2))]) (va_runV (As := [.ref (x 3)]) (rest := []) ⟨hx, hb, hml, hown, hts⟩ (c_X0_startEmpty l D T (x 4) (x 3) u_this_column r4 er5) (cwV 1 hts gX6_pump_X0_startEmpty rfl rfl rfl (by decide +kernel) ⟨Nat.le_of_ble_eq_true rfl, Nat.le_of_ble_eq_true rfl⟩) (xpvv hP hD hK [4, 3] (by decide) rfl 0 0 rfl rfl (fun _ _ _ => trivial) (fun _ _ _ _ _ _ => trivial)) rfl rfl hl.1 rfl (lv_room (Nat.le_of_ble_eq_true rfl)) dX6_pump_45 ⟨Nat.le_of_ble_eq_true rfl, Nat.le_of_ble_eq_true rfl⟩) hP hD hS hA [4, 3] rfl rfl rfl rfl (fun H locs hP hD hS => ?_)
    refine lv_aload_n hx hb dX6_pump_48 rfl (lv_at hl 1 rfl) ?_
    refine va_get (D := D) (ci := 6) (v := .ref (x 8)) (C := RX6) (T := TX6) (N := 16) hx hb hts (fun w h => List.mem_cons_of_mem _ (List.mem_append_left _ (List.mem_append_left _ (List.mem_append_left _ (List.mem_append_right _ h))))) hown hK hP 0 rfl rfl 4 (by decide) (hts _ (List.mem_of_getElem? (i := 5) rfl)) (fun _ h9 => h9) rfl dX6_pump_49 ?_
    refine lv_iconst (v := 0) hx hb dX6_pump_52 (by decide) ?_
    refine lv_iconst (v := 0) hx hb dX6_pump_53 (by decide) ?_
    refine xzst hx hb hK hP hD hS 5 2 rfl rfl (xin_vp (by decide)) (show (0 : Int32).toNatClampNeg = 0 by decide) (y := 0) (by decide) dX6_pump_54 (fun H locs hP hD hS => ?_)
    have hP : va_P D vwCl [((x 0), .inr (6, o6 x u_this)), ((x 1), .inr (3, o3 (x 2) r3.2)), ((x 2), .inl (T.1, 300, .inl u_this_text_bytes)), ((x 3), .inr (4, o4 r4)), ((x 4), .inr (0, o0 r5)), ((x 8), .inl (T.2.2.1, 2, .inl (upd u_this_kept (0) (0)))), ((x 21), .inr (4, o4 r1.2.2))] H := hP
    have hD : va_D A [((x 0), .inr (6, o6 x u_this)), ((x 1), .inr (3, o3 (x 2) r3.2)), ((x 2), .inl (T.1, 300, .inl u_this_text_bytes)), ((x 3), .inr (4, o4 r4)), ((x 4), .inr (0, o0 r5)), ((x 8), .inl (T.2.2.1, 2, .inl (upd u_this_kept (0) (0)))), ((x 21), .inr (4, o4 r1.2.2))] := hD
    refine lv_aload_n hx hb dX6_pump_55 rfl (lv_at hl 1 rfl) ?_
    refine va_get (D := D) (ci := 6) (v := .ref (x 8)) (C := RX6) (T := TX6) (N := 16) hx hb hts (fun w h => List.mem_cons_of_mem _ (List.mem_append_left _ (List.mem_append_left _ (List.mem_append_left _ (List.mem_append_right _ h))))) hown hK hP 0 rfl rfl 4 (by decide) (hts _ (List.mem_of_getElem? (i := 5) rfl)) (fun _ h9 => h9) rfl dX6_pump_56 ?_
    refine lv_iconst (v := 1) hx hb dX6_pump_59 (by decide) ?_
    refine lv_iconst (v := 0) hx hb dX6_pump_60 (by decide) ?_
    refine xzst hx hb hK hP hD hS 5 2 rfl rfl (xin_vp (by decide)) (show (1 : Int32).toNatClampNeg = 1 by decide) (y := 0) (by decide) dX6_pump_61 (fun H locs hP hD hS => ?_)
    have hP : va_P D vwCl [((x 0), .inr (6, o6 x u_this)), ((x 1), .inr (3, o3 (x 2) r3.2)), ((x 2), .inl (T.1, 300, .inl u_this_text_bytes)), ((x 3), .inr (4, o4 r4)), ((x 4), .inr (0, o0 r5)), ((x 8), .inl (T.2.2.1, 2, .inl (upd (upd u_this_kept (0) (0)) (1) (0)))), ((x 21), .inr (4, o4 r1.2.2))] H := hP
    have hD : va_D A [((x 0), .inr (6, o6 x u_this)), ((x 1), .inr (3, o3 (x 2) r3.2)), ((x 2), .inl (T.1, 300, .inl u_this_text_bytes)), ((x 3), .inr (4, o4 r4)), ((x 4), .inr (0, o0 r5)), ((x 8), .inl (T.2.2.1, 2, .inl (upd (upd u_this_kept (0) (0)) (1) (0)))), ((x 21), .inr (4, o4 r1.2.2))] := hD
    refine lv_iload_n hx hb dX6_pump_62 rfl (lv_at hl 0 rfl) ?_
    obtain rfl := Option.some.inj hM
    exact xreti hx hb hr hlocks hP hK hD hS dX6_pump_63 rfl
  · have hM := xif c2 hM
    refine lv_iload_n hx hb dX6_pump_16 rfl (lv_at hl 0 rfl) ?_
    obtain rfl := Option.some.inj hM
    exact xreti hx hb hr hlocks hP hK hD hS dX6_pump_17 rfl
def f_X6_told (u_this : K6) (u_this_yard : K4) (p1 : Int32) : Int32 :=
  if (f_X6_outside p1 (0) (10)) = (0) then
   ((f_X4_get u_this_yard p1))
  else
   ((-1))
set_option maxHeartbeats 4000000 in
set_option maxRecDepth 100000 in
theorem c_X6_told (l : Launch) (D : va_G) (T : xT) (x : Nat → Nat) {sz : Nat} (u_this : K6) (u_this_yard : K4) (p1 : Int32) {rv : Int32} (hM : f_X6_told u_this u_this_yard p1 = rv) : Met l yX6_told wsX6_told ({ frames := 1, cells := 0, slots := 0, locals := 22 } : Room) (va_Pc [.ref (x 0), .int p1] (xPre D T [((x 0), .inr (6, o6 x u_this)), ((x 3), .inr (4, o4 u_this_yard))] sz xE0)) (va_Qi (fun (r : Int32) (_ : Unit) => r = rv) (fun _ => xPost D T [((x 0), .inr (6, o6 x u_this)), ((x 3), .inr (4, o4 u_this_yard))] (va_A [((x 0), .inr (6, o6 x u_this)), ((x 3), .inr (4, o4 u_this_yard))] sz)) (va_A [((x 0), .inr (6, o6 x u_this)), ((x 3), .inr (4, o4 u_this_yard))] sz)) 0 0 (va_A [((x 0), .inr (6, o6 x u_this)), ((x 3), .inr (4, o4 u_this_yard))] sz) := by
  refine xMet (av := [.ref (x 0), .int p1]) (Wd := [((x 0), .inr (6, o6 x u_this)), ((x 3), .inr (4, o4 u_this_yard))]) (E := xE0) (Qc := fun A => (va_Qi (fun (r : Int32) (_ : Unit) => r = rv) (fun _ => xPost D T [((x 0), .inr (6, o6 x u_this)), ((x 3), .inr (4, o4 u_this_yard))] A) A)) (cc := cX6_told) (maxL := 2) (ret := (some .int)) (by decide) rfl (Nat.le_of_ble_eq_true rfl) ?_
  intro p e s m below meth c A ls hx hb hr hml hts hown hlocks hnm hP hK hD hS hA hE hl
  have hown : s.vm.findClass RX6 = some m.cls := hown
  have hl : lv_has ls 2 [(0, .ref (x 0)), (1, .int p1)] := hl
  unfold f_X6_told at hM
  refine lv_iload_n hx hb dX6_told_0 rfl (lv_at hl 1 rfl) ?_
  refine lv_iconst (v := 0) hx hb dX6_told_1 (by decide) ?_
  refine lv_bipush (v := 10) hx hb dX6_told_2 (by decide) ?_
  refine xafti (rv := (f_X6_outside p1 (0) (10))) (W2 := [((x 0), .inr (6, o6 x u_this)), ((x 3), .inr (4, o4 u_this_yard))]) (va_runS (As := [.int p1, .int (0), .int (10)]) (rest := []) ⟨hx, hb, hml, hown, hts⟩ (c_X6_outside (rv := (f_X6_outside p1 (0) (10))) l D T p1 (0) (10) rfl) (cwS 3 hts gX6_told_X6_outside rfl rfl rfl (by decide +kernel) ⟨Nat.le_of_ble_eq_true rfl, Nat.le_of_ble_eq_true rfl⟩) (xpvs hP hD hK [] (by decide) rfl (fun _ _ _ => trivial) (fun _ _ _ _ _ _ => trivial)) rfl rfl hl.1 rfl (lv_room (Nat.le_of_ble_eq_true rfl)) dX6_told_4 ⟨Nat.le_of_ble_eq_true rfl, Nat.le_of_ble_eq_true rfl⟩) hP hD hS hA [] rfl rfl rfl rfl (fun H locs hP hD hS => ?_)
  refine lv_if_eq (tgt := 12) hx hb dX6_told_7 (by decide) (fun c1 => ?_) (fun c1 => ?_)
  · have hM := xit c1 hM
    refine lv_aload_n hx hb dX6_told_12 rfl (lv_at hl 0 rfl) ?_
    refine va_get (D := D) (ci := 6) (v := .ref (x 3)) (C := RX6) (T := TX6) (N := 16) hx hb hts (fun w h => List.mem_cons_of_mem _ (List.mem_append_left _ (List.mem_append_right _ h))) hown hK hP 0 rfl rfl 1 (by decide) (hts _ (List.mem_of_getElem? (i := 1) rfl)) (fun _ h9 => h9) rfl dX6_told_13 ?_
    refine lv_iload_n hx hb dX6_told_16 rfl (lv_at hl 1 rfl) ?_
    refine xafti (rv := (f_X4_get u_this_yard p1)) (W2 := [((x 0), .inr (6, o6 x u_this)), ((x 3), .inr (4, o4 u_this_yard))]) (va_runV (As := [.int p1]) (rest := []) ⟨hx, hb, hml, hown, hts⟩ (c_X4_get (rv := (f_X4_get u_this_yard p1)) l D T (x 3) u_this_yard p1 rfl) (cwV 1 hts gX6_told_X4_get rfl rfl rfl (by decide +kernel) ⟨Nat.le_of_ble_eq_true rfl, Nat.le_of_ble_eq_true rfl⟩) (xpvv hP hD hK [1] (by decide) rfl 0 4 rfl rfl (fun _ _ _ => trivial) (fun _ _ _ _ _ _ => trivial)) rfl rfl hl.1 rfl (lv_room (Nat.le_of_ble_eq_true rfl)) dX6_told_17 ⟨Nat.le_of_ble_eq_true rfl, Nat.le_of_ble_eq_true rfl⟩) hP hD hS hA [1] rfl rfl rfl rfl (fun H locs hP hD hS => ?_)
    obtain rfl := hM
    exact xreti hx hb hr hlocks hP hK hD hS dX6_told_20 rfl
  · have hM := xif c1 hM
    refine lv_iconst (v := (-1)) hx hb dX6_told_10 (by decide) ?_
    obtain rfl := hM
    exact xreti hx hb hr hlocks hP hK hD hS dX6_told_11 rfl
def f_X6_strokes (N : Nat) (u_this : K6) (u_this_yard : K4) (u_this_column : K0) (p1 : Int32) : Option (Int32 × K0) :=
  if (f_X6_outside p1 (1) (200)) = (0) then
   ((f_X0_pull N u_this_column u_this_yard p1).bind fun r2 =>
    some (r2.1, r2.2))
  else
   (some ((-1), u_this_column))
set_option maxHeartbeats 4000000 in
set_option maxRecDepth 100000 in
theorem c_X6_strokes (l : Launch) (D : va_G) (T : xT) (x : Nat → Nat) {sz : Nat} {N : Nat} (u_this : K6) (u_this_yard : K4) (u_this_column : K0) (p1 : Int32) {rv : Int32 × K0} (hM : f_X6_strokes N u_this u_this_yard u_this_column p1 = some rv) : Met l yX6_strokes wsX6_strokes ({ frames := 4, cells := 0, slots := 0, locals := 94 } : Room) (va_Pc [.ref (x 0), .int p1] (xPre D T [((x 0), .inr (6, o6 x u_this)), ((x 3), .inr (4, o4 u_this_yard)), ((x 4), .inr (0, o0 u_this_column))] sz xE0)) (va_Qi (fun (r : Int32) (_ : Unit) => r = rv.1) (fun _ => xPost D T [((x 0), .inr (6, o6 x u_this)), ((x 3), .inr (4, o4 u_this_yard)), ((x 4), .inr (0, o0 rv.2))] (va_A [((x 0), .inr (6, o6 x u_this)), ((x 3), .inr (4, o4 u_this_yard)), ((x 4), .inr (0, o0 u_this_column))] sz)) (va_A [((x 0), .inr (6, o6 x u_this)), ((x 3), .inr (4, o4 u_this_yard)), ((x 4), .inr (0, o0 u_this_column))] sz)) 0 0 (va_A [((x 0), .inr (6, o6 x u_this)), ((x 3), .inr (4, o4 u_this_yard)), ((x 4), .inr (0, o0 u_this_column))] sz) := by
  refine xMet (av := [.ref (x 0), .int p1]) (Wd := [((x 0), .inr (6, o6 x u_this)), ((x 3), .inr (4, o4 u_this_yard)), ((x 4), .inr (0, o0 u_this_column))]) (E := xE0) (Qc := fun A => (va_Qi (fun (r : Int32) (_ : Unit) => r = rv.1) (fun _ => xPost D T [((x 0), .inr (6, o6 x u_this)), ((x 3), .inr (4, o4 u_this_yard)), ((x 4), .inr (0, o0 rv.2))] A) A)) (cc := cX6_strokes) (maxL := 2) (ret := (some .int)) (by decide) rfl (Nat.le_of_ble_eq_true rfl) ?_
  intro p e s m below meth c A ls hx hb hr hml hts hown hlocks hnm hP hK hD hS hA hE hl
  have hown : s.vm.findClass RX6 = some m.cls := hown
  have hl : lv_has ls 2 [(0, .ref (x 0)), (1, .int p1)] := hl
  unfold f_X6_strokes at hM
  refine lv_iload_n hx hb dX6_strokes_0 rfl (lv_at hl 1 rfl) ?_
  refine lv_iconst (v := 1) hx hb dX6_strokes_1 (by decide) ?_
  refine lv_sipush (v := 200) hx hb dX6_strokes_2 (by decide) ?_
  refine xafti (rv := (f_X6_outside p1 (1) (200))) (W2 := [((x 0), .inr (6, o6 x u_this)), ((x 3), .inr (4, o4 u_this_yard)), ((x 4), .inr (0, o0 u_this_column))]) (va_runS (As := [.int p1, .int (1), .int (200)]) (rest := []) ⟨hx, hb, hml, hown, hts⟩ (c_X6_outside (rv := (f_X6_outside p1 (1) (200))) l D T p1 (1) (200) rfl) (cwS 3 hts gX6_strokes_X6_outside rfl rfl rfl (by decide +kernel) ⟨Nat.le_of_ble_eq_true rfl, Nat.le_of_ble_eq_true rfl⟩) (xpvs hP hD hK [] (by decide) rfl (fun _ _ _ => trivial) (fun _ _ _ _ _ _ => trivial)) rfl rfl hl.1 rfl (lv_room (Nat.le_of_ble_eq_true rfl)) dX6_strokes_5 ⟨Nat.le_of_ble_eq_true rfl, Nat.le_of_ble_eq_true rfl⟩) hP hD hS hA [] rfl rfl rfl rfl (fun H locs hP hD hS => ?_)
  refine lv_if_eq (tgt := 13) hx hb dX6_strokes_8 (by decide) (fun c1 => ?_) (fun c1 => ?_)
  · have hM := xit c1 hM
    refine lv_aload_n hx hb dX6_strokes_13 rfl (lv_at hl 0 rfl) ?_
    refine va_get (D := D) (ci := 6) (v := .ref (x 4)) (C := RX6) (T := TX6) (N := 16) hx hb hts (fun w h => List.mem_cons_of_mem _ (List.mem_append_left _ (List.mem_append_left _ (List.mem_append_right _ h)))) hown hK hP 0 rfl rfl 2 (by decide) (hts _ (List.mem_of_getElem? (i := 1) rfl)) (fun _ h9 => h9) rfl dX6_strokes_14 ?_
    refine lv_aload_n hx hb dX6_strokes_17 rfl (lv_at hl 0 rfl) ?_
    refine va_get (D := D) (ci := 6) (v := .ref (x 3)) (C := RX6) (T := TX6) (N := 16) hx hb hts (fun w h => List.mem_cons_of_mem _ (List.mem_append_left _ (List.mem_append_left _ (List.mem_append_right _ h)))) hown hK hP 0 rfl rfl 1 (by decide) (hts _ (List.mem_of_getElem? (i := 2) rfl)) (fun _ h9 => h9) rfl dX6_strokes_18 ?_
    refine lv_iload_n hx hb dX6_strokes_21 rfl (lv_at hl 1 rfl) ?_
    obtain ⟨r2, er2, hM⟩ := xbd hM
    refine xafti (rv := r2.1) (W2 := [((x 0), .inr (6, o6 x u_this)), ((x 3), .inr (4, o4 u_this_yard)), ((x 4), .inr (0, o0 r2.2))]) (va_runV (As := [.ref (x 3), .int p1]) (rest := []) ⟨hx, hb, hml, hown, hts⟩ (c_X0_pull l D T (x 4) (x 3) u_this_column u_this_yard p1 er2) (cwV 2 hts gX6_strokes_X0_pull rfl rfl rfl (by decide +kernel) ⟨Nat.le_of_ble_eq_true rfl, Nat.le_of_ble_eq_true rfl⟩) (xpvv hP hD hK [2, 1] (by decide) rfl 0 0 rfl rfl (fun _ _ _ => trivial) (fun _ _ _ _ _ _ => trivial)) rfl rfl hl.1 rfl (lv_room (Nat.le_of_ble_eq_true rfl)) dX6_strokes_22 ⟨Nat.le_of_ble_eq_true rfl, Nat.le_of_ble_eq_true rfl⟩) hP hD hS hA [2, 1] rfl rfl rfl rfl (fun H locs hP hD hS => ?_)
    obtain rfl := Option.some.inj hM
    exact xreti hx hb hr hlocks hP hK hD hS dX6_strokes_25 rfl
  · have hM := xif c1 hM
    refine lv_iconst (v := (-1)) hx hb dX6_strokes_11 (by decide) ?_
    obtain rfl := Option.some.inj hM
    exact xreti hx hb hr hlocks hP hK hD hS dX6_strokes_12 rfl
def f_X6_jug (u_this : K6) (u_this_column : K0) (p1 : Int32) : Int32 × K0 :=
  if (f_X6_outside p1 (1) (99)) = (0) then
   (((f_X0_pour u_this_column p1).1, (f_X0_pour u_this_column p1).2))
  else
   (((-1), u_this_column))
set_option maxHeartbeats 4000000 in
set_option maxRecDepth 100000 in
theorem c_X6_jug (l : Launch) (D : va_G) (T : xT) (x : Nat → Nat) {sz : Nat} (u_this : K6) (u_this_column : K0) (p1 : Int32) {rv : Int32 × K0} (hM : f_X6_jug u_this u_this_column p1 = rv) : Met l yX6_jug wsX6_jug ({ frames := 2, cells := 0, slots := 0, locals := 36 } : Room) (va_Pc [.ref (x 0), .int p1] (xPre D T [((x 0), .inr (6, o6 x u_this)), ((x 4), .inr (0, o0 u_this_column))] sz xE0)) (va_Qi (fun (r : Int32) (_ : Unit) => r = rv.1) (fun _ => xPost D T [((x 0), .inr (6, o6 x u_this)), ((x 4), .inr (0, o0 rv.2))] (va_A [((x 0), .inr (6, o6 x u_this)), ((x 4), .inr (0, o0 u_this_column))] sz)) (va_A [((x 0), .inr (6, o6 x u_this)), ((x 4), .inr (0, o0 u_this_column))] sz)) 0 0 (va_A [((x 0), .inr (6, o6 x u_this)), ((x 4), .inr (0, o0 u_this_column))] sz) := by
  refine xMet (av := [.ref (x 0), .int p1]) (Wd := [((x 0), .inr (6, o6 x u_this)), ((x 4), .inr (0, o0 u_this_column))]) (E := xE0) (Qc := fun A => (va_Qi (fun (r : Int32) (_ : Unit) => r = rv.1) (fun _ => xPost D T [((x 0), .inr (6, o6 x u_this)), ((x 4), .inr (0, o0 rv.2))] A) A)) (cc := cX6_jug) (maxL := 2) (ret := (some .int)) (by decide) rfl (Nat.le_of_ble_eq_true rfl) ?_
  intro p e s m below meth c A ls hx hb hr hml hts hown hlocks hnm hP hK hD hS hA hE hl
  have hown : s.vm.findClass RX6 = some m.cls := hown
  have hl : lv_has ls 2 [(0, .ref (x 0)), (1, .int p1)] := hl
  unfold f_X6_jug at hM
  refine lv_iload_n hx hb dX6_jug_0 rfl (lv_at hl 1 rfl) ?_
  refine lv_iconst (v := 1) hx hb dX6_jug_1 (by decide) ?_
  refine lv_bipush (v := 99) hx hb dX6_jug_2 (by decide) ?_
  refine xafti (rv := (f_X6_outside p1 (1) (99))) (W2 := [((x 0), .inr (6, o6 x u_this)), ((x 4), .inr (0, o0 u_this_column))]) (va_runS (As := [.int p1, .int (1), .int (99)]) (rest := []) ⟨hx, hb, hml, hown, hts⟩ (c_X6_outside (rv := (f_X6_outside p1 (1) (99))) l D T p1 (1) (99) rfl) (cwS 3 hts gX6_jug_X6_outside rfl rfl rfl (by decide +kernel) ⟨Nat.le_of_ble_eq_true rfl, Nat.le_of_ble_eq_true rfl⟩) (xpvs hP hD hK [] (by decide) rfl (fun _ _ _ => trivial) (fun _ _ _ _ _ _ => trivial)) rfl rfl hl.1 rfl (lv_room (Nat.le_of_ble_eq_true rfl)) dX6_jug_4 ⟨Nat.le_of_ble_eq_true rfl, Nat.le_of_ble_eq_true rfl⟩) hP hD hS hA [] rfl rfl rfl rfl (fun H locs hP hD hS => ?_)
  refine lv_if_eq (tgt := 12) hx hb dX6_jug_7 (by decide) (fun c1 => ?_) (fun c1 => ?_)
  · have hM := xit c1 hM
    refine lv_aload_n hx hb dX6_jug_12 rfl (lv_at hl 0 rfl) ?_
    refine va_get (D := D) (ci := 6) (v := .ref (x 4)) (C := RX6) (T := TX6) (N := 16) hx hb hts (fun w h => List.mem_cons_of_mem _ (List.mem_append_left _ (List.mem_append_right _ h))) hown hK hP 0 rfl rfl 2 (by decide) (hts _ (List.mem_of_getElem? (i := 1) rfl)) (fun _ h9 => h9) rfl dX6_jug_13 ?_
    refine lv_iload_n hx hb dX6_jug_16 rfl (lv_at hl 1 rfl) ?_
    refine xafti (rv := (f_X0_pour u_this_column p1).1) (W2 := [((x 0), .inr (6, o6 x u_this)), ((x 4), .inr (0, o0 ((f_X0_pour u_this_column p1).2)))]) (va_runV (As := [.int p1]) (rest := []) ⟨hx, hb, hml, hown, hts⟩ (c_X0_pour (rv := (f_X0_pour u_this_column p1)) l D T (x 4) u_this_column p1 rfl) (cwV 1 hts gX6_jug_X0_pour rfl rfl rfl (by decide +kernel) ⟨Nat.le_of_ble_eq_true rfl, Nat.le_of_ble_eq_true rfl⟩) (xpvv hP hD hK [1] (by decide) rfl 0 0 rfl rfl (fun _ _ _ => trivial) (fun _ _ _ _ _ _ => trivial)) rfl rfl hl.1 rfl (lv_room (Nat.le_of_ble_eq_true rfl)) dX6_jug_17 ⟨Nat.le_of_ble_eq_true rfl, Nat.le_of_ble_eq_true rfl⟩) hP hD hS hA [1] rfl rfl rfl rfl (fun H locs hP hD hS => ?_)
    obtain rfl := hM
    exact xreti hx hb hr hlocks hP hK hD hS dX6_jug_20 rfl
  · have hM := xif c1 hM
    refine lv_iconst (v := (-1)) hx hb dX6_jug_10 (by decide) ?_
    obtain rfl := hM
    exact xreti hx hb hr hlocks hP hK hD hS dX6_jug_11 rfl
def f_X6_hours (N : Nat) (u_this : K6) (u_this_yard : K4) (u_this_column : K0) (p1 : Int32) : Option (Int32 × K0) :=
  if (f_X6_outside p1 (1) (48)) = (0) then
   ((f_X0_stand N u_this_column u_this_yard p1).bind fun r2 =>
    some (r2.1, r2.2))
  else
   (some ((-1), u_this_column))
set_option maxHeartbeats 4000000 in
set_option maxRecDepth 100000 in
theorem c_X6_hours (l : Launch) (D : va_G) (T : xT) (x : Nat → Nat) {sz : Nat} {N : Nat} (u_this : K6) (u_this_yard : K4) (u_this_column : K0) (p1 : Int32) {rv : Int32 × K0} (hM : f_X6_hours N u_this u_this_yard u_this_column p1 = some rv) : Met l yX6_hours wsX6_hours ({ frames := 3, cells := 0, slots := 0, locals := 67 } : Room) (va_Pc [.ref (x 0), .int p1] (xPre D T [((x 0), .inr (6, o6 x u_this)), ((x 3), .inr (4, o4 u_this_yard)), ((x 4), .inr (0, o0 u_this_column))] sz xE0)) (va_Qi (fun (r : Int32) (_ : Unit) => r = rv.1) (fun _ => xPost D T [((x 0), .inr (6, o6 x u_this)), ((x 3), .inr (4, o4 u_this_yard)), ((x 4), .inr (0, o0 rv.2))] (va_A [((x 0), .inr (6, o6 x u_this)), ((x 3), .inr (4, o4 u_this_yard)), ((x 4), .inr (0, o0 u_this_column))] sz)) (va_A [((x 0), .inr (6, o6 x u_this)), ((x 3), .inr (4, o4 u_this_yard)), ((x 4), .inr (0, o0 u_this_column))] sz)) 0 0 (va_A [((x 0), .inr (6, o6 x u_this)), ((x 3), .inr (4, o4 u_this_yard)), ((x 4), .inr (0, o0 u_this_column))] sz) := by
  refine xMet (av := [.ref (x 0), .int p1]) (Wd := [((x 0), .inr (6, o6 x u_this)), ((x 3), .inr (4, o4 u_this_yard)), ((x 4), .inr (0, o0 u_this_column))]) (E := xE0) (Qc := fun A => (va_Qi (fun (r : Int32) (_ : Unit) => r = rv.1) (fun _ => xPost D T [((x 0), .inr (6, o6 x u_this)), ((x 3), .inr (4, o4 u_this_yard)), ((x 4), .inr (0, o0 rv.2))] A) A)) (cc := cX6_hours) (maxL := 2) (ret := (some .int)) (by decide) rfl (Nat.le_of_ble_eq_true rfl) ?_
  intro p e s m below meth c A ls hx hb hr hml hts hown hlocks hnm hP hK hD hS hA hE hl
  have hown : s.vm.findClass RX6 = some m.cls := hown
  have hl : lv_has ls 2 [(0, .ref (x 0)), (1, .int p1)] := hl
  unfold f_X6_hours at hM
  refine lv_iload_n hx hb dX6_hours_0 rfl (lv_at hl 1 rfl) ?_
  refine lv_iconst (v := 1) hx hb dX6_hours_1 (by decide) ?_
  refine lv_bipush (v := 48) hx hb dX6_hours_2 (by decide) ?_
  refine xafti (rv := (f_X6_outside p1 (1) (48))) (W2 := [((x 0), .inr (6, o6 x u_this)), ((x 3), .inr (4, o4 u_this_yard)), ((x 4), .inr (0, o0 u_this_column))]) (va_runS (As := [.int p1, .int (1), .int (48)]) (rest := []) ⟨hx, hb, hml, hown, hts⟩ (c_X6_outside (rv := (f_X6_outside p1 (1) (48))) l D T p1 (1) (48) rfl) (cwS 3 hts gX6_hours_X6_outside rfl rfl rfl (by decide +kernel) ⟨Nat.le_of_ble_eq_true rfl, Nat.le_of_ble_eq_true rfl⟩) (xpvs hP hD hK [] (by decide) rfl (fun _ _ _ => trivial) (fun _ _ _ _ _ _ => trivial)) rfl rfl hl.1 rfl (lv_room (Nat.le_of_ble_eq_true rfl)) dX6_hours_4 ⟨Nat.le_of_ble_eq_true rfl, Nat.le_of_ble_eq_true rfl⟩) hP hD hS hA [] rfl rfl rfl rfl (fun H locs hP hD hS => ?_)
  refine lv_if_eq (tgt := 12) hx hb dX6_hours_7 (by decide) (fun c1 => ?_) (fun c1 => ?_)
  · have hM := xit c1 hM
    refine lv_aload_n hx hb dX6_hours_12 rfl (lv_at hl 0 rfl) ?_
    refine va_get (D := D) (ci := 6) (v := .ref (x 4)) (C := RX6) (T := TX6) (N := 16) hx hb hts (fun w h => List.mem_cons_of_mem _ (List.mem_append_left _ (List.mem_append_left _ (List.mem_append_right _ h)))) hown hK hP 0 rfl rfl 2 (by decide) (hts _ (List.mem_of_getElem? (i := 1) rfl)) (fun _ h9 => h9) rfl dX6_hours_13 ?_
    refine lv_aload_n hx hb dX6_hours_16 rfl (lv_at hl 0 rfl) ?_
    refine va_get (D := D) (ci := 6) (v := .ref (x 3)) (C := RX6) (T := TX6) (N := 16) hx hb hts (fun w h => List.mem_cons_of_mem _ (List.mem_append_left _ (List.mem_append_left _ (List.mem_append_right _ h)))) hown hK hP 0 rfl rfl 1 (by decide) (hts _ (List.mem_of_getElem? (i := 2) rfl)) (fun _ h9 => h9) rfl dX6_hours_17 ?_
    refine lv_iload_n hx hb dX6_hours_20 rfl (lv_at hl 1 rfl) ?_
    obtain ⟨r2, er2, hM⟩ := xbd hM
    refine xafti (rv := r2.1) (W2 := [((x 0), .inr (6, o6 x u_this)), ((x 3), .inr (4, o4 u_this_yard)), ((x 4), .inr (0, o0 r2.2))]) (va_runV (As := [.ref (x 3), .int p1]) (rest := []) ⟨hx, hb, hml, hown, hts⟩ (c_X0_stand l D T (x 4) (x 3) u_this_column u_this_yard p1 er2) (cwV 2 hts gX6_hours_X0_stand rfl rfl rfl (by decide +kernel) ⟨Nat.le_of_ble_eq_true rfl, Nat.le_of_ble_eq_true rfl⟩) (xpvv hP hD hK [2, 1] (by decide) rfl 0 0 rfl rfl (fun _ _ _ => trivial) (fun _ _ _ _ _ _ => trivial)) rfl rfl hl.1 rfl (lv_room (Nat.le_of_ble_eq_true rfl)) dX6_hours_21 ⟨Nat.le_of_ble_eq_true rfl, Nat.le_of_ble_eq_true rfl⟩) hP hD hS hA [2, 1] rfl rfl rfl rfl (fun H locs hP hD hS => ?_)
    obtain rfl := Option.some.inj hM
    exact xreti hx hb hr hlocks hP hK hD hS dX6_hours_24 rfl
  · have hM := xif c1 hM
    refine lv_iconst (v := (-1)) hx hb dX6_hours_10 (by decide) ?_
    obtain rfl := Option.some.inj hM
    exact xreti hx hb hr hlocks hP hK hD hS dX6_hours_11 rfl
def f_X6_now (u_this : K6) (u_this_yard : K4) (u_this_column : K0) (p1 : Int32) : Option (Int32) :=
  if p1 = 0 then
   (some u_this_column.1)
  else if p1 = 1 then
   (some u_this_column.2.1)
  else if p1 = 2 then
   (some u_this_column.2.2.1)
  else if p1 = 3 then
   (some u_this_column.2.2.2.1)
  else if p1 = 4 then
   (some u_this_column.2.2.2.2.1)
  else if p1 = 5 then
   (some u_this_column.2.2.2.2.2.1)
  else if p1 = 6 then
   (some u_this_column.2.2.2.2.2.2)
  else if p1 = 7 then
   ((f_X4_depth u_this_yard u_this_column.2.2.1).bind fun r9 =>
    some r9)
  else if p1 = 8 then
   (some (f_X4_lift u_this_yard))
  else if p1 = 9 then
   ((f_X4_depth u_this_yard u_this_column.2.2.1).bind fun r12 =>
    some (f_X4_gain u_this_yard u_this_column.2.1 r12))
  else 
   (some (-1))
set_option maxHeartbeats 4000000 in
set_option maxRecDepth 100000 in
theorem c_X6_now (l : Launch) (D : va_G) (T : xT) (x : Nat → Nat) {sz : Nat} (u_this : K6) (u_this_yard : K4) (u_this_column : K0) (p1 : Int32) {rv : Int32} (hM : f_X6_now u_this u_this_yard u_this_column p1 = some rv) : Met l yX6_now wsX6_now ({ frames := 2, cells := 0, slots := 0, locals := 43 } : Room) (va_Pc [.ref (x 0), .int p1] (xPre D T [((x 0), .inr (6, o6 x u_this)), ((x 3), .inr (4, o4 u_this_yard)), ((x 4), .inr (0, o0 u_this_column))] sz xE0)) (va_Qi (fun (r : Int32) (_ : Unit) => r = rv) (fun _ => xPost D T [((x 0), .inr (6, o6 x u_this)), ((x 3), .inr (4, o4 u_this_yard)), ((x 4), .inr (0, o0 u_this_column))] (va_A [((x 0), .inr (6, o6 x u_this)), ((x 3), .inr (4, o4 u_this_yard)), ((x 4), .inr (0, o0 u_this_column))] sz)) (va_A [((x 0), .inr (6, o6 x u_this)), ((x 3), .inr (4, o4 u_this_yard)), ((x 4), .inr (0, o0 u_this_column))] sz)) 0 0 (va_A [((x 0), .inr (6, o6 x u_this)), ((x 3), .inr (4, o4 u_this_yard)), ((x 4), .inr (0, o0 u_this_column))] sz) := by
  refine xMet (av := [.ref (x 0), .int p1]) (Wd := [((x 0), .inr (6, o6 x u_this)), ((x 3), .inr (4, o4 u_this_yard)), ((x 4), .inr (0, o0 u_this_column))]) (E := xE0) (Qc := fun A => (va_Qi (fun (r : Int32) (_ : Unit) => r = rv) (fun _ => xPost D T [((x 0), .inr (6, o6 x u_this)), ((x 3), .inr (4, o4 u_this_yard)), ((x 4), .inr (0, o0 u_this_column))] A) A)) (cc := cX6_now) (maxL := 2) (ret := (some .int)) (by decide) rfl (Nat.le_of_ble_eq_true rfl) ?_
  intro p e s m below meth c A ls hx hb hr hml hts hown hlocks hnm hP hK hD hS hA hE hl
  have hown : s.vm.findClass RX6 = some m.cls := hown
  have hl : lv_has ls 2 [(0, .ref (x 0)), (1, .int p1)] := hl
  unfold f_X6_now at hM
  refine lv_iload_n hx hb dX6_now_0 rfl (lv_at hl 1 rfl) ?_
  by_cases c1 : p1 = 0
  · have hM := xit c1 hM
    refine lv_tableIn (off := 55) (tgt := 56) hx hb dX6_now_1 (by rw [c1]; decide) (by rw [c1]; decide) (by rw [c1]; rfl) (by decide) ?_
    refine lv_aload_n hx hb dX6_now_56 rfl (lv_at hl 0 rfl) ?_
    refine va_get (D := D) (ci := 6) (v := .ref (x 4)) (C := RX6) (T := TX6) (N := 16) hx hb hts (fun w h => List.mem_cons_of_mem _ (List.mem_append_left _ (List.mem_append_left _ (List.mem_append_right _ h)))) hown hK hP 0 rfl rfl 2 (by decide) (hts _ (List.mem_of_getElem? (i := 1) rfl)) (fun _ h9 => h9) rfl dX6_now_57 ?_
    refine va_get (D := D) (ci := 0) (v := .int u_this_column.1) (C := RX0) (T := TX0) (N := 7) hx hb hts (fun w h => List.mem_cons_of_mem _ (List.mem_append_left _ (List.mem_append_right _ h))) hown hK hP 2 rfl rfl 0 (by decide) (hts _ (List.mem_of_getElem? (i := 2) rfl)) (fun _ h9 => h9) rfl dX6_now_60 ?_
    obtain rfl := Option.some.inj hM
    exact xreti hx hb hr hlocks hP hK hD hS dX6_now_63 rfl
  · have hM := xif c1 hM
    by_cases c2 : p1 = 1
    · have hM := xit c2 hM
      refine lv_tableIn (off := 63) (tgt := 64) hx hb dX6_now_1 (by rw [c2]; decide) (by rw [c2]; decide) (by rw [c2]; rfl) (by decide) ?_
      refine lv_aload_n hx hb dX6_now_64 rfl (lv_at hl 0 rfl) ?_
      refine va_get (D := D) (ci := 6) (v := .ref (x 4)) (C := RX6) (T := TX6) (N := 16) hx hb hts (fun w h => List.mem_cons_of_mem _ (List.mem_append_left _ (List.mem_append_left _ (List.mem_append_right _ h)))) hown hK hP 0 rfl rfl 2 (by decide) (hts _ (List.mem_of_getElem? (i := 1) rfl)) (fun _ h9 => h9) rfl dX6_now_65 ?_
      refine va_get (D := D) (ci := 0) (v := .int u_this_column.2.1) (C := RX0) (T := TX0) (N := 7) hx hb hts (fun w h => List.mem_cons_of_mem _ (List.mem_append_left _ (List.mem_append_right _ h))) hown hK hP 2 rfl rfl 1 (by decide) (hts _ (List.mem_of_getElem? (i := 3) rfl)) (fun _ h9 => h9) rfl dX6_now_68 ?_
      obtain rfl := Option.some.inj hM
      exact xreti hx hb hr hlocks hP hK hD hS dX6_now_71 rfl
    · have hM := xif c2 hM
      by_cases c3 : p1 = 2
      · have hM := xit c3 hM
        refine lv_tableIn (off := 71) (tgt := 72) hx hb dX6_now_1 (by rw [c3]; decide) (by rw [c3]; decide) (by rw [c3]; rfl) (by decide) ?_
        refine lv_aload_n hx hb dX6_now_72 rfl (lv_at hl 0 rfl) ?_
        refine va_get (D := D) (ci := 6) (v := .ref (x 4)) (C := RX6) (T := TX6) (N := 16) hx hb hts (fun w h => List.mem_cons_of_mem _ (List.mem_append_left _ (List.mem_append_left _ (List.mem_append_right _ h)))) hown hK hP 0 rfl rfl 2 (by decide) (hts _ (List.mem_of_getElem? (i := 1) rfl)) (fun _ h9 => h9) rfl dX6_now_73 ?_
        refine va_get (D := D) (ci := 0) (v := .int u_this_column.2.2.1) (C := RX0) (T := TX0) (N := 7) hx hb hts (fun w h => List.mem_cons_of_mem _ (List.mem_append_left _ (List.mem_append_right _ h))) hown hK hP 2 rfl rfl 2 (by decide) (hts _ (List.mem_of_getElem? (i := 4) rfl)) (fun _ h9 => h9) rfl dX6_now_76 ?_
        obtain rfl := Option.some.inj hM
        exact xreti hx hb hr hlocks hP hK hD hS dX6_now_79 rfl
      · have hM := xif c3 hM
        by_cases c4 : p1 = 3
        · have hM := xit c4 hM
          refine lv_tableIn (off := 79) (tgt := 80) hx hb dX6_now_1 (by rw [c4]; decide) (by rw [c4]; decide) (by rw [c4]; rfl) (by decide) ?_
          refine lv_aload_n hx hb dX6_now_80 rfl (lv_at hl 0 rfl) ?_
          refine va_get (D := D) (ci := 6) (v := .ref (x 4)) (C := RX6) (T := TX6) (N := 16) hx hb hts (fun w h => List.mem_cons_of_mem _ (List.mem_append_left _ (List.mem_append_left _ (List.mem_append_right _ h)))) hown hK hP 0 rfl rfl 2 (by decide) (hts _ (List.mem_of_getElem? (i := 1) rfl)) (fun _ h9 => h9) rfl dX6_now_81 ?_
          refine va_get (D := D) (ci := 0) (v := .int u_this_column.2.2.2.1) (C := RX0) (T := TX0) (N := 7) hx hb hts (fun w h => List.mem_cons_of_mem _ (List.mem_append_left _ (List.mem_append_right _ h))) hown hK hP 2 rfl rfl 3 (by decide) (hts _ (List.mem_of_getElem? (i := 5) rfl)) (fun _ h9 => h9) rfl dX6_now_84 ?_
          obtain rfl := Option.some.inj hM
          exact xreti hx hb hr hlocks hP hK hD hS dX6_now_87 rfl
        · have hM := xif c4 hM
          by_cases c5 : p1 = 4
          · have hM := xit c5 hM
            refine lv_tableIn (off := 87) (tgt := 88) hx hb dX6_now_1 (by rw [c5]; decide) (by rw [c5]; decide) (by rw [c5]; rfl) (by decide) ?_
            refine lv_aload_n hx hb dX6_now_88 rfl (lv_at hl 0 rfl) ?_
            refine va_get (D := D) (ci := 6) (v := .ref (x 4)) (C := RX6) (T := TX6) (N := 16) hx hb hts (fun w h => List.mem_cons_of_mem _ (List.mem_append_left _ (List.mem_append_left _ (List.mem_append_right _ h)))) hown hK hP 0 rfl rfl 2 (by decide) (hts _ (List.mem_of_getElem? (i := 1) rfl)) (fun _ h9 => h9) rfl dX6_now_89 ?_
            refine va_get (D := D) (ci := 0) (v := .int u_this_column.2.2.2.2.1) (C := RX0) (T := TX0) (N := 7) hx hb hts (fun w h => List.mem_cons_of_mem _ (List.mem_append_left _ (List.mem_append_right _ h))) hown hK hP 2 rfl rfl 4 (by decide) (hts _ (List.mem_of_getElem? (i := 6) rfl)) (fun _ h9 => h9) rfl dX6_now_92 ?_
            obtain rfl := Option.some.inj hM
            exact xreti hx hb hr hlocks hP hK hD hS dX6_now_95 rfl
          · have hM := xif c5 hM
            by_cases c6 : p1 = 5
            · have hM := xit c6 hM
              refine lv_tableIn (off := 95) (tgt := 96) hx hb dX6_now_1 (by rw [c6]; decide) (by rw [c6]; decide) (by rw [c6]; rfl) (by decide) ?_
              refine lv_aload_n hx hb dX6_now_96 rfl (lv_at hl 0 rfl) ?_
              refine va_get (D := D) (ci := 6) (v := .ref (x 4)) (C := RX6) (T := TX6) (N := 16) hx hb hts (fun w h => List.mem_cons_of_mem _ (List.mem_append_left _ (List.mem_append_left _ (List.mem_append_right _ h)))) hown hK hP 0 rfl rfl 2 (by decide) (hts _ (List.mem_of_getElem? (i := 1) rfl)) (fun _ h9 => h9) rfl dX6_now_97 ?_
              refine va_get (D := D) (ci := 0) (v := .int u_this_column.2.2.2.2.2.1) (C := RX0) (T := TX0) (N := 7) hx hb hts (fun w h => List.mem_cons_of_mem _ (List.mem_append_left _ (List.mem_append_right _ h))) hown hK hP 2 rfl rfl 5 (by decide) (hts _ (List.mem_of_getElem? (i := 7) rfl)) (fun _ h9 => h9) rfl dX6_now_100 ?_
              obtain rfl := Option.some.inj hM
              exact xreti hx hb hr hlocks hP hK hD hS dX6_now_103 rfl
            · have hM := xif c6 hM
              by_cases c7 : p1 = 6
              · have hM := xit c7 hM
                refine lv_tableIn (off := 103) (tgt := 104) hx hb dX6_now_1 (by rw [c7]; decide) (by rw [c7]; decide) (by rw [c7]; rfl) (by decide) ?_
                refine lv_aload_n hx hb dX6_now_104 rfl (lv_at hl 0 rfl) ?_
                refine va_get (D := D) (ci := 6) (v := .ref (x 4)) (C := RX6) (T := TX6) (N := 16) hx hb hts (fun w h => List.mem_cons_of_mem _ (List.mem_append_left _ (List.mem_append_left _ (List.mem_append_right _ h)))) hown hK hP 0 rfl rfl 2 (by decide) (hts _ (List.mem_of_getElem? (i := 1) rfl)) (fun _ h9 => h9) rfl dX6_now_105 ?_
                refine va_get (D := D) (ci := 0) (v := .int u_this_column.2.2.2.2.2.2) (C := RX0) (T := TX0) (N := 7) hx hb hts (fun w h => List.mem_cons_of_mem _ (List.mem_append_left _ (List.mem_append_right _ h))) hown hK hP 2 rfl rfl 6 (by decide) (hts _ (List.mem_of_getElem? (i := 8) rfl)) (fun _ h9 => h9) rfl dX6_now_108 ?_
                obtain rfl := Option.some.inj hM
                exact xreti hx hb hr hlocks hP hK hD hS dX6_now_111 rfl
              · have hM := xif c7 hM
                by_cases c8 : p1 = 7
                · have hM := xit c8 hM
                  refine lv_tableIn (off := 111) (tgt := 112) hx hb dX6_now_1 (by rw [c8]; decide) (by rw [c8]; decide) (by rw [c8]; rfl) (by decide) ?_
                  refine lv_aload_n hx hb dX6_now_112 rfl (lv_at hl 0 rfl) ?_
                  refine va_get (D := D) (ci := 6) (v := .ref (x 3)) (C := RX6) (T := TX6) (N := 16) hx hb hts (fun w h => List.mem_cons_of_mem _ (List.mem_append_left _ (List.mem_append_left _ (List.mem_append_right _ h)))) hown hK hP 0 rfl rfl 1 (by decide) (hts _ (List.mem_of_getElem? (i := 9) rfl)) (fun _ h9 => h9) rfl dX6_now_113 ?_
                  refine lv_aload_n hx hb dX6_now_116 rfl (lv_at hl 0 rfl) ?_
                  refine va_get (D := D) (ci := 6) (v := .ref (x 4)) (C := RX6) (T := TX6) (N := 16) hx hb hts (fun w h => List.mem_cons_of_mem _ (List.mem_append_left _ (List.mem_append_left _ (List.mem_append_right _ h)))) hown hK hP 0 rfl rfl 2 (by decide) (hts _ (List.mem_of_getElem? (i := 1) rfl)) (fun _ h9 => h9) rfl dX6_now_117 ?_
                  refine va_get (D := D) (ci := 0) (v := .int u_this_column.2.2.1) (C := RX0) (T := TX0) (N := 7) hx hb hts (fun w h => List.mem_cons_of_mem _ (List.mem_append_left _ (List.mem_append_right _ h))) hown hK hP 2 rfl rfl 2 (by decide) (hts _ (List.mem_of_getElem? (i := 4) rfl)) (fun _ h9 => h9) rfl dX6_now_120 ?_
                  obtain ⟨r9, er9, hM⟩ := xbd hM
                  refine xafti (rv := r9) (W2 := [((x 0), .inr (6, o6 x u_this)), ((x 3), .inr (4, o4 u_this_yard)), ((x 4), .inr (0, o0 u_this_column))]) (va_runV (As := [.int u_this_column.2.2.1]) (rest := []) ⟨hx, hb, hml, hown, hts⟩ (c_X4_depth l D T (x 3) u_this_yard u_this_column.2.2.1 er9) (cwV 1 hts gX6_now_X4_depth rfl rfl rfl (by decide +kernel) ⟨Nat.le_of_ble_eq_true rfl, Nat.le_of_ble_eq_true rfl⟩) (xpvv hP hD hK [1] (by decide) rfl 0 4 rfl rfl (fun _ _ _ => trivial) (fun _ _ _ _ _ _ => trivial)) rfl rfl hl.1 rfl (lv_room (Nat.le_of_ble_eq_true rfl)) dX6_now_123 ⟨Nat.le_of_ble_eq_true rfl, Nat.le_of_ble_eq_true rfl⟩) hP hD hS hA [1] rfl rfl rfl rfl (fun H locs hP hD hS => ?_)
                  obtain rfl := Option.some.inj hM
                  exact xreti hx hb hr hlocks hP hK hD hS dX6_now_126 rfl
                · have hM := xif c8 hM
                  by_cases c10 : p1 = 8
                  · have hM := xit c10 hM
                    refine lv_tableIn (off := 126) (tgt := 127) hx hb dX6_now_1 (by rw [c10]; decide) (by rw [c10]; decide) (by rw [c10]; rfl) (by decide) ?_
                    refine lv_aload_n hx hb dX6_now_127 rfl (lv_at hl 0 rfl) ?_
                    refine va_get (D := D) (ci := 6) (v := .ref (x 3)) (C := RX6) (T := TX6) (N := 16) hx hb hts (fun w h => List.mem_cons_of_mem _ (List.mem_append_left _ (List.mem_append_left _ (List.mem_append_right _ h)))) hown hK hP 0 rfl rfl 1 (by decide) (hts _ (List.mem_of_getElem? (i := 9) rfl)) (fun _ h9 => h9) rfl dX6_now_128 ?_
                    refine xafti (rv := (f_X4_lift u_this_yard)) (W2 := [((x 0), .inr (6, o6 x u_this)), ((x 3), .inr (4, o4 u_this_yard)), ((x 4), .inr (0, o0 u_this_column))]) (va_runV (As := []) (rest := []) ⟨hx, hb, hml, hown, hts⟩ (c_X4_lift (rv := (f_X4_lift u_this_yard)) l D T (x 3) u_this_yard rfl) (cwV 0 hts gX6_now_X4_lift rfl rfl rfl (by decide +kernel) ⟨Nat.le_of_ble_eq_true rfl, Nat.le_of_ble_eq_true rfl⟩) (xpvv hP hD hK [1] (by decide) rfl 0 4 rfl rfl (fun _ _ _ => trivial) (fun _ _ _ _ _ _ => trivial)) rfl rfl hl.1 rfl (lv_room (Nat.le_of_ble_eq_true rfl)) dX6_now_131 ⟨Nat.le_of_ble_eq_true rfl, Nat.le_of_ble_eq_true rfl⟩) hP hD hS hA [1] rfl rfl rfl rfl (fun H locs hP hD hS => ?_)
                    obtain rfl := Option.some.inj hM
                    exact xreti hx hb hr hlocks hP hK hD hS dX6_now_134 rfl
                  · have hM := xif c10 hM
                    by_cases c11 : p1 = 9
                    · have hM := xit c11 hM
                      refine lv_tableIn (off := 134) (tgt := 135) hx hb dX6_now_1 (by rw [c11]; decide) (by rw [c11]; decide) (by rw [c11]; rfl) (by decide) ?_
                      refine lv_aload_n hx hb dX6_now_135 rfl (lv_at hl 0 rfl) ?_
                      refine va_get (D := D) (ci := 6) (v := .ref (x 3)) (C := RX6) (T := TX6) (N := 16) hx hb hts (fun w h => List.mem_cons_of_mem _ (List.mem_append_left _ (List.mem_append_left _ (List.mem_append_right _ h)))) hown hK hP 0 rfl rfl 1 (by decide) (hts _ (List.mem_of_getElem? (i := 9) rfl)) (fun _ h9 => h9) rfl dX6_now_136 ?_
                      refine lv_aload_n hx hb dX6_now_139 rfl (lv_at hl 0 rfl) ?_
                      refine va_get (D := D) (ci := 6) (v := .ref (x 4)) (C := RX6) (T := TX6) (N := 16) hx hb hts (fun w h => List.mem_cons_of_mem _ (List.mem_append_left _ (List.mem_append_left _ (List.mem_append_right _ h)))) hown hK hP 0 rfl rfl 2 (by decide) (hts _ (List.mem_of_getElem? (i := 1) rfl)) (fun _ h9 => h9) rfl dX6_now_140 ?_
                      refine va_get (D := D) (ci := 0) (v := .int u_this_column.2.1) (C := RX0) (T := TX0) (N := 7) hx hb hts (fun w h => List.mem_cons_of_mem _ (List.mem_append_left _ (List.mem_append_right _ h))) hown hK hP 2 rfl rfl 1 (by decide) (hts _ (List.mem_of_getElem? (i := 3) rfl)) (fun _ h9 => h9) rfl dX6_now_143 ?_
                      refine lv_aload_n hx hb dX6_now_146 rfl (lv_at hl 0 rfl) ?_
                      refine va_get (D := D) (ci := 6) (v := .ref (x 3)) (C := RX6) (T := TX6) (N := 16) hx hb hts (fun w h => List.mem_cons_of_mem _ (List.mem_append_left _ (List.mem_append_left _ (List.mem_append_right _ h)))) hown hK hP 0 rfl rfl 1 (by decide) (hts _ (List.mem_of_getElem? (i := 9) rfl)) (fun _ h9 => h9) rfl dX6_now_147 ?_
                      refine lv_aload_n hx hb dX6_now_150 rfl (lv_at hl 0 rfl) ?_
                      refine va_get (D := D) (ci := 6) (v := .ref (x 4)) (C := RX6) (T := TX6) (N := 16) hx hb hts (fun w h => List.mem_cons_of_mem _ (List.mem_append_left _ (List.mem_append_left _ (List.mem_append_right _ h)))) hown hK hP 0 rfl rfl 2 (by decide) (hts _ (List.mem_of_getElem? (i := 1) rfl)) (fun _ h9 => h9) rfl dX6_now_151 ?_
                      refine va_get (D := D) (ci := 0) (v := .int u_this_column.2.2.1) (C := RX0) (T := TX0) (N := 7) hx hb hts (fun w h => List.mem_cons_of_mem _ (List.mem_append_left _ (List.mem_append_right _ h))) hown hK hP 2 rfl rfl 2 (by decide) (hts _ (List.mem_of_getElem? (i := 4) rfl)) (fun _ h9 => h9) rfl dX6_now_154 ?_
                      obtain ⟨r12, er12, hM⟩ := xbd hM
                      refine xafti (rv := r12) (W2 := [((x 0), .inr (6, o6 x u_this)), ((x 3), .inr (4, o4 u_this_yard)), ((x 4), .inr (0, o0 u_this_column))]) (va_runV (As := [.int u_this_column.2.2.1]) (rest := [.int u_this_column.2.1, .ref (x 3)]) ⟨hx, hb, hml, hown, hts⟩ (c_X4_depth l D T (x 3) u_this_yard u_this_column.2.2.1 er12) (cwV 1 hts gX6_now_X4_depth rfl rfl rfl (by decide +kernel) ⟨Nat.le_of_ble_eq_true rfl, Nat.le_of_ble_eq_true rfl⟩) (xpvv hP hD hK [1] (by decide) rfl 0 4 rfl rfl (fun _ _ _ => trivial) (fun _ _ _ _ _ _ => trivial)) rfl rfl hl.1 rfl (lv_room (Nat.le_of_ble_eq_true rfl)) dX6_now_157 ⟨Nat.le_of_ble_eq_true rfl, Nat.le_of_ble_eq_true rfl⟩) hP hD hS hA [1] rfl rfl rfl rfl (fun H locs hP hD hS => ?_)
                      refine xafti (rv := (f_X4_gain u_this_yard u_this_column.2.1 r12)) (W2 := [((x 0), .inr (6, o6 x u_this)), ((x 3), .inr (4, o4 u_this_yard)), ((x 4), .inr (0, o0 u_this_column))]) (va_runV (As := [.int u_this_column.2.1, .int r12]) (rest := []) ⟨hx, hb, hml, hown, hts⟩ (c_X4_gain (rv := (f_X4_gain u_this_yard u_this_column.2.1 r12)) l D T (x 3) u_this_yard u_this_column.2.1 r12 rfl) (cwV 2 hts gX6_now_X4_gain rfl rfl rfl (by decide +kernel) ⟨Nat.le_of_ble_eq_true rfl, Nat.le_of_ble_eq_true rfl⟩) (xpvv hP hD hK [1] (by decide) rfl 0 4 rfl rfl (fun _ _ _ => trivial) (fun _ _ _ _ _ _ => trivial)) rfl rfl hl.1 rfl (lv_room (Nat.le_of_ble_eq_true rfl)) dX6_now_160 ⟨Nat.le_of_ble_eq_true rfl, Nat.le_of_ble_eq_true rfl⟩) hP hD hS hA [1] rfl rfl rfl rfl (fun H locs hP hD hS => ?_)
                      obtain rfl := Option.some.inj hM
                      exact xreti hx hb hr hlocks hP hK hD hS dX6_now_163 rfl
                    · have hM := xif c11 hM
                      refine lv_tableOut (tgt := 164) hx hb dX6_now_1 (by have q0 := xsw c1 (show (0 : Int32).toInt = 0 by decide); have q1 := xsw c2 (show (1 : Int32).toInt = 1 by decide); have q2 := xsw c3 (show (2 : Int32).toInt = 2 by decide); have q3 := xsw c4 (show (3 : Int32).toInt = 3 by decide); have q4 := xsw c5 (show (4 : Int32).toInt = 4 by decide); have q5 := xsw c6 (show (5 : Int32).toInt = 5 by decide); have q6 := xsw c7 (show (6 : Int32).toInt = 6 by decide); have q7 := xsw c8 (show (7 : Int32).toInt = 7 by decide); have q8 := xsw c10 (show (8 : Int32).toInt = 8 by decide); have q9 := xsw c11 (show (9 : Int32).toInt = 9 by decide); omega) (by decide) ?_
                      refine lv_iconst (v := (-1)) hx hb dX6_now_164 (by decide) ?_
                      obtain rfl := Option.some.inj hM
                      exact xreti hx hb hr hlocks hP hK hD hS dX6_now_165 rfl
def f_X6_anew (u_this : K6) (u_this_yard : K4) (u_this_column : K0) : Option (Int32 × K0) :=
  (f_X0_startEmpty u_this_column u_this_yard).bind fun r1 =>
  some (u_this_column.2.2.2.1, r1)
set_option maxHeartbeats 4000000 in
set_option maxRecDepth 100000 in
theorem c_X6_anew (l : Launch) (D : va_G) (T : xT) (x : Nat → Nat) {sz : Nat} (u_this : K6) (u_this_yard : K4) (u_this_column : K0) {rv : Int32 × K0} (hM : f_X6_anew u_this u_this_yard u_this_column = some rv) : Met l yX6_anew wsX6_anew ({ frames := 2, cells := 0, slots := 0, locals := 43 } : Room) (va_Pc [.ref (x 0)] (xPre D T [((x 0), .inr (6, o6 x u_this)), ((x 3), .inr (4, o4 u_this_yard)), ((x 4), .inr (0, o0 u_this_column))] sz xE0)) (va_Qi (fun (r : Int32) (_ : Unit) => r = rv.1) (fun _ => xPost D T [((x 0), .inr (6, o6 x u_this)), ((x 3), .inr (4, o4 u_this_yard)), ((x 4), .inr (0, o0 rv.2))] (va_A [((x 0), .inr (6, o6 x u_this)), ((x 3), .inr (4, o4 u_this_yard)), ((x 4), .inr (0, o0 u_this_column))] sz)) (va_A [((x 0), .inr (6, o6 x u_this)), ((x 3), .inr (4, o4 u_this_yard)), ((x 4), .inr (0, o0 u_this_column))] sz)) 0 0 (va_A [((x 0), .inr (6, o6 x u_this)), ((x 3), .inr (4, o4 u_this_yard)), ((x 4), .inr (0, o0 u_this_column))] sz) := by
  refine xMet (av := [.ref (x 0)]) (Wd := [((x 0), .inr (6, o6 x u_this)), ((x 3), .inr (4, o4 u_this_yard)), ((x 4), .inr (0, o0 u_this_column))]) (E := xE0) (Qc := fun A => (va_Qi (fun (r : Int32) (_ : Unit) => r = rv.1) (fun _ => xPost D T [((x 0), .inr (6, o6 x u_this)), ((x 3), .inr (4, o4 u_this_yard)), ((x 4), .inr (0, o0 rv.2))] A) A)) (cc := cX6_anew) (maxL := 2) (ret := (some .int)) (by decide) rfl (Nat.le_of_ble_eq_true rfl) ?_
  intro p e s m below meth c A ls hx hb hr hml hts hown hlocks hnm hP hK hD hS hA hE hl
  have hown : s.vm.findClass RX6 = some m.cls := hown
  have hl : lv_has ls 2 [(0, .ref (x 0))] := hl
  unfold f_X6_anew at hM
  refine lv_aload_n hx hb dX6_anew_0 rfl (lv_at hl 0 rfl) ?_
  refine va_get (D := D) (ci := 6) (v := .ref (x 4)) (C := RX6) (T := TX6) (N := 16) hx hb hts (fun w h => List.mem_cons_of_mem _ (List.mem_append_left _ (List.mem_append_left _ (List.mem_append_right _ h)))) hown hK hP 0 rfl rfl 2 (by decide) (hts _ (List.mem_of_getElem? (i := 1) rfl)) (fun _ h9 => h9) rfl dX6_anew_1 ?_
  refine va_get (D := D) (ci := 0) (v := .int u_this_column.2.2.2.1) (C := RX0) (T := TX0) (N := 7) hx hb hts (fun w h => List.mem_cons_of_mem _ (List.mem_append_left _ (List.mem_append_right _ h))) hown hK hP 2 rfl rfl 3 (by decide) (hts _ (List.mem_of_getElem? (i := 2) rfl)) (fun _ h9 => h9) rfl dX6_anew_4 ?_
  refine lv_istore_n (lv' := [(1, .int u_this_column.2.2.2.1), (0, .ref (x 0))]) hx hb dX6_anew_7 rfl hl (by decide) rfl (fun ls hl => ?_)
  refine lv_aload_n hx hb dX6_anew_8 rfl (lv_at hl 1 rfl) ?_
  refine va_get (D := D) (ci := 6) (v := .ref (x 4)) (C := RX6) (T := TX6) (N := 16) hx hb hts (fun w h => List.mem_cons_of_mem _ (List.mem_append_left _ (List.mem_append_left _ (List.mem_append_right _ h)))) hown hK hP 0 rfl rfl 2 (by decide) (hts _ (List.mem_of_getElem? (i := 1) rfl)) (fun _ h9 => h9) rfl dX6_anew_9 ?_
  refine lv_aload_n hx hb dX6_anew_12 rfl (lv_at hl 1 rfl) ?_
  refine va_get (D := D) (ci := 6) (v := .ref (x 3)) (C := RX6) (T := TX6) (N := 16) hx hb hts (fun w h => List.mem_cons_of_mem _ (List.mem_append_left _ (List.mem_append_left _ (List.mem_append_right _ h)))) hown hK hP 0 rfl rfl 1 (by decide) (hts _ (List.mem_of_getElem? (i := 3) rfl)) (fun _ h9 => h9) rfl dX6_anew_13 ?_
  obtain ⟨r1, er1, hM⟩ := xbd hM
  refine xaftv (W2 := [((x 0), .inr (6, o6 x u_this)), ((x 3), .inr (4, o4 u_this_yard)), ((x 4), .inr (0, o0 r1))]) (va_runV (As := [.ref (x 3)]) (rest := []) ⟨hx, hb, hml, hown, hts⟩ (c_X0_startEmpty l D T (x 4) (x 3) u_this_column u_this_yard er1) (cwV 1 hts gX6_anew_X0_startEmpty rfl rfl rfl (by decide +kernel) ⟨Nat.le_of_ble_eq_true rfl, Nat.le_of_ble_eq_true rfl⟩) (xpvv hP hD hK [2, 1] (by decide) rfl 0 0 rfl rfl (fun _ _ _ => trivial) (fun _ _ _ _ _ _ => trivial)) rfl rfl hl.1 rfl (lv_room (Nat.le_of_ble_eq_true rfl)) dX6_anew_16 ⟨Nat.le_of_ble_eq_true rfl, Nat.le_of_ble_eq_true rfl⟩) hP hD hS hA [2, 1] rfl rfl rfl rfl (fun H locs hP hD hS => ?_)
  refine lv_iload_n hx hb dX6_anew_19 rfl (lv_at hl 0 rfl) ?_
  obtain rfl := Option.some.inj hM
  exact xreti hx hb hr hlocks hP hK hD hS dX6_anew_20 rfl
def f_X6_noneIfZero (p1 : Int32) : Int32 :=
  if p1 = (0) then
   ((-9))
  else
   (p1)
set_option maxHeartbeats 4000000 in
set_option maxRecDepth 100000 in
theorem c_X6_noneIfZero (l : Launch) (D : va_G) (T : xT)  {sz : Nat} (p1 : Int32) {rv : Int32} (hM : f_X6_noneIfZero p1 = rv) : Met l yX6_noneIfZero wsX6_noneIfZero ({ frames := 0, cells := 0, slots := 0, locals := 0 } : Room) (va_Pc [.int p1] (xPre D T [] sz xE0)) (va_Qi (fun (r : Int32) (_ : Unit) => r = rv) (fun _ => xPost D T [] (va_A [] sz)) (va_A [] sz)) 0 0 (va_A [] sz) := by
  refine xMet (av := [.int p1]) (Wd := []) (E := xE0) (Qc := fun A => (va_Qi (fun (r : Int32) (_ : Unit) => r = rv) (fun _ => xPost D T [] A) A)) (cc := cX6_noneIfZero) (maxL := 1) (ret := (some .int)) (by decide) rfl (Nat.le_of_ble_eq_true rfl) ?_
  intro p e s m below meth c A ls hx hb hr hml hts hown hlocks hnm hP hK hD hS hA hE hl
  have hown : s.vm.findClass RX6 = some m.cls := hown
  have hl : lv_has ls 1 [(0, .int p1)] := hl
  unfold f_X6_noneIfZero at hM
  refine lv_iload_n hx hb dX6_noneIfZero_0 rfl (lv_at hl 0 rfl) ?_
  refine lv_if_ne (tgt := 9) hx hb dX6_noneIfZero_1 (by decide) (fun c1 => ?_) (fun c1 => ?_)
  · have hM := xif c1 hM
    refine lv_iload_n hx hb dX6_noneIfZero_9 rfl (lv_at hl 0 rfl) ?_
    obtain rfl := hM
    exact xreti hx hb hr hlocks hP hK hD hS dX6_noneIfZero_10 rfl
  · have hM := xit c1 hM
    refine lv_bipush (v := (-9)) hx hb dX6_noneIfZero_4 (by decide) ?_
    refine lv_goto (tgt := 10) hx hb dX6_noneIfZero_6 (by decide) ?_
    obtain rfl := hM
    exact xreti hx hb hr hlocks hP hK hD hS dX6_noneIfZero_10 rfl
def f_X6_until (u_this : K6) (u_this_yard : K4) (u_this_column : K0) : Option (Int32) :=
  (f_X0_pullsToWater u_this_column u_this_yard).bind fun r1 =>
  some (f_X6_noneIfZero r1)
set_option maxHeartbeats 4000000 in
set_option maxRecDepth 100000 in
theorem c_X6_until (l : Launch) (D : va_G) (T : xT) (x : Nat → Nat) {sz : Nat} (u_this : K6) (u_this_yard : K4) (u_this_column : K0) {rv : Int32} (hM : f_X6_until u_this u_this_yard u_this_column = some rv) : Met l yX6_until wsX6_until ({ frames := 3, cells := 0, slots := 0, locals := 67 } : Room) (va_Pc [.ref (x 0)] (xPre D T [((x 0), .inr (6, o6 x u_this)), ((x 3), .inr (4, o4 u_this_yard)), ((x 4), .inr (0, o0 u_this_column))] sz xE0)) (va_Qi (fun (r : Int32) (_ : Unit) => r = rv) (fun _ => xPost D T [((x 0), .inr (6, o6 x u_this)), ((x 3), .inr (4, o4 u_this_yard)), ((x 4), .inr (0, o0 u_this_column))] (va_A [((x 0), .inr (6, o6 x u_this)), ((x 3), .inr (4, o4 u_this_yard)), ((x 4), .inr (0, o0 u_this_column))] sz)) (va_A [((x 0), .inr (6, o6 x u_this)), ((x 3), .inr (4, o4 u_this_yard)), ((x 4), .inr (0, o0 u_this_column))] sz)) 0 0 (va_A [((x 0), .inr (6, o6 x u_this)), ((x 3), .inr (4, o4 u_this_yard)), ((x 4), .inr (0, o0 u_this_column))] sz) := by
  refine xMet (av := [.ref (x 0)]) (Wd := [((x 0), .inr (6, o6 x u_this)), ((x 3), .inr (4, o4 u_this_yard)), ((x 4), .inr (0, o0 u_this_column))]) (E := xE0) (Qc := fun A => (va_Qi (fun (r : Int32) (_ : Unit) => r = rv) (fun _ => xPost D T [((x 0), .inr (6, o6 x u_this)), ((x 3), .inr (4, o4 u_this_yard)), ((x 4), .inr (0, o0 u_this_column))] A) A)) (cc := cX6_until) (maxL := 1) (ret := (some .int)) (by decide) rfl (Nat.le_of_ble_eq_true rfl) ?_
  intro p e s m below meth c A ls hx hb hr hml hts hown hlocks hnm hP hK hD hS hA hE hl
  have hown : s.vm.findClass RX6 = some m.cls := hown
  have hl : lv_has ls 1 [(0, .ref (x 0))] := hl
  unfold f_X6_until at hM
  refine lv_aload_n hx hb dX6_until_0 rfl (lv_at hl 0 rfl) ?_
  refine va_get (D := D) (ci := 6) (v := .ref (x 4)) (C := RX6) (T := TX6) (N := 16) hx hb hts (fun w h => List.mem_cons_of_mem _ (List.mem_append_left _ (List.mem_append_left _ (List.mem_append_right _ h)))) hown hK hP 0 rfl rfl 2 (by decide) (hts _ (List.mem_of_getElem? (i := 1) rfl)) (fun _ h9 => h9) rfl dX6_until_1 ?_
  refine lv_aload_n hx hb dX6_until_4 rfl (lv_at hl 0 rfl) ?_
  refine va_get (D := D) (ci := 6) (v := .ref (x 3)) (C := RX6) (T := TX6) (N := 16) hx hb hts (fun w h => List.mem_cons_of_mem _ (List.mem_append_left _ (List.mem_append_left _ (List.mem_append_right _ h)))) hown hK hP 0 rfl rfl 1 (by decide) (hts _ (List.mem_of_getElem? (i := 2) rfl)) (fun _ h9 => h9) rfl dX6_until_5 ?_
  obtain ⟨r1, er1, hM⟩ := xbd hM
  refine xafti (rv := r1) (W2 := [((x 0), .inr (6, o6 x u_this)), ((x 3), .inr (4, o4 u_this_yard)), ((x 4), .inr (0, o0 u_this_column))]) (va_runV (As := [.ref (x 3)]) (rest := []) ⟨hx, hb, hml, hown, hts⟩ (c_X0_pullsToWater l D T (x 4) (x 3) u_this_column u_this_yard er1) (cwV 1 hts gX6_until_X0_pullsToWater rfl rfl rfl (by decide +kernel) ⟨Nat.le_of_ble_eq_true rfl, Nat.le_of_ble_eq_true rfl⟩) (xpvv hP hD hK [2, 1] (by decide) rfl 0 0 rfl rfl (fun _ _ _ => trivial) (fun _ _ _ _ _ _ => trivial)) rfl rfl hl.1 rfl (lv_room (Nat.le_of_ble_eq_true rfl)) dX6_until_8 ⟨Nat.le_of_ble_eq_true rfl, Nat.le_of_ble_eq_true rfl⟩) hP hD hS hA [2, 1] rfl rfl rfl rfl (fun H locs hP hD hS => ?_)
  refine xafti (rv := (f_X6_noneIfZero r1)) (W2 := [((x 0), .inr (6, o6 x u_this)), ((x 3), .inr (4, o4 u_this_yard)), ((x 4), .inr (0, o0 u_this_column))]) (va_runS (As := [.int r1]) (rest := []) ⟨hx, hb, hml, hown, hts⟩ (c_X6_noneIfZero (rv := (f_X6_noneIfZero r1)) l D T r1 rfl) (cwS 1 hts gX6_until_X6_noneIfZero rfl rfl rfl (by decide +kernel) ⟨Nat.le_of_ble_eq_true rfl, Nat.le_of_ble_eq_true rfl⟩) (xpvs hP hD hK [] (by decide) rfl (fun _ _ _ => trivial) (fun _ _ _ _ _ _ => trivial)) rfl rfl hl.1 rfl (lv_room (Nat.le_of_ble_eq_true rfl)) dX6_until_11 ⟨Nat.le_of_ble_eq_true rfl, Nat.le_of_ble_eq_true rfl⟩) hP hD hS hA [] rfl rfl rfl rfl (fun H locs hP hD hS => ?_)
  obtain rfl := Option.some.inj hM
  exact xreti hx hb hr hlocks hP hK hD hS dX6_until_14 rfl
def s_X6_least_15 (u_this_yard : K4) (u_this_column : K0) (p1 : Int32) (v2 : Int32 × K0) : Option ((Int32 × K0) ⊕ (Int32 × K0)) :=
  if (99) < v2.1 then
   (some (.inr ((-9), v2.2)))
  else
   ((some (f_X0_beLike v2.2 u_this_column) : Option (K0)).bind fun r4 =>
    (some (f_X0_pour r4 v2.1) : Option (Int32 × K0)).bind fun r5 =>
    (f_X0_pullsToWater r5.2 u_this_yard).bind fun r6 =>
    if r6 ≤ (0) then
     (some (.inl (v2.1 + 1, r5.2)))
    else
     (if p1 < r6 then
       (some (.inl (v2.1 + 1, r5.2)))
      else
       (some (.inr (v2.1, r5.2)))))
def f_X6_least (N : Nat) (u_this : K6) (u_this_yard : K4) (u_this_column : K0) (u_this_shade : K0) (p1 : Int32) : Option (Int32 × K0) :=
  if (f_X6_outside p1 (1) (200)) = (0) then
   (xlp (s_X6_least_15 u_this_yard u_this_column p1) N (0, u_this_shade))
  else
   (some ((-1), u_this_shade))
set_option maxHeartbeats 4000000 in
set_option maxRecDepth 100000 in
theorem c_X6_least (l : Launch) (D : va_G) (T : xT) (x : Nat → Nat) {sz : Nat} {N : Nat} (u_this : K6) (u_this_yard : K4) (u_this_column : K0) (u_this_shade : K0) (p1 : Int32) {rv : Int32 × K0} (hM : f_X6_least N u_this u_this_yard u_this_column u_this_shade p1 = some rv) : Met l yX6_least wsX6_least ({ frames := 3, cells := 0, slots := 0, locals := 67 } : Room) (va_Pc [.ref (x 0), .int p1] (xPre D T [((x 0), .inr (6, o6 x u_this)), ((x 3), .inr (4, o4 u_this_yard)), ((x 4), .inr (0, o0 u_this_column)), ((x 22), .inr (0, o0 u_this_shade))] sz xE0)) (va_Qi (fun (r : Int32) (_ : Unit) => r = rv.1) (fun _ => xPost D T [((x 0), .inr (6, o6 x u_this)), ((x 3), .inr (4, o4 u_this_yard)), ((x 4), .inr (0, o0 u_this_column)), ((x 22), .inr (0, o0 rv.2))] (va_A [((x 0), .inr (6, o6 x u_this)), ((x 3), .inr (4, o4 u_this_yard)), ((x 4), .inr (0, o0 u_this_column)), ((x 22), .inr (0, o0 u_this_shade))] sz)) (va_A [((x 0), .inr (6, o6 x u_this)), ((x 3), .inr (4, o4 u_this_yard)), ((x 4), .inr (0, o0 u_this_column)), ((x 22), .inr (0, o0 u_this_shade))] sz)) 0 0 (va_A [((x 0), .inr (6, o6 x u_this)), ((x 3), .inr (4, o4 u_this_yard)), ((x 4), .inr (0, o0 u_this_column)), ((x 22), .inr (0, o0 u_this_shade))] sz) := by
  refine xMet (av := [.ref (x 0), .int p1]) (Wd := [((x 0), .inr (6, o6 x u_this)), ((x 3), .inr (4, o4 u_this_yard)), ((x 4), .inr (0, o0 u_this_column)), ((x 22), .inr (0, o0 u_this_shade))]) (E := xE0) (Qc := fun A => (va_Qi (fun (r : Int32) (_ : Unit) => r = rv.1) (fun _ => xPost D T [((x 0), .inr (6, o6 x u_this)), ((x 3), .inr (4, o4 u_this_yard)), ((x 4), .inr (0, o0 u_this_column)), ((x 22), .inr (0, o0 rv.2))] A) A)) (cc := cX6_least) (maxL := 4) (ret := (some .int)) (by decide) rfl (Nat.le_of_ble_eq_true rfl) ?_
  intro p e s m below meth c A ls hx hb hr hml hts hown hlocks hnm hP hK hD hS hA hE hl
  have hown : s.vm.findClass RX6 = some m.cls := hown
  have hl : lv_has ls 4 [(0, .ref (x 0)), (1, .int p1)] := hl
  unfold f_X6_least at hM
  refine lv_iload_n hx hb dX6_least_0 rfl (lv_at hl 1 rfl) ?_
  refine lv_iconst (v := 1) hx hb dX6_least_1 (by decide) ?_
  refine lv_sipush (v := 200) hx hb dX6_least_2 (by decide) ?_
  refine xafti (rv := (f_X6_outside p1 (1) (200))) (W2 := [((x 0), .inr (6, o6 x u_this)), ((x 3), .inr (4, o4 u_this_yard)), ((x 4), .inr (0, o0 u_this_column)), ((x 22), .inr (0, o0 u_this_shade))]) (va_runS (As := [.int p1, .int (1), .int (200)]) (rest := []) ⟨hx, hb, hml, hown, hts⟩ (c_X6_outside (rv := (f_X6_outside p1 (1) (200))) l D T p1 (1) (200) rfl) (cwS 3 hts gX6_least_X6_outside rfl rfl rfl (by decide +kernel) ⟨Nat.le_of_ble_eq_true rfl, Nat.le_of_ble_eq_true rfl⟩) (xpvs hP hD hK [] (by decide) rfl (fun _ _ _ => trivial) (fun _ _ _ _ _ _ => trivial)) rfl rfl hl.1 rfl (lv_room (Nat.le_of_ble_eq_true rfl)) dX6_least_5 ⟨Nat.le_of_ble_eq_true rfl, Nat.le_of_ble_eq_true rfl⟩) hP hD hS hA [] rfl rfl rfl rfl (fun H locs hP hD hS => ?_)
  refine lv_if_eq (tgt := 13) hx hb dX6_least_8 (by decide) (fun c1 => ?_) (fun c1 => ?_)
  · have hM := xit c1 hM
    refine lv_iconst (v := 0) hx hb dX6_least_13 (by decide) ?_
    refine lv_istore_n (lv' := [(2, .int (0)), (0, .ref (x 0)), (1, .int p1)]) hx hb dX6_least_14 rfl hl (by decide) rfl (fun ls hl => ?_)
    have Lv2 : ∀ (n : Nat) (v2 : Int32 × K0), xlp (s_X6_least_15 u_this_yard u_this_column p1) n v2 = some rv → ∀ (H : Heap) (locs : List Loc) (ls : Array Slot), va_P D vwCl [((x 0), .inr (6, o6 x u_this)), ((x 3), .inr (4, o4 u_this_yard)), ((x 4), .inr (0, o0 u_this_column)), ((x 22), .inr (0, o0 v2.2))] H → va_D A [((x 0), .inr (6, o6 x u_this)), ((x 3), .inr (4, o4 u_this_yard)), ((x 4), .inr (0, o0 u_this_column)), ((x 22), .inr (0, o0 v2.2))] → va_S A s.heap H locs → lv_has ls 4 [(0, .ref (x 0)), (1, .int p1), (2, .int v2.1)] → W p l e ({ frames := 3, cells := 0, slots := 0, locals := 67 } : Room) s m ([.ref (x 0), .int p1] : List Value).toArray below meth c H locs 0 0 (MQ below (va_Qi (fun (r : Int32) (_ : Unit) => r = rv.1) (fun _ => xPost D T [((x 0), .inr (6, o6 x u_this)), ((x 3), .inr (4, o4 u_this_yard)), ((x 4), .inr (0, o0 u_this_column)), ((x 22), .inr (0, o0 rv.2))] A) A) ([.ref (x 0), .int p1] : List Value).toArray s 0 0 A) (F0 m 15 ls []) := by
      intro n
      induction n with
      | zero => exact fun _ h => (xlp_0 h).elim
      | succ n ih =>
        intro v2 hM H locs ls hP hD hS hl
        obtain ⟨z, hM, hz1, hz2⟩ := xlp_s hM
        unfold s_X6_least_15 at hM
        refine lv_iload_n hx hb dX6_least_15 rfl (lv_at hl 2 rfl) ?_
        refine lv_bipush (v := 99) hx hb dX6_least_16 (by decide) ?_
        refine lv_icmp_gt (tgt := 70) hx hb dX6_least_18 (by decide) (fun c3 => ?_) (fun c3 => ?_)
        · have hM := xit c3 hM
          refine lv_bipush (v := (-9)) hx hb dX6_least_70 (by decide) ?_
          obtain rfl := hz2 _ (Option.some.inj hM).symm
          exact xreti hx hb hr hlocks hP hK hD hS dX6_least_72 rfl
        · have hM := xif c3 hM
          refine lv_aload_n hx hb dX6_least_21 rfl (lv_at hl 0 rfl) ?_
          refine va_get (D := D) (ci := 6) (v := .ref (x 22)) (C := RX6) (T := TX6) (N := 16) hx hb hts (fun w h => List.mem_cons_of_mem _ (List.mem_append_left _ (List.mem_append_left _ (List.mem_append_right _ h)))) hown hK hP 0 rfl rfl 12 (by decide) (hts _ (List.mem_of_getElem? (i := 1) rfl)) (fun _ h9 => h9) rfl dX6_least_22 ?_
          refine lv_aload_n hx hb dX6_least_25 rfl (lv_at hl 0 rfl) ?_
          refine va_get (D := D) (ci := 6) (v := .ref (x 4)) (C := RX6) (T := TX6) (N := 16) hx hb hts (fun w h => List.mem_cons_of_mem _ (List.mem_append_left _ (List.mem_append_left _ (List.mem_append_right _ h)))) hown hK hP 0 rfl rfl 2 (by decide) (hts _ (List.mem_of_getElem? (i := 2) rfl)) (fun _ h9 => h9) rfl dX6_least_26 ?_
          obtain ⟨r4, er4, hM⟩ := xbd hM
          refine xaftv (W2 := [((x 0), .inr (6, o6 x u_this)), ((x 3), .inr (4, o4 u_this_yard)), ((x 4), .inr (0, o0 u_this_column)), ((x 22), .inr (0, o0 r4))]) (va_runV (As := [.ref (x 4)]) (rest := []) ⟨hx, hb, hml, hown, hts⟩ (c_X0_beLike l D T (x 22) (x 4) v2.2 u_this_column (Option.some.inj er4)) (cwV 1 hts gX6_least_X0_beLike rfl rfl rfl (by decide +kernel) ⟨Nat.le_of_ble_eq_true rfl, Nat.le_of_ble_eq_true rfl⟩) (xpvv hP hD hK [3, 2] (by decide) rfl 0 0 rfl rfl (fun _ _ _ => trivial) (fun _ _ _ _ _ _ => trivial)) rfl rfl hl.1 rfl (lv_room (Nat.le_of_ble_eq_true rfl)) dX6_least_29 ⟨Nat.le_of_ble_eq_true rfl, Nat.le_of_ble_eq_true rfl⟩) hP hD hS hA [3, 2] rfl rfl rfl rfl (fun H locs hP hD hS => ?_)
          refine lv_aload_n hx hb dX6_least_32 rfl (lv_at hl 0 rfl) ?_
          refine va_get (D := D) (ci := 6) (v := .ref (x 22)) (C := RX6) (T := TX6) (N := 16) hx hb hts (fun w h => List.mem_cons_of_mem _ (List.mem_append_left _ (List.mem_append_left _ (List.mem_append_right _ h)))) hown hK hP 0 rfl rfl 12 (by decide) (hts _ (List.mem_of_getElem? (i := 1) rfl)) (fun _ h9 => h9) rfl dX6_least_33 ?_
          refine lv_iload_n hx hb dX6_least_36 rfl (lv_at hl 2 rfl) ?_
          obtain ⟨r5, er5, hM⟩ := xbd hM
          refine xafti (rv := r5.1) (W2 := [((x 0), .inr (6, o6 x u_this)), ((x 3), .inr (4, o4 u_this_yard)), ((x 4), .inr (0, o0 u_this_column)), ((x 22), .inr (0, o0 r5.2))]) (va_runV (As := [.int v2.1]) (rest := []) ⟨hx, hb, hml, hown, hts⟩ (c_X0_pour l D T (x 22) r4 v2.1 (Option.some.inj er5)) (cwV 1 hts gX6_least_X0_pour rfl rfl rfl (by decide +kernel) ⟨Nat.le_of_ble_eq_true rfl, Nat.le_of_ble_eq_true rfl⟩) (xpvv hP hD hK [3] (by decide) rfl 0 0 rfl rfl (fun _ _ _ => trivial) (fun _ _ _ _ _ _ => trivial)) rfl rfl hl.1 rfl (lv_room (Nat.le_of_ble_eq_true rfl)) dX6_least_37 ⟨Nat.le_of_ble_eq_true rfl, Nat.le_of_ble_eq_true rfl⟩) hP hD hS hA [3] rfl rfl rfl rfl (fun H locs hP hD hS => ?_)
          refine lv_pop hx hb dX6_least_40 rfl ?_
          refine lv_aload_n hx hb dX6_least_41 rfl (lv_at hl 0 rfl) ?_
          refine va_get (D := D) (ci := 6) (v := .ref (x 22)) (C := RX6) (T := TX6) (N := 16) hx hb hts (fun w h => List.mem_cons_of_mem _ (List.mem_append_left _ (List.mem_append_left _ (List.mem_append_right _ h)))) hown hK hP 0 rfl rfl 12 (by decide) (hts _ (List.mem_of_getElem? (i := 1) rfl)) (fun _ h9 => h9) rfl dX6_least_42 ?_
          refine lv_aload_n hx hb dX6_least_45 rfl (lv_at hl 0 rfl) ?_
          refine va_get (D := D) (ci := 6) (v := .ref (x 3)) (C := RX6) (T := TX6) (N := 16) hx hb hts (fun w h => List.mem_cons_of_mem _ (List.mem_append_left _ (List.mem_append_left _ (List.mem_append_right _ h)))) hown hK hP 0 rfl rfl 1 (by decide) (hts _ (List.mem_of_getElem? (i := 3) rfl)) (fun _ h9 => h9) rfl dX6_least_46 ?_
          obtain ⟨r6, er6, hM⟩ := xbd hM
          refine xafti (rv := r6) (W2 := [((x 0), .inr (6, o6 x u_this)), ((x 3), .inr (4, o4 u_this_yard)), ((x 4), .inr (0, o0 u_this_column)), ((x 22), .inr (0, o0 r5.2))]) (va_runV (As := [.ref (x 3)]) (rest := []) ⟨hx, hb, hml, hown, hts⟩ (c_X0_pullsToWater l D T (x 22) (x 3) r5.2 u_this_yard er6) (cwV 1 hts gX6_least_X0_pullsToWater rfl rfl rfl (by decide +kernel) ⟨Nat.le_of_ble_eq_true rfl, Nat.le_of_ble_eq_true rfl⟩) (xpvv hP hD hK [3, 1] (by decide) rfl 0 0 rfl rfl (fun _ _ _ => trivial) (fun _ _ _ _ _ _ => trivial)) rfl rfl hl.1 rfl (lv_room (Nat.le_of_ble_eq_true rfl)) dX6_least_49 ⟨Nat.le_of_ble_eq_true rfl, Nat.le_of_ble_eq_true rfl⟩) hP hD hS hA [3, 1] rfl rfl rfl rfl (fun H locs hP hD hS => ?_)
          refine lv_istore_n (lv' := [(3, .int r6), (0, .ref (x 0)), (1, .int p1), (2, .int v2.1)]) hx hb dX6_least_52 rfl hl (by decide) rfl (fun ls hl => ?_)
          refine lv_iload_n hx hb dX6_least_53 rfl (lv_at hl 0 rfl) ?_
          refine lv_if_le (tgt := 64) hx hb dX6_least_54 (by decide) (fun c7 => ?_) (fun c7 => ?_)
          · have hM := xit c7 hM
            refine lv_iinc (v := v2.1 + 1) (lv' := [(2, .int (v2.1 + 1)), (3, .int r6), (0, .ref (x 0)), (1, .int p1)]) hx hb dX6_least_64 hl (k := 3) rfl rfl (by decide) rfl (fun ls hl => ?_)
            refine lv_goto (tgt := 15) hx hb dX6_least_67 (by decide) ?_
            exact ih _ (hz1 _ (Option.some.inj hM).symm) _ _ _ hP hD hS (lv_sub hl [2, 3, 0] rfl)
          · have hM := xif c7 hM
            refine lv_iload_n hx hb dX6_least_57 rfl (lv_at hl 0 rfl) ?_
            refine lv_iload_n hx hb dX6_least_58 rfl (lv_at hl 2 rfl) ?_
            refine lv_icmp_gt (tgt := 64) hx hb dX6_least_59 (by decide) (fun c8 => ?_) (fun c8 => ?_)
            · have hM := xit c8 hM
              refine lv_iinc (v := v2.1 + 1) (lv' := [(2, .int (v2.1 + 1)), (3, .int r6), (0, .ref (x 0)), (1, .int p1)]) hx hb dX6_least_64 hl (k := 3) rfl rfl (by decide) rfl (fun ls hl => ?_)
              refine lv_goto (tgt := 15) hx hb dX6_least_67 (by decide) ?_
              exact ih _ (hz1 _ (Option.some.inj hM).symm) _ _ _ hP hD hS (lv_sub hl [2, 3, 0] rfl)
            · have hM := xif c8 hM
              refine lv_iload_n hx hb dX6_least_62 rfl (lv_at hl 3 rfl) ?_
              obtain rfl := hz2 _ (Option.some.inj hM).symm
              exact xreti hx hb hr hlocks hP hK hD hS dX6_least_63 rfl
    exact Lv2 _ _ hM _ _ _ hP hD hS (lv_sub hl [1, 2, 0] rfl)
  · have hM := xif c1 hM
    refine lv_iconst (v := (-1)) hx hb dX6_least_11 (by decide) ?_
    obtain rfl := Option.some.inj hM
    exact xreti hx hb hr hlocks hP hK hD hS dX6_least_12 rfl
def f_X6_night (N : Nat) (u_this : K6) (u_this_yard : K4) (u_this_column : K0) (u_this_shade : K0) (p1 : Int32) : Option (Int32 × K0) :=
  if (f_X6_outside p1 (1) (48)) = (0) then
   ((some (f_X0_beLike u_this_shade u_this_column) : Option (K0)).bind fun r2 =>
    (f_X0_stand N r2 u_this_yard p1).bind fun r3 =>
    some (r3.1, r3.2))
  else
   (some ((-1), u_this_shade))
set_option maxHeartbeats 4000000 in
set_option maxRecDepth 100000 in
theorem c_X6_night (l : Launch) (D : va_G) (T : xT) (x : Nat → Nat) {sz : Nat} {N : Nat} (u_this : K6) (u_this_yard : K4) (u_this_column : K0) (u_this_shade : K0) (p1 : Int32) {rv : Int32 × K0} (hM : f_X6_night N u_this u_this_yard u_this_column u_this_shade p1 = some rv) : Met l yX6_night wsX6_night ({ frames := 3, cells := 0, slots := 0, locals := 67 } : Room) (va_Pc [.ref (x 0), .int p1] (xPre D T [((x 0), .inr (6, o6 x u_this)), ((x 3), .inr (4, o4 u_this_yard)), ((x 4), .inr (0, o0 u_this_column)), ((x 22), .inr (0, o0 u_this_shade))] sz xE0)) (va_Qi (fun (r : Int32) (_ : Unit) => r = rv.1) (fun _ => xPost D T [((x 0), .inr (6, o6 x u_this)), ((x 3), .inr (4, o4 u_this_yard)), ((x 4), .inr (0, o0 u_this_column)), ((x 22), .inr (0, o0 rv.2))] (va_A [((x 0), .inr (6, o6 x u_this)), ((x 3), .inr (4, o4 u_this_yard)), ((x 4), .inr (0, o0 u_this_column)), ((x 22), .inr (0, o0 u_this_shade))] sz)) (va_A [((x 0), .inr (6, o6 x u_this)), ((x 3), .inr (4, o4 u_this_yard)), ((x 4), .inr (0, o0 u_this_column)), ((x 22), .inr (0, o0 u_this_shade))] sz)) 0 0 (va_A [((x 0), .inr (6, o6 x u_this)), ((x 3), .inr (4, o4 u_this_yard)), ((x 4), .inr (0, o0 u_this_column)), ((x 22), .inr (0, o0 u_this_shade))] sz) := by
  refine xMet (av := [.ref (x 0), .int p1]) (Wd := [((x 0), .inr (6, o6 x u_this)), ((x 3), .inr (4, o4 u_this_yard)), ((x 4), .inr (0, o0 u_this_column)), ((x 22), .inr (0, o0 u_this_shade))]) (E := xE0) (Qc := fun A => (va_Qi (fun (r : Int32) (_ : Unit) => r = rv.1) (fun _ => xPost D T [((x 0), .inr (6, o6 x u_this)), ((x 3), .inr (4, o4 u_this_yard)), ((x 4), .inr (0, o0 u_this_column)), ((x 22), .inr (0, o0 rv.2))] A) A)) (cc := cX6_night) (maxL := 2) (ret := (some .int)) (by decide) rfl (Nat.le_of_ble_eq_true rfl) ?_
  intro p e s m below meth c A ls hx hb hr hml hts hown hlocks hnm hP hK hD hS hA hE hl
  have hown : s.vm.findClass RX6 = some m.cls := hown
  have hl : lv_has ls 2 [(0, .ref (x 0)), (1, .int p1)] := hl
  unfold f_X6_night at hM
  refine lv_iload_n hx hb dX6_night_0 rfl (lv_at hl 1 rfl) ?_
  refine lv_iconst (v := 1) hx hb dX6_night_1 (by decide) ?_
  refine lv_bipush (v := 48) hx hb dX6_night_2 (by decide) ?_
  refine xafti (rv := (f_X6_outside p1 (1) (48))) (W2 := [((x 0), .inr (6, o6 x u_this)), ((x 3), .inr (4, o4 u_this_yard)), ((x 4), .inr (0, o0 u_this_column)), ((x 22), .inr (0, o0 u_this_shade))]) (va_runS (As := [.int p1, .int (1), .int (48)]) (rest := []) ⟨hx, hb, hml, hown, hts⟩ (c_X6_outside (rv := (f_X6_outside p1 (1) (48))) l D T p1 (1) (48) rfl) (cwS 3 hts gX6_night_X6_outside rfl rfl rfl (by decide +kernel) ⟨Nat.le_of_ble_eq_true rfl, Nat.le_of_ble_eq_true rfl⟩) (xpvs hP hD hK [] (by decide) rfl (fun _ _ _ => trivial) (fun _ _ _ _ _ _ => trivial)) rfl rfl hl.1 rfl (lv_room (Nat.le_of_ble_eq_true rfl)) dX6_night_4 ⟨Nat.le_of_ble_eq_true rfl, Nat.le_of_ble_eq_true rfl⟩) hP hD hS hA [] rfl rfl rfl rfl (fun H locs hP hD hS => ?_)
  refine lv_if_eq (tgt := 12) hx hb dX6_night_7 (by decide) (fun c1 => ?_) (fun c1 => ?_)
  · have hM := xit c1 hM
    refine lv_aload_n hx hb dX6_night_12 rfl (lv_at hl 0 rfl) ?_
    refine va_get (D := D) (ci := 6) (v := .ref (x 22)) (C := RX6) (T := TX6) (N := 16) hx hb hts (fun w h => List.mem_cons_of_mem _ (List.mem_append_left _ (List.mem_append_left _ (List.mem_append_right _ h)))) hown hK hP 0 rfl rfl 12 (by decide) (hts _ (List.mem_of_getElem? (i := 1) rfl)) (fun _ h9 => h9) rfl dX6_night_13 ?_
    refine lv_aload_n hx hb dX6_night_16 rfl (lv_at hl 0 rfl) ?_
    refine va_get (D := D) (ci := 6) (v := .ref (x 4)) (C := RX6) (T := TX6) (N := 16) hx hb hts (fun w h => List.mem_cons_of_mem _ (List.mem_append_left _ (List.mem_append_left _ (List.mem_append_right _ h)))) hown hK hP 0 rfl rfl 2 (by decide) (hts _ (List.mem_of_getElem? (i := 2) rfl)) (fun _ h9 => h9) rfl dX6_night_17 ?_
    obtain ⟨r2, er2, hM⟩ := xbd hM
    refine xaftv (W2 := [((x 0), .inr (6, o6 x u_this)), ((x 3), .inr (4, o4 u_this_yard)), ((x 4), .inr (0, o0 u_this_column)), ((x 22), .inr (0, o0 r2))]) (va_runV (As := [.ref (x 4)]) (rest := []) ⟨hx, hb, hml, hown, hts⟩ (c_X0_beLike l D T (x 22) (x 4) u_this_shade u_this_column (Option.some.inj er2)) (cwV 1 hts gX6_night_X0_beLike rfl rfl rfl (by decide +kernel) ⟨Nat.le_of_ble_eq_true rfl, Nat.le_of_ble_eq_true rfl⟩) (xpvv hP hD hK [3, 2] (by decide) rfl 0 0 rfl rfl (fun _ _ _ => trivial) (fun _ _ _ _ _ _ => trivial)) rfl rfl hl.1 rfl (lv_room (Nat.le_of_ble_eq_true rfl)) dX6_night_20 ⟨Nat.le_of_ble_eq_true rfl, Nat.le_of_ble_eq_true rfl⟩) hP hD hS hA [3, 2] rfl rfl rfl rfl (fun H locs hP hD hS => ?_)
    refine lv_aload_n hx hb dX6_night_23 rfl (lv_at hl 0 rfl) ?_
    refine va_get (D := D) (ci := 6) (v := .ref (x 22)) (C := RX6) (T := TX6) (N := 16) hx hb hts (fun w h => List.mem_cons_of_mem _ (List.mem_append_left _ (List.mem_append_left _ (List.mem_append_right _ h)))) hown hK hP 0 rfl rfl 12 (by decide) (hts _ (List.mem_of_getElem? (i := 1) rfl)) (fun _ h9 => h9) rfl dX6_night_24 ?_
    refine lv_aload_n hx hb dX6_night_27 rfl (lv_at hl 0 rfl) ?_
    refine va_get (D := D) (ci := 6) (v := .ref (x 3)) (C := RX6) (T := TX6) (N := 16) hx hb hts (fun w h => List.mem_cons_of_mem _ (List.mem_append_left _ (List.mem_append_left _ (List.mem_append_right _ h)))) hown hK hP 0 rfl rfl 1 (by decide) (hts _ (List.mem_of_getElem? (i := 3) rfl)) (fun _ h9 => h9) rfl dX6_night_28 ?_
    refine lv_iload_n hx hb dX6_night_31 rfl (lv_at hl 1 rfl) ?_
    obtain ⟨r3, er3, hM⟩ := xbd hM
    refine xafti (rv := r3.1) (W2 := [((x 0), .inr (6, o6 x u_this)), ((x 3), .inr (4, o4 u_this_yard)), ((x 4), .inr (0, o0 u_this_column)), ((x 22), .inr (0, o0 r3.2))]) (va_runV (As := [.ref (x 3), .int p1]) (rest := []) ⟨hx, hb, hml, hown, hts⟩ (c_X0_stand l D T (x 22) (x 3) r2 u_this_yard p1 er3) (cwV 2 hts gX6_night_X0_stand rfl rfl rfl (by decide +kernel) ⟨Nat.le_of_ble_eq_true rfl, Nat.le_of_ble_eq_true rfl⟩) (xpvv hP hD hK [3, 1] (by decide) rfl 0 0 rfl rfl (fun _ _ _ => trivial) (fun _ _ _ _ _ _ => trivial)) rfl rfl hl.1 rfl (lv_room (Nat.le_of_ble_eq_true rfl)) dX6_night_32 ⟨Nat.le_of_ble_eq_true rfl, Nat.le_of_ble_eq_true rfl⟩) hP hD hS hA [3, 1] rfl rfl rfl rfl (fun H locs hP hD hS => ?_)
    obtain rfl := Option.some.inj hM
    exact xreti hx hb hr hlocks hP hK hD hS dX6_night_35 rfl
  · have hM := xif c1 hM
    refine lv_iconst (v := (-1)) hx hb dX6_night_10 (by decide) ?_
    obtain rfl := Option.some.inj hM
    exact xreti hx hb hr hlocks hP hK hD hS dX6_night_11 rfl
def f_X6_signMayBe (p1 : Int32) (p2 : Int32) (p3 : Int32) : Int32 :=
  if p1 = 0 then
   (if p2 = (0) then
     (if (f_X6_outside p3 (0) (200)) = (0) then
       (1)
      else
       (0))
    else
     (0))
  else if p1 = 1 then
   (if (f_X6_outside p2 (1) (24)) = (0) then
     (if (f_X6_outside p3 (0) (999)) = (0) then
       (1)
      else
       (0))
    else
     (0))
  else if p1 = 2 then
   (if p2 = (0) then
     (if (f_X6_outside p3 (0) (1)) = (0) then
       (1)
      else
       (0))
    else
     (0))
  else 
   (0)
set_option maxHeartbeats 4000000 in
set_option maxRecDepth 100000 in
theorem c_X6_signMayBe (l : Launch) (D : va_G) (T : xT)  {sz : Nat} (p1 : Int32) (p2 : Int32) (p3 : Int32) {rv : Int32} (hM : f_X6_signMayBe p1 p2 p3 = rv) : Met l yX6_signMayBe wsX6_signMayBe ({ frames := 1, cells := 0, slots := 0, locals := 22 } : Room) (va_Pc [.int p1, .int p2, .int p3] (xPre D T [] sz xE0)) (va_Qi (fun (r : Int32) (_ : Unit) => r = rv) (fun _ => xPost D T [] (va_A [] sz)) (va_A [] sz)) 0 0 (va_A [] sz) := by
  refine xMet (av := [.int p1, .int p2, .int p3]) (Wd := []) (E := xE0) (Qc := fun A => (va_Qi (fun (r : Int32) (_ : Unit) => r = rv) (fun _ => xPost D T [] A) A)) (cc := cX6_signMayBe) (maxL := 3) (ret := (some .boolean)) (by decide) rfl (Nat.le_of_ble_eq_true rfl) ?_
  intro p e s m below meth c A ls hx hb hr hml hts hown hlocks hnm hP hK hD hS hA hE hl
  have hown : s.vm.findClass RX6 = some m.cls := hown
  have hl : lv_has ls 3 [(0, .int p1), (1, .int p2), (2, .int p3)] := hl
  unfold f_X6_signMayBe at hM
  refine lv_iload_n hx hb dX6_signMayBe_0 rfl (lv_at hl 0 rfl) ?_
  by_cases c1 : p1 = 0
  · have hM := xit c1 hM
    refine lv_tableIn (off := 27) (tgt := 28) hx hb dX6_signMayBe_1 (by rw [c1]; decide) (by rw [c1]; decide) (by rw [c1]; rfl) (by decide) ?_
    refine lv_iload_n hx hb dX6_signMayBe_28 rfl (lv_at hl 1 rfl) ?_
    refine lv_if_ne (tgt := 47) hx hb dX6_signMayBe_29 (by decide) (fun c2 => ?_) (fun c2 => ?_)
    · have hM := xif c2 hM
      refine lv_iconst (v := 0) hx hb dX6_signMayBe_47 (by decide) ?_
      obtain rfl := hM
      exact xretz hx hb hr hlocks hP hK hD hS dX6_signMayBe_48 rfl rfl
    · have hM := xit c2 hM
      refine lv_iload_n hx hb dX6_signMayBe_32 rfl (lv_at hl 2 rfl) ?_
      refine lv_iconst (v := 0) hx hb dX6_signMayBe_33 (by decide) ?_
      refine lv_sipush (v := 200) hx hb dX6_signMayBe_34 (by decide) ?_
      refine xafti (rv := (f_X6_outside p3 (0) (200))) (W2 := []) (va_runS (As := [.int p3, .int (0), .int (200)]) (rest := []) ⟨hx, hb, hml, hown, hts⟩ (c_X6_outside (rv := (f_X6_outside p3 (0) (200))) l D T p3 (0) (200) rfl) (cwS 3 hts gX6_signMayBe_X6_outside rfl rfl rfl (by decide +kernel) ⟨Nat.le_of_ble_eq_true rfl, Nat.le_of_ble_eq_true rfl⟩) (xpvs hP hD hK [] (by decide) rfl (fun _ _ _ => trivial) (fun _ _ _ _ _ _ => trivial)) rfl rfl hl.1 rfl (lv_room (Nat.le_of_ble_eq_true rfl)) dX6_signMayBe_37 ⟨Nat.le_of_ble_eq_true rfl, Nat.le_of_ble_eq_true rfl⟩) hP hD hS hA [] rfl rfl rfl rfl (fun H locs hP hD hS => ?_)
      refine lv_if_ne (tgt := 47) hx hb dX6_signMayBe_40 (by decide) (fun c3 => ?_) (fun c3 => ?_)
      · have hM := xif c3 hM
        refine lv_iconst (v := 0) hx hb dX6_signMayBe_47 (by decide) ?_
        obtain rfl := hM
        exact xretz hx hb hr hlocks hP hK hD hS dX6_signMayBe_48 rfl rfl
      · have hM := xit c3 hM
        refine lv_iconst (v := 1) hx hb dX6_signMayBe_43 (by decide) ?_
        refine lv_goto (tgt := 48) hx hb dX6_signMayBe_44 (by decide) ?_
        obtain rfl := hM
        exact xretz hx hb hr hlocks hP hK hD hS dX6_signMayBe_48 rfl rfl
  · have hM := xif c1 hM
    by_cases c4 : p1 = 1
    · have hM := xit c4 hM
      refine lv_tableIn (off := 48) (tgt := 49) hx hb dX6_signMayBe_1 (by rw [c4]; decide) (by rw [c4]; decide) (by rw [c4]; rfl) (by decide) ?_
      refine lv_iload_n hx hb dX6_signMayBe_49 rfl (lv_at hl 1 rfl) ?_
      refine lv_iconst (v := 1) hx hb dX6_signMayBe_50 (by decide) ?_
      refine lv_bipush (v := 24) hx hb dX6_signMayBe_51 (by decide) ?_
      refine xafti (rv := (f_X6_outside p2 (1) (24))) (W2 := []) (va_runS (As := [.int p2, .int (1), .int (24)]) (rest := []) ⟨hx, hb, hml, hown, hts⟩ (c_X6_outside (rv := (f_X6_outside p2 (1) (24))) l D T p2 (1) (24) rfl) (cwS 3 hts gX6_signMayBe_X6_outside rfl rfl rfl (by decide +kernel) ⟨Nat.le_of_ble_eq_true rfl, Nat.le_of_ble_eq_true rfl⟩) (xpvs hP hD hK [] (by decide) rfl (fun _ _ _ => trivial) (fun _ _ _ _ _ _ => trivial)) rfl rfl hl.1 rfl (lv_room (Nat.le_of_ble_eq_true rfl)) dX6_signMayBe_53 ⟨Nat.le_of_ble_eq_true rfl, Nat.le_of_ble_eq_true rfl⟩) hP hD hS hA [] rfl rfl rfl rfl (fun H locs hP hD hS => ?_)
      refine lv_if_ne (tgt := 74) hx hb dX6_signMayBe_56 (by decide) (fun c5 => ?_) (fun c5 => ?_)
      · have hM := xif c5 hM
        refine lv_iconst (v := 0) hx hb dX6_signMayBe_74 (by decide) ?_
        obtain rfl := hM
        exact xretz hx hb hr hlocks hP hK hD hS dX6_signMayBe_75 rfl rfl
      · have hM := xit c5 hM
        refine lv_iload_n hx hb dX6_signMayBe_59 rfl (lv_at hl 2 rfl) ?_
        refine lv_iconst (v := 0) hx hb dX6_signMayBe_60 (by decide) ?_
        refine lv_sipush (v := 999) hx hb dX6_signMayBe_61 (by decide) ?_
        refine xafti (rv := (f_X6_outside p3 (0) (999))) (W2 := []) (va_runS (As := [.int p3, .int (0), .int (999)]) (rest := []) ⟨hx, hb, hml, hown, hts⟩ (c_X6_outside (rv := (f_X6_outside p3 (0) (999))) l D T p3 (0) (999) rfl) (cwS 3 hts gX6_signMayBe_X6_outside rfl rfl rfl (by decide +kernel) ⟨Nat.le_of_ble_eq_true rfl, Nat.le_of_ble_eq_true rfl⟩) (xpvs hP hD hK [] (by decide) rfl (fun _ _ _ => trivial) (fun _ _ _ _ _ _ => trivial)) rfl rfl hl.1 rfl (lv_room (Nat.le_of_ble_eq_true rfl)) dX6_signMayBe_64 ⟨Nat.le_of_ble_eq_true rfl, Nat.le_of_ble_eq_true rfl⟩) hP hD hS hA [] rfl rfl rfl rfl (fun H locs hP hD hS => ?_)
        refine lv_if_ne (tgt := 74) hx hb dX6_signMayBe_67 (by decide) (fun c6 => ?_) (fun c6 => ?_)
        · have hM := xif c6 hM
          refine lv_iconst (v := 0) hx hb dX6_signMayBe_74 (by decide) ?_
          obtain rfl := hM
          exact xretz hx hb hr hlocks hP hK hD hS dX6_signMayBe_75 rfl rfl
        · have hM := xit c6 hM
          refine lv_iconst (v := 1) hx hb dX6_signMayBe_70 (by decide) ?_
          refine lv_goto (tgt := 75) hx hb dX6_signMayBe_71 (by decide) ?_
          obtain rfl := hM
          exact xretz hx hb hr hlocks hP hK hD hS dX6_signMayBe_75 rfl rfl
    · have hM := xif c4 hM
      by_cases c7 : p1 = 2
      · have hM := xit c7 hM
        refine lv_tableIn (off := 75) (tgt := 76) hx hb dX6_signMayBe_1 (by rw [c7]; decide) (by rw [c7]; decide) (by rw [c7]; rfl) (by decide) ?_
        refine lv_iload_n hx hb dX6_signMayBe_76 rfl (lv_at hl 1 rfl) ?_
        refine lv_if_ne (tgt := 93) hx hb dX6_signMayBe_77 (by decide) (fun c8 => ?_) (fun c8 => ?_)
        · have hM := xif c8 hM
          refine lv_iconst (v := 0) hx hb dX6_signMayBe_93 (by decide) ?_
          obtain rfl := hM
          exact xretz hx hb hr hlocks hP hK hD hS dX6_signMayBe_94 rfl rfl
        · have hM := xit c8 hM
          refine lv_iload_n hx hb dX6_signMayBe_80 rfl (lv_at hl 2 rfl) ?_
          refine lv_iconst (v := 0) hx hb dX6_signMayBe_81 (by decide) ?_
          refine lv_iconst (v := 1) hx hb dX6_signMayBe_82 (by decide) ?_
          refine xafti (rv := (f_X6_outside p3 (0) (1))) (W2 := []) (va_runS (As := [.int p3, .int (0), .int (1)]) (rest := []) ⟨hx, hb, hml, hown, hts⟩ (c_X6_outside (rv := (f_X6_outside p3 (0) (1))) l D T p3 (0) (1) rfl) (cwS 3 hts gX6_signMayBe_X6_outside rfl rfl rfl (by decide +kernel) ⟨Nat.le_of_ble_eq_true rfl, Nat.le_of_ble_eq_true rfl⟩) (xpvs hP hD hK [] (by decide) rfl (fun _ _ _ => trivial) (fun _ _ _ _ _ _ => trivial)) rfl rfl hl.1 rfl (lv_room (Nat.le_of_ble_eq_true rfl)) dX6_signMayBe_83 ⟨Nat.le_of_ble_eq_true rfl, Nat.le_of_ble_eq_true rfl⟩) hP hD hS hA [] rfl rfl rfl rfl (fun H locs hP hD hS => ?_)
          refine lv_if_ne (tgt := 93) hx hb dX6_signMayBe_86 (by decide) (fun c9 => ?_) (fun c9 => ?_)
          · have hM := xif c9 hM
            refine lv_iconst (v := 0) hx hb dX6_signMayBe_93 (by decide) ?_
            obtain rfl := hM
            exact xretz hx hb hr hlocks hP hK hD hS dX6_signMayBe_94 rfl rfl
          · have hM := xit c9 hM
            refine lv_iconst (v := 1) hx hb dX6_signMayBe_89 (by decide) ?_
            refine lv_goto (tgt := 94) hx hb dX6_signMayBe_90 (by decide) ?_
            obtain rfl := hM
            exact xretz hx hb hr hlocks hP hK hD hS dX6_signMayBe_94 rfl rfl
      · have hM := xif c7 hM
        refine lv_tableOut (tgt := 95) hx hb dX6_signMayBe_1 (by have q0 := xsw c1 (show (0 : Int32).toInt = 0 by decide); have q1 := xsw c4 (show (1 : Int32).toInt = 1 by decide); have q2 := xsw c7 (show (2 : Int32).toInt = 2 by decide); omega) (by decide) ?_
        refine lv_iconst (v := 0) hx hb dX6_signMayBe_95 (by decide) ?_
        obtain rfl := hM
        exact xretz hx hb hr hlocks hP hK hD hS dX6_signMayBe_96 rfl rfl
def f_X6_sign (u_this : K6) (u_this_signs : K2) (u_this_signs_whats : (Nat → Int32)) (u_this_signs_hours : (Nat → Int32)) (u_this_signs_seen : (Nat → Int32)) (p1 : Int32) (p2 : Int32) (p3 : Int32) : Option (Int32 × K2 × (Nat → Int32) × (Nat → Int32) × (Nat → Int32)) :=
  if (f_X6_signMayBe p1 p2 p3) = (0) then
   (some ((-1), u_this_signs, u_this_signs_whats, u_this_signs_hours, u_this_signs_seen))
  else
   ((f_X2_add u_this_signs u_this_signs_hours u_this_signs_seen u_this_signs_whats p1 p2 p3).bind fun r2 =>
    some (r2.1, r2.2.1, r2.2.2.2.2, r2.2.2.1, r2.2.2.2.1))
set_option maxHeartbeats 4000000 in
set_option maxRecDepth 100000 in
theorem c_X6_sign (l : Launch) (D : va_G) (T : xT) (x : Nat → Nat) {sz : Nat} (u_this : K6) (u_this_signs : K2) (u_this_signs_whats : (Nat → Int32)) (u_this_signs_hours : (Nat → Int32)) (u_this_signs_seen : (Nat → Int32)) (p1 : Int32) (p2 : Int32) (p3 : Int32) {rv : Int32 × K2 × (Nat → Int32) × (Nat → Int32) × (Nat → Int32)} (hM : f_X6_sign u_this u_this_signs u_this_signs_whats u_this_signs_hours u_this_signs_seen p1 p2 p3 = some rv) : Met l yX6_sign wsX6_sign ({ frames := 2, cells := 0, slots := 0, locals := 44 } : Room) (va_Pc [.ref (x 0), .int p1, .int p2, .int p3] (xPre D T [((x 0), .inr (6, o6 x u_this)), ((x 9), .inr (2, o2 (x 10) (x 11) (x 12) u_this_signs)), ((x 10), .inl (T.1, 6, .inl u_this_signs_whats)), ((x 11), .inl (T.1, 6, .inl u_this_signs_hours)), ((x 12), .inl (T.1, 6, .inl u_this_signs_seen))] sz xE0)) (va_Qi (fun (r : Int32) (_ : Unit) => r = rv.1) (fun _ => xPost D T [((x 0), .inr (6, o6 x u_this)), ((x 9), .inr (2, o2 (x 10) (x 11) (x 12) rv.2.1)), ((x 10), .inl (T.1, 6, .inl rv.2.2.1)), ((x 11), .inl (T.1, 6, .inl rv.2.2.2.1)), ((x 12), .inl (T.1, 6, .inl rv.2.2.2.2))] (va_A [((x 0), .inr (6, o6 x u_this)), ((x 9), .inr (2, o2 (x 10) (x 11) (x 12) u_this_signs)), ((x 10), .inl (T.1, 6, .inl u_this_signs_whats)), ((x 11), .inl (T.1, 6, .inl u_this_signs_hours)), ((x 12), .inl (T.1, 6, .inl u_this_signs_seen))] sz)) (va_A [((x 0), .inr (6, o6 x u_this)), ((x 9), .inr (2, o2 (x 10) (x 11) (x 12) u_this_signs)), ((x 10), .inl (T.1, 6, .inl u_this_signs_whats)), ((x 11), .inl (T.1, 6, .inl u_this_signs_hours)), ((x 12), .inl (T.1, 6, .inl u_this_signs_seen))] sz)) 0 0 (va_A [((x 0), .inr (6, o6 x u_this)), ((x 9), .inr (2, o2 (x 10) (x 11) (x 12) u_this_signs)), ((x 10), .inl (T.1, 6, .inl u_this_signs_whats)), ((x 11), .inl (T.1, 6, .inl u_this_signs_hours)), ((x 12), .inl (T.1, 6, .inl u_this_signs_seen))] sz) := by
  refine xMet (av := [.ref (x 0), .int p1, .int p2, .int p3]) (Wd := [((x 0), .inr (6, o6 x u_this)), ((x 9), .inr (2, o2 (x 10) (x 11) (x 12) u_this_signs)), ((x 10), .inl (T.1, 6, .inl u_this_signs_whats)), ((x 11), .inl (T.1, 6, .inl u_this_signs_hours)), ((x 12), .inl (T.1, 6, .inl u_this_signs_seen))]) (E := xE0) (Qc := fun A => (va_Qi (fun (r : Int32) (_ : Unit) => r = rv.1) (fun _ => xPost D T [((x 0), .inr (6, o6 x u_this)), ((x 9), .inr (2, o2 (x 10) (x 11) (x 12) rv.2.1)), ((x 10), .inl (T.1, 6, .inl rv.2.2.1)), ((x 11), .inl (T.1, 6, .inl rv.2.2.2.1)), ((x 12), .inl (T.1, 6, .inl rv.2.2.2.2))] A) A)) (cc := cX6_sign) (maxL := 4) (ret := (some .int)) (by decide) rfl (Nat.le_of_ble_eq_true rfl) ?_
  intro p e s m below meth c A ls hx hb hr hml hts hown hlocks hnm hP hK hD hS hA hE hl
  have hown : s.vm.findClass RX6 = some m.cls := hown
  have hl : lv_has ls 4 [(0, .ref (x 0)), (1, .int p1), (2, .int p2), (3, .int p3)] := hl
  unfold f_X6_sign at hM
  refine lv_iload_n hx hb dX6_sign_0 rfl (lv_at hl 1 rfl) ?_
  refine lv_iload_n hx hb dX6_sign_1 rfl (lv_at hl 2 rfl) ?_
  refine lv_iload_n hx hb dX6_sign_2 rfl (lv_at hl 3 rfl) ?_
  refine xafti (rv := (f_X6_signMayBe p1 p2 p3)) (W2 := [((x 0), .inr (6, o6 x u_this)), ((x 9), .inr (2, o2 (x 10) (x 11) (x 12) u_this_signs)), ((x 10), .inl (T.1, 6, .inl u_this_signs_whats)), ((x 11), .inl (T.1, 6, .inl u_this_signs_hours)), ((x 12), .inl (T.1, 6, .inl u_this_signs_seen))]) (va_runS (As := [.int p1, .int p2, .int p3]) (rest := []) ⟨hx, hb, hml, hown, hts⟩ (c_X6_signMayBe (rv := (f_X6_signMayBe p1 p2 p3)) l D T p1 p2 p3 rfl) (cwS 3 hts gX6_sign_X6_signMayBe rfl rfl rfl (by decide +kernel) ⟨Nat.le_of_ble_eq_true rfl, Nat.le_of_ble_eq_true rfl⟩) (xpvs hP hD hK [] (by decide) rfl (fun _ _ _ => trivial) (fun _ _ _ _ _ _ => trivial)) rfl rfl hl.1 rfl (lv_room (Nat.le_of_ble_eq_true rfl)) dX6_sign_3 ⟨Nat.le_of_ble_eq_true rfl, Nat.le_of_ble_eq_true rfl⟩) hP hD hS hA [] rfl rfl rfl rfl (fun H locs hP hD hS => ?_)
  refine lv_if_ne (tgt := 11) hx hb dX6_sign_6 (by decide) (fun c1 => ?_) (fun c1 => ?_)
  · have hM := xif c1 hM
    refine lv_aload_n hx hb dX6_sign_11 rfl (lv_at hl 0 rfl) ?_
    refine va_get (D := D) (ci := 6) (v := .ref (x 9)) (C := RX6) (T := TX6) (N := 16) hx hb hts (fun w h => List.mem_cons_of_mem _ (List.mem_append_left _ (List.mem_append_right _ h))) hown hK hP 0 rfl rfl 5 (by decide) (hts _ (List.mem_of_getElem? (i := 1) rfl)) (fun _ h9 => h9) rfl dX6_sign_12 ?_
    refine lv_iload_n hx hb dX6_sign_15 rfl (lv_at hl 1 rfl) ?_
    refine lv_iload_n hx hb dX6_sign_16 rfl (lv_at hl 2 rfl) ?_
    refine lv_iload_n hx hb dX6_sign_17 rfl (lv_at hl 3 rfl) ?_
    obtain ⟨r2, er2, hM⟩ := xbd hM
    refine xafti (rv := r2.1) (W2 := [((x 0), .inr (6, o6 x u_this)), ((x 9), .inr (2, o2 (x 10) (x 11) (x 12) r2.2.1)), ((x 10), .inl (T.1, 6, .inl r2.2.2.2.2)), ((x 11), .inl (T.1, 6, .inl r2.2.2.1)), ((x 12), .inl (T.1, 6, .inl r2.2.2.2.1))]) (va_runV (As := [.int p1, .int p2, .int p3]) (rest := []) ⟨hx, hb, hml, hown, hts⟩ (c_X2_add l D T (x 9) (x 10) (x 11) (x 12) u_this_signs u_this_signs_hours u_this_signs_seen u_this_signs_whats p1 p2 p3 er2) (cwV 3 hts gX6_sign_X2_add rfl rfl rfl (by decide +kernel) ⟨Nat.le_of_ble_eq_true rfl, Nat.le_of_ble_eq_true rfl⟩) (xpvv hP hD hK [1, 3, 4, 2] (by decide) rfl 0 2 rfl rfl (fun _ _ _ => trivial) (fun _ _ _ _ _ _ => trivial)) rfl rfl hl.1 rfl (lv_room (Nat.le_of_ble_eq_true rfl)) dX6_sign_18 ⟨Nat.le_of_ble_eq_true rfl, Nat.le_of_ble_eq_true rfl⟩) hP hD hS hA [1, 3, 4, 2] rfl rfl rfl rfl (fun H locs hP hD hS => ?_)
    obtain rfl := Option.some.inj hM
    exact xreti hx hb hr hlocks hP hK hD hS dX6_sign_21 rfl
  · have hM := xit c1 hM
    refine lv_iconst (v := (-1)) hx hb dX6_sign_9 (by decide) ?_
    obtain rfl := Option.some.inj hM
    exact xreti hx hb hr hlocks hP hK hD hS dX6_sign_10 rfl
