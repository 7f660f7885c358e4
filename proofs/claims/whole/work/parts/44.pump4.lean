/-! laid by wip/whole/gen.py out of the decode rows: functional readings and contracts -/
def f_X6_keep (u_this : K6) (u_this_column : K0) (u_this_images_0 : K0) (u_this_images_1 : K0) (u_this_kept : (Nat → Int32)) (p1 : Int32) : Option (Int32 × K0 × K0 × (Nat → Int32)) :=
  if (f_X6_outside p1 (0) (1)) = (0) then
   (if p1 = 0 then
     ((some (f_X0_beLike u_this_images_0 u_this_column) : Option (K0)).bind fun r2 =>
      if xin p1 2 = true then
      (some (u_this_column.1, r2, u_this_images_1, (upd u_this_kept p1.toNatClampNeg (1))))
      else none)
    else if p1 = 1 then
     ((some (f_X0_beLike u_this_images_1 u_this_column) : Option (K0)).bind fun r4 =>
      if xin p1 2 = true then
      (some (u_this_column.1, u_this_images_0, r4, (upd u_this_kept p1.toNatClampNeg (1))))
      else none)
    else none)
  else
   (some ((-1), u_this_images_0, u_this_images_1, u_this_kept))
set_option maxHeartbeats 4000000 in
set_option maxRecDepth 100000 in
theorem c_X6_keep (l : Launch) (D : va_G) (T : xT) (x : Nat → Nat) {sz : Nat} (u_this : K6) (u_this_column : K0) (u_this_images_0 : K0) (u_this_images_1 : K0) (u_this_kept : (Nat → Int32)) (p1 : Int32) {rv : Int32 × K0 × K0 × (Nat → Int32)} (hM : f_X6_keep u_this u_this_column u_this_images_0 u_this_images_1 u_this_kept p1 = some rv) : Met l yX6_keep wsX6_keep ({ frames := 1, cells := 0, slots := 0, locals := 22 } : Room) (va_Pc [.ref (x 0), .int p1] (xPre D T [((x 0), .inr (6, o6 x u_this)), ((x 4), .inr (0, o0 u_this_column)), ((x 5), .inl (T.2.2.2, 2, .inr (.inr (.inr (.inr (xim x)))))), ((x 6), .inr (0, o0 u_this_images_0)), ((x 7), .inr (0, o0 u_this_images_1)), ((x 8), .inl (T.2.2.1, 2, .inl u_this_kept))] sz xE0)) (va_Qi (fun (r : Int32) (_ : Unit) => r = rv.1) (fun _ => xPost D T [((x 0), .inr (6, o6 x u_this)), ((x 4), .inr (0, o0 u_this_column)), ((x 5), .inl (T.2.2.2, 2, .inr (.inr (.inr (.inr (xim x)))))), ((x 6), .inr (0, o0 rv.2.1)), ((x 7), .inr (0, o0 rv.2.2.1)), ((x 8), .inl (T.2.2.1, 2, .inl rv.2.2.2))] (va_A [((x 0), .inr (6, o6 x u_this)), ((x 4), .inr (0, o0 u_this_column)), ((x 5), .inl (T.2.2.2, 2, .inr (.inr (.inr (.inr (xim x)))))), ((x 6), .inr (0, o0 u_this_images_0)), ((x 7), .inr (0, o0 u_this_images_1)), ((x 8), .inl (T.2.2.1, 2, .inl u_this_kept))] sz)) (va_A [((x 0), .inr (6, o6 x u_this)), ((x 4), .inr (0, o0 u_this_column)), ((x 5), .inl (T.2.2.2, 2, .inr (.inr (.inr (.inr (xim x)))))), ((x 6), .inr (0, o0 u_this_images_0)), ((x 7), .inr (0, o0 u_this_images_1)), ((x 8), .inl (T.2.2.1, 2, .inl u_this_kept))] sz)) 0 0 (va_A [((x 0), .inr (6, o6 x u_this)), ((x 4), .inr (0, o0 u_this_column)), ((x 5), .inl (T.2.2.2, 2, .inr (.inr (.inr (.inr (xim x)))))), ((x 6), .inr (0, o0 u_this_images_0)), ((x 7), .inr (0, o0 u_this_images_1)), ((x 8), .inl (T.2.2.1, 2, .inl u_this_kept))] sz) := by
  refine xMet (av := [.ref (x 0), .int p1]) (Wd := [((x 0), .inr (6, o6 x u_this)), ((x 4), .inr (0, o0 u_this_column)), ((x 5), .inl (T.2.2.2, 2, .inr (.inr (.inr (.inr (xim x)))))), ((x 6), .inr (0, o0 u_this_images_0)), ((x 7), .inr (0, o0 u_this_images_1)), ((x 8), .inl (T.2.2.1, 2, .inl u_this_kept))]) (E := xE0) (Qc := fun A => (va_Qi (fun (r : Int32) (_ : Unit) => r = rv.1) (fun _ => xPost D T [((x 0), .inr (6, o6 x u_this)), ((x 4), .inr (0, o0 u_this_column)), ((x 5), .inl (T.2.2.2, 2, .inr (.inr (.inr (.inr (xim x)))))), ((x 6), .inr (0, o0 rv.2.1)), ((x 7), .inr (0, o0 rv.2.2.1)), ((x 8), .inl (T.2.2.1, 2, .inl rv.2.2.2))] A) A)) (cc := cX6_keep) (maxL := 2) (ret := (some .int)) (by decide) rfl (Nat.le_of_ble_eq_true rfl) ?_
  intro p e s m below meth c A ls hx hb hr hml hts hown hlocks hnm hP hK hD hS hA hE hl
  have hown : s.vm.findClass RX6 = some m.cls := hown
  have hl : lv_has ls 2 [(0, .ref (x 0)), (1, .int p1)] := hl
  unfold f_X6_keep at hM
  refine lv_iload_n hx hb dX6_keep_0 rfl (lv_at hl 1 rfl) ?_
  refine lv_iconst (v := 0) hx hb dX6_keep_1 (by decide) ?_
  refine lv_iconst (v := 1) hx hb dX6_keep_2 (by decide) ?_
  refine xafti (rv := (f_X6_outside p1 (0) (1))) (W2 := [((x 0), .inr (6, o6 x u_this)), ((x 4), .inr (0, o0 u_this_column)), ((x 5), .inl (T.2.2.2, 2, .inr (.inr (.inr (.inr (xim x)))))), ((x 6), .inr (0, o0 u_this_images_0)), ((x 7), .inr (0, o0 u_this_images_1)), ((x 8), .inl (T.2.2.1, 2, .inl u_this_kept))]) (va_runS (As := [.int p1, .int (0), .int (1)]) (rest := []) ⟨hx, hb, hml, hown, hts⟩ (c_X6_outside (rv := (f_X6_outside p1 (0) (1))) l D T p1 (0) (1) rfl) (cwS 3 hts gX6_keep_X6_outside rfl rfl rfl (by decide +kernel) ⟨Nat.le_of_ble_eq_true rfl, Nat.le_of_ble_eq_true rfl⟩) (xpvs hP hD hK [] (by decide) rfl (fun _ _ _ => trivial) (fun _ _ _ _ _ _ => trivial)) rfl rfl hl.1 rfl (lv_room (Nat.le_of_ble_eq_true rfl)) dX6_keep_3 ⟨Nat.le_of_ble_eq_true rfl, Nat.le_of_ble_eq_true rfl⟩) hP hD hS hA [] rfl rfl rfl rfl (fun H locs hP hD hS => ?_)
  refine lv_if_eq (tgt := 11) hx hb dX6_keep_6 (by decide) (fun c1 => ?_) (fun c1 => ?_)
  · have hM := xit c1 hM
    refine lv_aload_n hx hb dX6_keep_11 rfl (lv_at hl 0 rfl) ?_
    refine va_get (D := D) (ci := 6) (v := .ref (x 5)) (C := RX6) (T := TX6) (N := 16) hx hb hts (fun w h => List.mem_cons_of_mem _ (List.mem_append_left _ (List.mem_append_right _ h))) hown hK hP 0 rfl rfl 3 (by decide) (hts _ (List.mem_of_getElem? (i := 1) rfl)) (fun _ h9 => h9) rfl dX6_keep_12 ?_
    refine lv_iload_n hx hb dX6_keep_15 rfl (lv_at hl 1 rfl) ?_
    by_cases c : p1 = 0
    · have hM := xit c hM
      refine xaldq (v := .ref (x 6)) hx hb hK hP 2 3 rfl rfl (by rw [c]; exact xin_vp (by decide)) (by rw [c]; rfl) dX6_keep_16 ?_
      refine lv_aload_n hx hb dX6_keep_17 rfl (lv_at hl 0 rfl) ?_
      refine va_get (D := D) (ci := 6) (v := .ref (x 4)) (C := RX6) (T := TX6) (N := 16) hx hb hts (fun w h => List.mem_cons_of_mem _ (List.mem_append_left _ (List.mem_append_right _ h))) hown hK hP 0 rfl rfl 2 (by decide) (hts _ (List.mem_of_getElem? (i := 2) rfl)) (fun _ h9 => h9) rfl dX6_keep_18 ?_
      obtain ⟨r2, er2, hM⟩ := xbd hM
      refine xaftv (W2 := [((x 0), .inr (6, o6 x u_this)), ((x 4), .inr (0, o0 u_this_column)), ((x 5), .inl (T.2.2.2, 2, .inr (.inr (.inr (.inr (xim x)))))), ((x 6), .inr (0, o0 r2)), ((x 7), .inr (0, o0 u_this_images_1)), ((x 8), .inl (T.2.2.1, 2, .inl u_this_kept))]) (va_runV (As := [.ref (x 4)]) (rest := []) ⟨hx, hb, hml, hown, hts⟩ (c_X0_beLike l D T (x 6) (x 4) u_this_images_0 u_this_column (Option.some.inj er2)) (cwV 1 hts gX6_keep_X0_beLike rfl rfl rfl (by decide +kernel) ⟨Nat.le_of_ble_eq_true rfl, Nat.le_of_ble_eq_true rfl⟩) (xpvv hP hD hK [3, 1] (by decide) rfl 0 0 rfl rfl (fun _ _ _ => trivial) (fun _ _ _ _ _ _ => trivial)) rfl rfl hl.1 rfl (lv_room (Nat.le_of_ble_eq_true rfl)) dX6_keep_21 ⟨Nat.le_of_ble_eq_true rfl, Nat.le_of_ble_eq_true rfl⟩) hP hD hS hA [3, 1] rfl rfl rfl rfl (fun H locs hP hD hS => ?_)
      refine lv_aload_n hx hb dX6_keep_24 rfl (lv_at hl 0 rfl) ?_
      refine va_get (D := D) (ci := 6) (v := .ref (x 8)) (C := RX6) (T := TX6) (N := 16) hx hb hts (fun w h => List.mem_cons_of_mem _ (List.mem_append_left _ (List.mem_append_right _ h))) hown hK hP 0 rfl rfl 4 (by decide) (hts _ (List.mem_of_getElem? (i := 3) rfl)) (fun _ h9 => h9) rfl dX6_keep_25 ?_
      refine lv_iload_n hx hb dX6_keep_28 rfl (lv_at hl 1 rfl) ?_
      refine lv_iconst (v := 1) hx hb dX6_keep_29 (by decide) ?_
      obtain ⟨g3, hM⟩ := xck hM
      refine xzst hx hb hK hP hD hS 5 2 rfl rfl g3 rfl (y := 1) (by decide) dX6_keep_30 (fun H locs hP hD hS => ?_)
      have hP : va_P D vwCl [((x 0), .inr (6, o6 x u_this)), ((x 4), .inr (0, o0 u_this_column)), ((x 5), .inl (T.2.2.2, 2, .inr (.inr (.inr (.inr (xim x)))))), ((x 6), .inr (0, o0 r2)), ((x 7), .inr (0, o0 u_this_images_1)), ((x 8), .inl (T.2.2.1, 2, .inl (upd u_this_kept p1.toNatClampNeg (1))))] H := hP
      have hD : va_D A [((x 0), .inr (6, o6 x u_this)), ((x 4), .inr (0, o0 u_this_column)), ((x 5), .inl (T.2.2.2, 2, .inr (.inr (.inr (.inr (xim x)))))), ((x 6), .inr (0, o0 r2)), ((x 7), .inr (0, o0 u_this_images_1)), ((x 8), .inl (T.2.2.1, 2, .inl (upd u_this_kept p1.toNatClampNeg (1))))] := hD
      refine lv_aload_n hx hb dX6_keep_31 rfl (lv_at hl 0 rfl) ?_
      refine va_get (D := D) (ci := 6) (v := .ref (x 4)) (C := RX6) (T := TX6) (N := 16) hx hb hts (fun w h => List.mem_cons_of_mem _ (List.mem_append_left _ (List.mem_append_right _ h))) hown hK hP 0 rfl rfl 2 (by decide) (hts _ (List.mem_of_getElem? (i := 2) rfl)) (fun _ h9 => h9) rfl dX6_keep_32 ?_
      refine va_get (D := D) (ci := 0) (v := .int u_this_column.1) (C := RX0) (T := TX0) (N := 7) hx hb hts (fun w h => List.mem_cons_of_mem _ (List.mem_append_right _ h)) hown hK hP 1 rfl rfl 0 (by decide) (hts _ (List.mem_of_getElem? (i := 4) rfl)) (fun _ h9 => h9) rfl dX6_keep_35 ?_
      obtain rfl := Option.some.inj hM
      exact xreti hx hb hr hlocks hP hK hD hS dX6_keep_38 rfl
    · have hM := xif c hM
      by_cases c : p1 = 1
      · have hM := xit c hM
        refine xaldq (v := .ref (x 7)) hx hb hK hP 2 3 rfl rfl (by rw [c]; exact xin_vp (by decide)) (by rw [c]; rfl) dX6_keep_16 ?_
        refine lv_aload_n hx hb dX6_keep_17 rfl (lv_at hl 0 rfl) ?_
        refine va_get (D := D) (ci := 6) (v := .ref (x 4)) (C := RX6) (T := TX6) (N := 16) hx hb hts (fun w h => List.mem_cons_of_mem _ (List.mem_append_left _ (List.mem_append_right _ h))) hown hK hP 0 rfl rfl 2 (by decide) (hts _ (List.mem_of_getElem? (i := 2) rfl)) (fun _ h9 => h9) rfl dX6_keep_18 ?_
        obtain ⟨r4, er4, hM⟩ := xbd hM
        refine xaftv (W2 := [((x 0), .inr (6, o6 x u_this)), ((x 4), .inr (0, o0 u_this_column)), ((x 5), .inl (T.2.2.2, 2, .inr (.inr (.inr (.inr (xim x)))))), ((x 6), .inr (0, o0 u_this_images_0)), ((x 7), .inr (0, o0 r4)), ((x 8), .inl (T.2.2.1, 2, .inl u_this_kept))]) (va_runV (As := [.ref (x 4)]) (rest := []) ⟨hx, hb, hml, hown, hts⟩ (c_X0_beLike l D T (x 7) (x 4) u_this_images_1 u_this_column (Option.some.inj er4)) (cwV 1 hts gX6_keep_X0_beLike rfl rfl rfl (by decide +kernel) ⟨Nat.le_of_ble_eq_true rfl, Nat.le_of_ble_eq_true rfl⟩) (xpvv hP hD hK [4, 1] (by decide) rfl 0 0 rfl rfl (fun _ _ _ => trivial) (fun _ _ _ _ _ _ => trivial)) rfl rfl hl.1 rfl (lv_room (Nat.le_of_ble_eq_true rfl)) dX6_keep_21 ⟨Nat.le_of_ble_eq_true rfl, Nat.le_of_ble_eq_true rfl⟩) hP hD hS hA [4, 1] rfl rfl rfl rfl (fun H locs hP hD hS => ?_)
        refine lv_aload_n hx hb dX6_keep_24 rfl (lv_at hl 0 rfl) ?_
        refine va_get (D := D) (ci := 6) (v := .ref (x 8)) (C := RX6) (T := TX6) (N := 16) hx hb hts (fun w h => List.mem_cons_of_mem _ (List.mem_append_left _ (List.mem_append_right _ h))) hown hK hP 0 rfl rfl 4 (by decide) (hts _ (List.mem_of_getElem? (i := 3) rfl)) (fun _ h9 => h9) rfl dX6_keep_25 ?_
        refine lv_iload_n hx hb dX6_keep_28 rfl (lv_at hl 1 rfl) ?_
        refine lv_iconst (v := 1) hx hb dX6_keep_29 (by decide) ?_
        obtain ⟨g5, hM⟩ := xck hM
        refine xzst hx hb hK hP hD hS 5 2 rfl rfl g5 rfl (y := 1) (by decide) dX6_keep_30 (fun H locs hP hD hS => ?_)
        have hP : va_P D vwCl [((x 0), .inr (6, o6 x u_this)), ((x 4), .inr (0, o0 u_this_column)), ((x 5), .inl (T.2.2.2, 2, .inr (.inr (.inr (.inr (xim x)))))), ((x 6), .inr (0, o0 u_this_images_0)), ((x 7), .inr (0, o0 r4)), ((x 8), .inl (T.2.2.1, 2, .inl (upd u_this_kept p1.toNatClampNeg (1))))] H := hP
        have hD : va_D A [((x 0), .inr (6, o6 x u_this)), ((x 4), .inr (0, o0 u_this_column)), ((x 5), .inl (T.2.2.2, 2, .inr (.inr (.inr (.inr (xim x)))))), ((x 6), .inr (0, o0 u_this_images_0)), ((x 7), .inr (0, o0 r4)), ((x 8), .inl (T.2.2.1, 2, .inl (upd u_this_kept p1.toNatClampNeg (1))))] := hD
        refine lv_aload_n hx hb dX6_keep_31 rfl (lv_at hl 0 rfl) ?_
        refine va_get (D := D) (ci := 6) (v := .ref (x 4)) (C := RX6) (T := TX6) (N := 16) hx hb hts (fun w h => List.mem_cons_of_mem _ (List.mem_append_left _ (List.mem_append_right _ h))) hown hK hP 0 rfl rfl 2 (by decide) (hts _ (List.mem_of_getElem? (i := 2) rfl)) (fun _ h9 => h9) rfl dX6_keep_32 ?_
        refine va_get (D := D) (ci := 0) (v := .int u_this_column.1) (C := RX0) (T := TX0) (N := 7) hx hb hts (fun w h => List.mem_cons_of_mem _ (List.mem_append_right _ h)) hown hK hP 1 rfl rfl 0 (by decide) (hts _ (List.mem_of_getElem? (i := 4) rfl)) (fun _ h9 => h9) rfl dX6_keep_35 ?_
        obtain rfl := Option.some.inj hM
        exact xreti hx hb hr hlocks hP hK hD hS dX6_keep_38 rfl
      · have hM := xif c hM
        cases hM
  · have hM := xif c1 hM
    refine lv_iconst (v := (-1)) hx hb dX6_keep_9 (by decide) ?_
    obtain rfl := Option.some.inj hM
    exact xreti hx hb hr hlocks hP hK hD hS dX6_keep_10 rfl
def f_X6_back (u_this : K6) (u_this_column : K0) (u_this_images_0 : K0) (u_this_images_1 : K0) (u_this_kept : (Nat → Int32)) (p1 : Int32) : Option (Int32 × K0) :=
  if (f_X6_outside p1 (0) (1)) = (0) then
   (if xin p1 2 = true then
    (if (u_this_kept p1.toNatClampNeg) = (0) then
      (some ((-2), u_this_column))
     else
      (if p1 = 0 then
        ((some (f_X0_beLike u_this_column u_this_images_0) : Option (K0)).bind fun r4 =>
         some (r4.1, r4))
       else if p1 = 1 then
        ((some (f_X0_beLike u_this_column u_this_images_1) : Option (K0)).bind fun r5 =>
         some (r5.1, r5))
       else none))
    else none)
  else
   (some ((-1), u_this_column))
set_option maxHeartbeats 4000000 in
set_option maxRecDepth 100000 in
theorem c_X6_back (l : Launch) (D : va_G) (T : xT) (x : Nat → Nat) {sz : Nat} (u_this : K6) (u_this_column : K0) (u_this_images_0 : K0) (u_this_images_1 : K0) (u_this_kept : (Nat → Int32)) (p1 : Int32) {rv : Int32 × K0} (hM : f_X6_back u_this u_this_column u_this_images_0 u_this_images_1 u_this_kept p1 = some rv) : Met l yX6_back wsX6_back ({ frames := 1, cells := 0, slots := 0, locals := 22 } : Room) (va_Pc [.ref (x 0), .int p1] (xPre D T [((x 0), .inr (6, o6 x u_this)), ((x 4), .inr (0, o0 u_this_column)), ((x 5), .inl (T.2.2.2, 2, .inr (.inr (.inr (.inr (xim x)))))), ((x 6), .inr (0, o0 u_this_images_0)), ((x 7), .inr (0, o0 u_this_images_1)), ((x 8), .inl (T.2.2.1, 2, .inl u_this_kept))] sz xE0)) (va_Qi (fun (r : Int32) (_ : Unit) => r = rv.1) (fun _ => xPost D T [((x 0), .inr (6, o6 x u_this)), ((x 4), .inr (0, o0 rv.2)), ((x 5), .inl (T.2.2.2, 2, .inr (.inr (.inr (.inr (xim x)))))), ((x 6), .inr (0, o0 u_this_images_0)), ((x 7), .inr (0, o0 u_this_images_1)), ((x 8), .inl (T.2.2.1, 2, .inl u_this_kept))] (va_A [((x 0), .inr (6, o6 x u_this)), ((x 4), .inr (0, o0 u_this_column)), ((x 5), .inl (T.2.2.2, 2, .inr (.inr (.inr (.inr (xim x)))))), ((x 6), .inr (0, o0 u_this_images_0)), ((x 7), .inr (0, o0 u_this_images_1)), ((x 8), .inl (T.2.2.1, 2, .inl u_this_kept))] sz)) (va_A [((x 0), .inr (6, o6 x u_this)), ((x 4), .inr (0, o0 u_this_column)), ((x 5), .inl (T.2.2.2, 2, .inr (.inr (.inr (.inr (xim x)))))), ((x 6), .inr (0, o0 u_this_images_0)), ((x 7), .inr (0, o0 u_this_images_1)), ((x 8), .inl (T.2.2.1, 2, .inl u_this_kept))] sz)) 0 0 (va_A [((x 0), .inr (6, o6 x u_this)), ((x 4), .inr (0, o0 u_this_column)), ((x 5), .inl (T.2.2.2, 2, .inr (.inr (.inr (.inr (xim x)))))), ((x 6), .inr (0, o0 u_this_images_0)), ((x 7), .inr (0, o0 u_this_images_1)), ((x 8), .inl (T.2.2.1, 2, .inl u_this_kept))] sz) := by
  refine xMet (av := [.ref (x 0), .int p1]) (Wd := [((x 0), .inr (6, o6 x u_this)), ((x 4), .inr (0, o0 u_this_column)), ((x 5), .inl (T.2.2.2, 2, .inr (.inr (.inr (.inr (xim x)))))), ((x 6), .inr (0, o0 u_this_images_0)), ((x 7), .inr (0, o0 u_this_images_1)), ((x 8), .inl (T.2.2.1, 2, .inl u_this_kept))]) (E := xE0) (Qc := fun A => (va_Qi (fun (r : Int32) (_ : Unit) => r = rv.1) (fun _ => xPost D T [((x 0), .inr (6, o6 x u_this)), ((x 4), .inr (0, o0 rv.2)), ((x 5), .inl (T.2.2.2, 2, .inr (.inr (.inr (.inr (xim x)))))), ((x 6), .inr (0, o0 u_this_images_0)), ((x 7), .inr (0, o0 u_this_images_1)), ((x 8), .inl (T.2.2.1, 2, .inl u_this_kept))] A) A)) (cc := cX6_back) (maxL := 2) (ret := (some .int)) (by decide) rfl (Nat.le_of_ble_eq_true rfl) ?_
  intro p e s m below meth c A ls hx hb hr hml hts hown hlocks hnm hP hK hD hS hA hE hl
  have hown : s.vm.findClass RX6 = some m.cls := hown
  have hl : lv_has ls 2 [(0, .ref (x 0)), (1, .int p1)] := hl
  unfold f_X6_back at hM
  refine lv_iload_n hx hb dX6_back_0 rfl (lv_at hl 1 rfl) ?_
  refine lv_iconst (v := 0) hx hb dX6_back_1 (by decide) ?_
  refine lv_iconst (v := 1) hx hb dX6_back_2 (by decide) ?_
  refine xafti (rv := (f_X6_outside p1 (0) (1))) (W2 := [((x 0), .inr (6, o6 x u_this)), ((x 4), .inr (0, o0 u_this_column)), ((x 5), .inl (T.2.2.2, 2, .inr (.inr (.inr (.inr (xim x)))))), ((x 6), .inr (0, o0 u_this_images_0)), ((x 7), .inr (0, o0 u_this_images_1)), ((x 8), .inl (T.2.2.1, 2, .inl u_this_kept))]) (va_runS (As := [.int p1, .int (0), .int (1)]) (rest := []) ⟨hx, hb, hml, hown, hts⟩ (c_X6_outside (rv := (f_X6_outside p1 (0) (1))) l D T p1 (0) (1) rfl) (cwS 3 hts gX6_back_X6_outside rfl rfl rfl (by decide +kernel) ⟨Nat.le_of_ble_eq_true rfl, Nat.le_of_ble_eq_true rfl⟩) (xpvs hP hD hK [] (by decide) rfl (fun _ _ _ => trivial) (fun _ _ _ _ _ _ => trivial)) rfl rfl hl.1 rfl (lv_room (Nat.le_of_ble_eq_true rfl)) dX6_back_3 ⟨Nat.le_of_ble_eq_true rfl, Nat.le_of_ble_eq_true rfl⟩) hP hD hS hA [] rfl rfl rfl rfl (fun H locs hP hD hS => ?_)
  refine lv_if_eq (tgt := 11) hx hb dX6_back_6 (by decide) (fun c1 => ?_) (fun c1 => ?_)
  · have hM := xit c1 hM
    refine lv_aload_n hx hb dX6_back_11 rfl (lv_at hl 0 rfl) ?_
    refine va_get (D := D) (ci := 6) (v := .ref (x 8)) (C := RX6) (T := TX6) (N := 16) hx hb hts (fun w h => List.mem_cons_of_mem _ (List.mem_append_left _ (List.mem_append_right _ h))) hown hK hP 0 rfl rfl 4 (by decide) (hts _ (List.mem_of_getElem? (i := 1) rfl)) (fun _ h9 => h9) rfl dX6_back_12 ?_
    refine lv_iload_n hx hb dX6_back_15 rfl (lv_at hl 1 rfl) ?_
    obtain ⟨g2, hM⟩ := xck hM
    refine xzld (v := (u_this_kept p1.toNatClampNeg)) hx hb hK hP 5 2 rfl rfl g2 rfl dX6_back_16 ?_
    refine lv_if_ne (tgt := 23) hx hb dX6_back_17 (by decide) (fun c3 => ?_) (fun c3 => ?_)
    · have hM := xif c3 hM
      refine lv_aload_n hx hb dX6_back_23 rfl (lv_at hl 0 rfl) ?_
      refine va_get (D := D) (ci := 6) (v := .ref (x 4)) (C := RX6) (T := TX6) (N := 16) hx hb hts (fun w h => List.mem_cons_of_mem _ (List.mem_append_left _ (List.mem_append_right _ h))) hown hK hP 0 rfl rfl 2 (by decide) (hts _ (List.mem_of_getElem? (i := 2) rfl)) (fun _ h9 => h9) rfl dX6_back_24 ?_
      refine lv_aload_n hx hb dX6_back_27 rfl (lv_at hl 0 rfl) ?_
      refine va_get (D := D) (ci := 6) (v := .ref (x 5)) (C := RX6) (T := TX6) (N := 16) hx hb hts (fun w h => List.mem_cons_of_mem _ (List.mem_append_left _ (List.mem_append_right _ h))) hown hK hP 0 rfl rfl 3 (by decide) (hts _ (List.mem_of_getElem? (i := 3) rfl)) (fun _ h9 => h9) rfl dX6_back_28 ?_
      refine lv_iload_n hx hb dX6_back_31 rfl (lv_at hl 1 rfl) ?_
      by_cases c : p1 = 0
      · have hM := xit c hM
        refine xaldq (v := .ref (x 6)) hx hb hK hP 2 3 rfl rfl (by rw [c]; exact xin_vp (by decide)) (by rw [c]; rfl) dX6_back_32 ?_
        obtain ⟨r4, er4, hM⟩ := xbd hM
        refine xaftv (W2 := [((x 0), .inr (6, o6 x u_this)), ((x 4), .inr (0, o0 r4)), ((x 5), .inl (T.2.2.2, 2, .inr (.inr (.inr (.inr (xim x)))))), ((x 6), .inr (0, o0 u_this_images_0)), ((x 7), .inr (0, o0 u_this_images_1)), ((x 8), .inl (T.2.2.1, 2, .inl u_this_kept))]) (va_runV (As := [.ref (x 6)]) (rest := []) ⟨hx, hb, hml, hown, hts⟩ (c_X0_beLike l D T (x 4) (x 6) u_this_column u_this_images_0 (Option.some.inj er4)) (cwV 1 hts gX6_back_X0_beLike rfl rfl rfl (by decide +kernel) ⟨Nat.le_of_ble_eq_true rfl, Nat.le_of_ble_eq_true rfl⟩) (xpvv hP hD hK [1, 3] (by decide) rfl 0 0 rfl rfl (fun _ _ _ => trivial) (fun _ _ _ _ _ _ => trivial)) rfl rfl hl.1 rfl (lv_room (Nat.le_of_ble_eq_true rfl)) dX6_back_33 ⟨Nat.le_of_ble_eq_true rfl, Nat.le_of_ble_eq_true rfl⟩) hP hD hS hA [1, 3] rfl rfl rfl rfl (fun H locs hP hD hS => ?_)
        refine lv_aload_n hx hb dX6_back_36 rfl (lv_at hl 0 rfl) ?_
        refine va_get (D := D) (ci := 6) (v := .ref (x 4)) (C := RX6) (T := TX6) (N := 16) hx hb hts (fun w h => List.mem_cons_of_mem _ (List.mem_append_left _ (List.mem_append_right _ h))) hown hK hP 0 rfl rfl 2 (by decide) (hts _ (List.mem_of_getElem? (i := 2) rfl)) (fun _ h9 => h9) rfl dX6_back_37 ?_
        refine va_get (D := D) (ci := 0) (v := .int r4.1) (C := RX0) (T := TX0) (N := 7) hx hb hts (fun w h => List.mem_cons_of_mem _ (List.mem_append_right _ h)) hown hK hP 1 rfl rfl 0 (by decide) (hts _ (List.mem_of_getElem? (i := 4) rfl)) (fun _ h9 => h9) rfl dX6_back_40 ?_
        obtain rfl := Option.some.inj hM
        exact xreti hx hb hr hlocks hP hK hD hS dX6_back_43 rfl
      · have hM := xif c hM
        by_cases c : p1 = 1
        · have hM := xit c hM
          refine xaldq (v := .ref (x 7)) hx hb hK hP 2 3 rfl rfl (by rw [c]; exact xin_vp (by decide)) (by rw [c]; rfl) dX6_back_32 ?_
          obtain ⟨r5, er5, hM⟩ := xbd hM
          refine xaftv (W2 := [((x 0), .inr (6, o6 x u_this)), ((x 4), .inr (0, o0 r5)), ((x 5), .inl (T.2.2.2, 2, .inr (.inr (.inr (.inr (xim x)))))), ((x 6), .inr (0, o0 u_this_images_0)), ((x 7), .inr (0, o0 u_this_images_1)), ((x 8), .inl (T.2.2.1, 2, .inl u_this_kept))]) (va_runV (As := [.ref (x 7)]) (rest := []) ⟨hx, hb, hml, hown, hts⟩ (c_X0_beLike l D T (x 4) (x 7) u_this_column u_this_images_1 (Option.some.inj er5)) (cwV 1 hts gX6_back_X0_beLike rfl rfl rfl (by decide +kernel) ⟨Nat.le_of_ble_eq_true rfl, Nat.le_of_ble_eq_true rfl⟩) (xpvv hP hD hK [1, 4] (by decide) rfl 0 0 rfl rfl (fun _ _ _ => trivial) (fun _ _ _ _ _ _ => trivial)) rfl rfl hl.1 rfl (lv_room (Nat.le_of_ble_eq_true rfl)) dX6_back_33 ⟨Nat.le_of_ble_eq_true rfl, Nat.le_of_ble_eq_true rfl⟩) hP hD hS hA [1, 4] rfl rfl rfl rfl (fun H locs hP hD hS => ?_)
          refine lv_aload_n hx hb dX6_back_36 rfl (lv_at hl 0 rfl) ?_
          refine va_get (D := D) (ci := 6) (v := .ref (x 4)) (C := RX6) (T := TX6) (N := 16) hx hb hts (fun w h => List.mem_cons_of_mem _ (List.mem_append_left _ (List.mem_append_right _ h))) hown hK hP 0 rfl rfl 2 (by decide) (hts _ (List.mem_of_getElem? (i := 2) rfl)) (fun _ h9 => h9) rfl dX6_back_37 ?_
          refine va_get (D := D) (ci := 0) (v := .int r5.1) (C := RX0) (T := TX0) (N := 7) hx hb hts (fun w h => List.mem_cons_of_mem _ (List.mem_append_right _ h)) hown hK hP 1 rfl rfl 0 (by decide) (hts _ (List.mem_of_getElem? (i := 4) rfl)) (fun _ h9 => h9) rfl dX6_back_40 ?_
          obtain rfl := Option.some.inj hM
          exact xreti hx hb hr hlocks hP hK hD hS dX6_back_43 rfl
        · have hM := xif c hM
          cases hM
    · have hM := xit c3 hM
      refine lv_bipush (v := (-2)) hx hb dX6_back_20 (by decide) ?_
      obtain rfl := Option.some.inj hM
      exact xreti hx hb hr hlocks hP hK hD hS dX6_back_22 rfl
  · have hM := xif c1 hM
    refine lv_iconst (v := (-1)) hx hb dX6_back_9 (by decide) ?_
    obtain rfl := Option.some.inj hM
    exact xreti hx hb hr hlocks hP hK hD hS dX6_back_10 rfl
def f_X6_count (u_this : K6) (u_this_text : K3) (u_this_signs : K2) (u_this_sandTried : K1) (u_this_years : K5) (p1 : Int32) : Int32 :=
  if p1 = 0 then
   (u_this_signs)
  else if p1 = 1 then
   (u_this_sandTried)
  else if p1 = 2 then
   (u_this_years)
  else if p1 = 3 then
   (u_this_text.1)
  else 
   ((-1))
set_option maxHeartbeats 4000000 in
set_option maxRecDepth 100000 in
theorem c_X6_count (l : Launch) (D : va_G) (T : xT) (x : Nat → Nat) {sz : Nat} (u_this : K6) (u_this_text : K3) (u_this_signs : K2) (u_this_sandTried : K1) (u_this_years : K5) (p1 : Int32) {rv : Int32} (hM : f_X6_count u_this u_this_text u_this_signs u_this_sandTried u_this_years p1 = rv) : Met l yX6_count wsX6_count ({ frames := 0, cells := 0, slots := 0, locals := 0 } : Room) (va_Pc [.ref (x 0), .int p1] (xPre D T [((x 0), .inr (6, o6 x u_this)), ((x 1), .inr (3, o3 (x 2) u_this_text)), ((x 9), .inr (2, o2 (x 10) (x 11) (x 12) u_this_signs)), ((x 15), .inr (1, o1 (x 16) (x 17) u_this_sandTried)), ((x 18), .inr (5, o5 (x 19) (x 20) u_this_years))] sz xE0)) (va_Qi (fun (r : Int32) (_ : Unit) => r = rv) (fun _ => xPost D T [((x 0), .inr (6, o6 x u_this)), ((x 1), .inr (3, o3 (x 2) u_this_text)), ((x 9), .inr (2, o2 (x 10) (x 11) (x 12) u_this_signs)), ((x 15), .inr (1, o1 (x 16) (x 17) u_this_sandTried)), ((x 18), .inr (5, o5 (x 19) (x 20) u_this_years))] (va_A [((x 0), .inr (6, o6 x u_this)), ((x 1), .inr (3, o3 (x 2) u_this_text)), ((x 9), .inr (2, o2 (x 10) (x 11) (x 12) u_this_signs)), ((x 15), .inr (1, o1 (x 16) (x 17) u_this_sandTried)), ((x 18), .inr (5, o5 (x 19) (x 20) u_this_years))] sz)) (va_A [((x 0), .inr (6, o6 x u_this)), ((x 1), .inr (3, o3 (x 2) u_this_text)), ((x 9), .inr (2, o2 (x 10) (x 11) (x 12) u_this_signs)), ((x 15), .inr (1, o1 (x 16) (x 17) u_this_sandTried)), ((x 18), .inr (5, o5 (x 19) (x 20) u_this_years))] sz)) 0 0 (va_A [((x 0), .inr (6, o6 x u_this)), ((x 1), .inr (3, o3 (x 2) u_this_text)), ((x 9), .inr (2, o2 (x 10) (x 11) (x 12) u_this_signs)), ((x 15), .inr (1, o1 (x 16) (x 17) u_this_sandTried)), ((x 18), .inr (5, o5 (x 19) (x 20) u_this_years))] sz) := by
  refine xMet (av := [.ref (x 0), .int p1]) (Wd := [((x 0), .inr (6, o6 x u_this)), ((x 1), .inr (3, o3 (x 2) u_this_text)), ((x 9), .inr (2, o2 (x 10) (x 11) (x 12) u_this_signs)), ((x 15), .inr (1, o1 (x 16) (x 17) u_this_sandTried)), ((x 18), .inr (5, o5 (x 19) (x 20) u_this_years))]) (E := xE0) (Qc := fun A => (va_Qi (fun (r : Int32) (_ : Unit) => r = rv) (fun _ => xPost D T [((x 0), .inr (6, o6 x u_this)), ((x 1), .inr (3, o3 (x 2) u_this_text)), ((x 9), .inr (2, o2 (x 10) (x 11) (x 12) u_this_signs)), ((x 15), .inr (1, o1 (x 16) (x 17) u_this_sandTried)), ((x 18), .inr (5, o5 (x 19) (x 20) u_this_years))] A) A)) (cc := cX6_count) (maxL := 2) (ret := (some .int)) (by decide) rfl (Nat.le_of_ble_eq_true rfl) ?_
  intro p e s m below meth c A ls hx hb hr hml hts hown hlocks hnm hP hK hD hS hA hE hl
  have hown : s.vm.findClass RX6 = some m.cls := hown
  have hl : lv_has ls 2 [(0, .ref (x 0)), (1, .int p1)] := hl
  unfold f_X6_count at hM
  refine lv_iload_n hx hb dX6_count_0 rfl (lv_at hl 1 rfl) ?_
  by_cases c1 : p1 = 0
  · have hM := xit c1 hM
    refine lv_tableIn (off := 31) (tgt := 32) hx hb dX6_count_1 (by rw [c1]; decide) (by rw [c1]; decide) (by rw [c1]; rfl) (by decide) ?_
    refine lv_aload_n hx hb dX6_count_32 rfl (lv_at hl 0 rfl) ?_
    refine va_get (D := D) (ci := 6) (v := .ref (x 9)) (C := RX6) (T := TX6) (N := 16) hx hb hts (fun w h => List.mem_cons_of_mem _ (List.mem_append_left _ (List.mem_append_left _ (List.mem_append_left _ (List.mem_append_left _ (List.mem_append_right _ h)))))) hown hK hP 0 rfl rfl 5 (by decide) (hts _ (List.mem_of_getElem? (i := 1) rfl)) (fun _ h9 => h9) rfl dX6_count_33 ?_
    refine va_get (D := D) (ci := 2) (v := .int u_this_signs) (C := RX2) (T := TX2) (N := 4) hx hb hts (fun w h => List.mem_cons_of_mem _ (List.mem_append_left _ (List.mem_append_left _ (List.mem_append_left _ (List.mem_append_right _ h))))) hown hK hP 2 rfl rfl 3 (by decide) (hts _ (List.mem_of_getElem? (i := 2) rfl)) (fun _ h9 => h9) rfl dX6_count_36 ?_
    obtain rfl := hM
    exact xreti hx hb hr hlocks hP hK hD hS dX6_count_39 rfl
  · have hM := xif c1 hM
    by_cases c2 : p1 = 1
    · have hM := xit c2 hM
      refine lv_tableIn (off := 39) (tgt := 40) hx hb dX6_count_1 (by rw [c2]; decide) (by rw [c2]; decide) (by rw [c2]; rfl) (by decide) ?_
      refine lv_aload_n hx hb dX6_count_40 rfl (lv_at hl 0 rfl) ?_
      refine va_get (D := D) (ci := 6) (v := .ref (x 15)) (C := RX6) (T := TX6) (N := 16) hx hb hts (fun w h => List.mem_cons_of_mem _ (List.mem_append_left _ (List.mem_append_left _ (List.mem_append_left _ (List.mem_append_left _ (List.mem_append_right _ h)))))) hown hK hP 0 rfl rfl 8 (by decide) (hts _ (List.mem_of_getElem? (i := 3) rfl)) (fun _ h9 => h9) rfl dX6_count_41 ?_
      refine va_get (D := D) (ci := 1) (v := .int u_this_sandTried) (C := RX1) (T := TX1) (N := 3) hx hb hts (fun w h => List.mem_cons_of_mem _ (List.mem_append_left _ (List.mem_append_left _ (List.mem_append_right _ h)))) hown hK hP 3 rfl rfl 2 (by decide) (hts _ (List.mem_of_getElem? (i := 4) rfl)) (fun _ h9 => h9) rfl dX6_count_44 ?_
      obtain rfl := hM
      exact xreti hx hb hr hlocks hP hK hD hS dX6_count_47 rfl
    · have hM := xif c2 hM
      by_cases c3 : p1 = 2
      · have hM := xit c3 hM
        refine lv_tableIn (off := 47) (tgt := 48) hx hb dX6_count_1 (by rw [c3]; decide) (by rw [c3]; decide) (by rw [c3]; rfl) (by decide) ?_
        refine lv_aload_n hx hb dX6_count_48 rfl (lv_at hl 0 rfl) ?_
        refine va_get (D := D) (ci := 6) (v := .ref (x 18)) (C := RX6) (T := TX6) (N := 16) hx hb hts (fun w h => List.mem_cons_of_mem _ (List.mem_append_left _ (List.mem_append_left _ (List.mem_append_left _ (List.mem_append_left _ (List.mem_append_right _ h)))))) hown hK hP 0 rfl rfl 9 (by decide) (hts _ (List.mem_of_getElem? (i := 5) rfl)) (fun _ h9 => h9) rfl dX6_count_49 ?_
        refine va_get (D := D) (ci := 5) (v := .int u_this_years) (C := RX5) (T := TX5) (N := 3) hx hb hts (fun w h => List.mem_cons_of_mem _ (List.mem_append_left _ (List.mem_append_right _ h))) hown hK hP 4 rfl rfl 2 (by decide) (hts _ (List.mem_of_getElem? (i := 6) rfl)) (fun _ h9 => h9) rfl dX6_count_52 ?_
        obtain rfl := hM
        exact xreti hx hb hr hlocks hP hK hD hS dX6_count_55 rfl
      · have hM := xif c3 hM
        by_cases c4 : p1 = 3
        · have hM := xit c4 hM
          refine lv_tableIn (off := 55) (tgt := 56) hx hb dX6_count_1 (by rw [c4]; decide) (by rw [c4]; decide) (by rw [c4]; rfl) (by decide) ?_
          refine lv_aload_n hx hb dX6_count_56 rfl (lv_at hl 0 rfl) ?_
          refine va_get (D := D) (ci := 6) (v := .ref (x 1)) (C := RX6) (T := TX6) (N := 16) hx hb hts (fun w h => List.mem_cons_of_mem _ (List.mem_append_left _ (List.mem_append_left _ (List.mem_append_left _ (List.mem_append_left _ (List.mem_append_right _ h)))))) hown hK hP 0 rfl rfl 0 (by decide) (hts _ (List.mem_of_getElem? (i := 7) rfl)) (fun _ h9 => h9) rfl dX6_count_57 ?_
          refine va_get (D := D) (ci := 3) (v := .int u_this_text.1) (C := RX3) (T := TX3) (N := 7) hx hb hts (fun w h => List.mem_cons_of_mem _ (List.mem_append_right _ h)) hown hK hP 1 rfl rfl 1 (by decide) (hts _ (List.mem_of_getElem? (i := 8) rfl)) (fun _ h9 => h9) rfl dX6_count_60 ?_
          obtain rfl := hM
          exact xreti hx hb hr hlocks hP hK hD hS dX6_count_63 rfl
        · have hM := xif c4 hM
          refine lv_tableOut (tgt := 64) hx hb dX6_count_1 (by have q0 := xsw c1 (show (0 : Int32).toInt = 0 by decide); have q1 := xsw c2 (show (1 : Int32).toInt = 1 by decide); have q2 := xsw c3 (show (2 : Int32).toInt = 2 by decide); have q3 := xsw c4 (show (3 : Int32).toInt = 3 by decide); omega) (by decide) ?_
          refine lv_iconst (v := (-1)) hx hb dX6_count_64 (by decide) ?_
          obtain rfl := hM
          exact xreti hx hb hr hlocks hP hK hD hS dX6_count_65 rfl
def f_X6_trace (u_this : K6) : Int64 :=
  u_this
set_option maxHeartbeats 4000000 in
set_option maxRecDepth 100000 in
theorem c_X6_trace (l : Launch) (D : va_G) (T : xT) (x : Nat → Nat) {sz : Nat} (u_this : K6) {rv : Int64} (hM : f_X6_trace u_this = rv) : Met l yX6_trace wsX6_trace ({ frames := 0, cells := 0, slots := 0, locals := 0 } : Room) (va_Pc [.ref (x 0)] (xPre D T [((x 0), .inr (6, o6 x u_this))] sz xE0)) (va_Ql (fun (r : Int64) (_ : Unit) => r = rv) (fun _ => xPost D T [((x 0), .inr (6, o6 x u_this))] (va_A [((x 0), .inr (6, o6 x u_this))] sz)) (va_A [((x 0), .inr (6, o6 x u_this))] sz)) 0 0 (va_A [((x 0), .inr (6, o6 x u_this))] sz) := by
  refine xMet (av := [.ref (x 0)]) (Wd := [((x 0), .inr (6, o6 x u_this))]) (E := xE0) (Qc := fun A => (va_Ql (fun (r : Int64) (_ : Unit) => r = rv) (fun _ => xPost D T [((x 0), .inr (6, o6 x u_this))] A) A)) (cc := cX6_trace) (maxL := 1) (ret := (some .long)) (by decide) rfl (Nat.le_of_ble_eq_true rfl) ?_
  intro p e s m below meth c A ls hx hb hr hml hts hown hlocks hnm hP hK hD hS hA hE hl
  have hown : s.vm.findClass RX6 = some m.cls := hown
  have hl : lv_has ls 1 [(0, .ref (x 0))] := hl
  unfold f_X6_trace at hM
  refine lv_aload_n hx hb dX6_trace_0 rfl (lv_at hl 0 rfl) ?_
  refine va_get (D := D) (ci := 6) (v := .long u_this) (C := RX6) (T := TX6) (N := 16) hx hb hts (fun w h => List.mem_cons_of_mem _ (List.mem_append_right _ h)) hown hK hP 0 rfl rfl 10 (by decide) (hts _ (List.mem_of_getElem? (i := 1) rfl)) (fun _ h9 => h9) rfl dX6_trace_1 ?_
  obtain rfl := hM
  exact xretl hx hb hr hlocks hP hK hD hS dX6_trace_4 rfl
