/-! laid by wip/whole/gen.py out of the decode rows: functional readings and contracts -/
def f_X7_air (u_this : K7) (u_this_par : (Nat → Int32)) (u_this_try0 : (Nat → Int32)) : Option (Int32) :=
  (f_X7_depth u_this u_this_par u_this_try0).bind fun r1 =>
  if r1 ≤ ((10) * (u_this_par 6)) then
   (some (0))
  else
   (some (u_this_par 7))
set_option maxHeartbeats 4000000 in
set_option maxRecDepth 100000 in
theorem c_X7_air (l : Launch) (D : va_G) (T : xT) (x : Nat → Nat) {sz : Nat} (u_this : K7) (u_this_par : (Nat → Int32)) (u_this_try0 : (Nat → Int32)) {rv : Int32} (hM : f_X7_air u_this u_this_par u_this_try0 = some rv) : Met l yX7_air wsX7_air ({ frames := 1, cells := 0, slots := 0, locals := 20 } : Room) (va_Pc [.ref (x 0)] (xPre D T [((x 0), .inr (7, o7 x u_this)), ((x 3), .inl (T.1, 11, .inl u_this_par)), ((x 4), .inl (T.1, 7, .inl u_this_try0))] sz xE0)) (va_Qi (fun (r : Int32) (_ : Unit) => r = rv) (fun _ => xPost D T [((x 0), .inr (7, o7 x u_this)), ((x 3), .inl (T.1, 11, .inl u_this_par)), ((x 4), .inl (T.1, 7, .inl u_this_try0))] (va_A [((x 0), .inr (7, o7 x u_this)), ((x 3), .inl (T.1, 11, .inl u_this_par)), ((x 4), .inl (T.1, 7, .inl u_this_try0))] sz)) (va_A [((x 0), .inr (7, o7 x u_this)), ((x 3), .inl (T.1, 11, .inl u_this_par)), ((x 4), .inl (T.1, 7, .inl u_this_try0))] sz)) 0 0 (va_A [((x 0), .inr (7, o7 x u_this)), ((x 3), .inl (T.1, 11, .inl u_this_par)), ((x 4), .inl (T.1, 7, .inl u_this_try0))] sz) := by
  refine xMet (av := [.ref (x 0)]) (Wd := [((x 0), .inr (7, o7 x u_this)), ((x 3), .inl (T.1, 11, .inl u_this_par)), ((x 4), .inl (T.1, 7, .inl u_this_try0))]) (E := xE0) (Qc := fun A => (va_Qi (fun (r : Int32) (_ : Unit) => r = rv) (fun _ => xPost D T [((x 0), .inr (7, o7 x u_this)), ((x 3), .inl (T.1, 11, .inl u_this_par)), ((x 4), .inl (T.1, 7, .inl u_this_try0))] A) A)) (cc := cX7_air) (maxL := 1) (ret := (some .int)) (by decide) rfl (Nat.le_of_ble_eq_true rfl) ?_
  intro p e s m below meth c A ls hx hb hr hml hts hown hlocks hnm hP hK hD hS hA hE hl
  have hown : s.vm.findClass RX7 = some m.cls := hown
  have hl : lv_has ls 1 [(0, .ref (x 0))] := hl
  unfold f_X7_air at hM
  refine lv_bipush (v := 10) hx hb dX7_air_0 (by decide) ?_
  refine lv_aload_n hx hb dX7_air_2 rfl (lv_at hl 0 rfl) ?_
  refine va_get (D := D) (ci := 7) (v := .ref (x 3)) (C := RX7) (T := TX7) (N := 30) hx hb hts (fun w h => List.mem_cons_of_mem _ (List.mem_append_right _ h)) hown hK hP 0 rfl rfl 9 (by decide) (hts _ (List.mem_of_getElem? (i := 1) rfl)) (fun _ h9 => h9) rfl dX7_air_3 ?_
  refine lv_bipush (v := 6) hx hb dX7_air_6 (by decide) ?_
  refine xald (v := (u_this_par 6)) hx hb hK hP 1 0 rfl rfl (xin_vp (by decide)) (congrArg _ (show (6 : Int32).toNatClampNeg = 6 by decide)) dX7_air_8 ?_
  refine lv_imul hx hb dX7_air_9 ?_
  refine lv_aload_n hx hb dX7_air_10 rfl (lv_at hl 0 rfl) ?_
  obtain ⟨r1, er1, hM⟩ := xbd hM
  refine xafti (rv := r1) (W2 := [((x 0), .inr (7, o7 x u_this)), ((x 3), .inl (T.1, 11, .inl u_this_par)), ((x 4), .inl (T.1, 7, .inl u_this_try0))]) (va_runV (As := []) (rest := [.int ((10) * (u_this_par 6))]) ⟨hx, hb, hml, hown, hts⟩ (c_X7_depth l D T x u_this u_this_par u_this_try0 er1) (cwV 0 hts gX7_air_X7_depth rfl rfl rfl (by decide +kernel) ⟨Nat.le_of_ble_eq_true rfl, Nat.le_of_ble_eq_true rfl⟩) (xpvv hP hD hK [0, 1, 2] (by decide) rfl 0 7 rfl rfl (fun _ _ _ => trivial) (fun _ _ _ _ _ _ => trivial)) rfl rfl hl.1 rfl (lv_room (Nat.le_of_ble_eq_true rfl)) dX7_air_11 ⟨Nat.le_of_ble_eq_true rfl, Nat.le_of_ble_eq_true rfl⟩) hP hD hS hA [0, 1, 2] rfl rfl rfl rfl (fun H locs hP hD hS => ?_)
  refine lv_icmp_ge (tgt := 27) hx hb dX7_air_14 (by decide) (fun c2 => ?_) (fun c2 => ?_)
  · have hM := xit c2 hM
    refine lv_iconst (v := 0) hx hb dX7_air_27 (by decide) ?_
    obtain rfl := Option.some.inj hM
    exact xreti hx hb hr hlocks hP hK hD hS dX7_air_28 rfl
  · have hM := xif c2 hM
    refine lv_aload_n hx hb dX7_air_17 rfl (lv_at hl 0 rfl) ?_
    refine va_get (D := D) (ci := 7) (v := .ref (x 3)) (C := RX7) (T := TX7) (N := 30) hx hb hts (fun w h => List.mem_cons_of_mem _ (List.mem_append_right _ h)) hown hK hP 0 rfl rfl 9 (by decide) (hts _ (List.mem_of_getElem? (i := 1) rfl)) (fun _ h9 => h9) rfl dX7_air_18 ?_
    refine lv_bipush (v := 7) hx hb dX7_air_21 (by decide) ?_
    refine xald (v := (u_this_par 7)) hx hb hK hP 1 0 rfl rfl (xin_vp (by decide)) (congrArg _ (show (7 : Int32).toNatClampNeg = 7 by decide)) dX7_air_23 ?_
    refine lv_goto (tgt := 28) hx hb dX7_air_24 (by decide) ?_
    obtain rfl := Option.some.inj hM
    exact xreti hx hb hr hlocks hP hK hD hS dX7_air_28 rfl
def f_X7_gain (u_this : K7) (u_this_par : (Nat → Int32)) (u_this_try0 : (Nat → Int32)) : Option (Int32) :=
  (f_X7_air u_this u_this_par u_this_try0).bind fun r1 =>
  if ((((u_this_par 1) * (u_this_try0 1)) / (100)) - r1) < (0) then
   (some (0))
  else
   ((f_X7_depth u_this u_this_par u_this_try0).bind fun r3 =>
    if r3 ≤ ((10) * (u_this_par 0)) then
     (some ((((u_this_par 1) * (u_this_try0 1)) / (100)) - r1))
    else
     (some (0)))
set_option maxHeartbeats 4000000 in
set_option maxRecDepth 100000 in
theorem c_X7_gain (l : Launch) (D : va_G) (T : xT) (x : Nat → Nat) {sz : Nat} (u_this : K7) (u_this_par : (Nat → Int32)) (u_this_try0 : (Nat → Int32)) {rv : Int32} (hM : f_X7_gain u_this u_this_par u_this_try0 = some rv) : Met l yX7_gain wsX7_gain ({ frames := 2, cells := 0, slots := 0, locals := 40 } : Room) (va_Pc [.ref (x 0)] (xPre D T [((x 0), .inr (7, o7 x u_this)), ((x 3), .inl (T.1, 11, .inl u_this_par)), ((x 4), .inl (T.1, 7, .inl u_this_try0))] sz xE0)) (va_Qi (fun (r : Int32) (_ : Unit) => r = rv) (fun _ => xPost D T [((x 0), .inr (7, o7 x u_this)), ((x 3), .inl (T.1, 11, .inl u_this_par)), ((x 4), .inl (T.1, 7, .inl u_this_try0))] (va_A [((x 0), .inr (7, o7 x u_this)), ((x 3), .inl (T.1, 11, .inl u_this_par)), ((x 4), .inl (T.1, 7, .inl u_this_try0))] sz)) (va_A [((x 0), .inr (7, o7 x u_this)), ((x 3), .inl (T.1, 11, .inl u_this_par)), ((x 4), .inl (T.1, 7, .inl u_this_try0))] sz)) 0 0 (va_A [((x 0), .inr (7, o7 x u_this)), ((x 3), .inl (T.1, 11, .inl u_this_par)), ((x 4), .inl (T.1, 7, .inl u_this_try0))] sz) := by
  refine xMet (av := [.ref (x 0)]) (Wd := [((x 0), .inr (7, o7 x u_this)), ((x 3), .inl (T.1, 11, .inl u_this_par)), ((x 4), .inl (T.1, 7, .inl u_this_try0))]) (E := xE0) (Qc := fun A => (va_Qi (fun (r : Int32) (_ : Unit) => r = rv) (fun _ => xPost D T [((x 0), .inr (7, o7 x u_this)), ((x 3), .inl (T.1, 11, .inl u_this_par)), ((x 4), .inl (T.1, 7, .inl u_this_try0))] A) A)) (cc := cX7_gain) (maxL := 2) (ret := (some .int)) (by decide) rfl (Nat.le_of_ble_eq_true rfl) ?_
  intro p e s m below meth c A ls hx hb hr hml hts hown hlocks hnm hP hK hD hS hA hE hl
  have hown : s.vm.findClass RX7 = some m.cls := hown
  have hl : lv_has ls 2 [(0, .ref (x 0))] := hl
  unfold f_X7_gain at hM
  refine lv_aload_n hx hb dX7_gain_0 rfl (lv_at hl 0 rfl) ?_
  refine va_get (D := D) (ci := 7) (v := .ref (x 3)) (C := RX7) (T := TX7) (N := 30) hx hb hts (fun w h => List.mem_cons_of_mem _ (List.mem_append_right _ h)) hown hK hP 0 rfl rfl 9 (by decide) (hts _ (List.mem_of_getElem? (i := 1) rfl)) (fun _ h9 => h9) rfl dX7_gain_1 ?_
  refine lv_iconst (v := 1) hx hb dX7_gain_4 (by decide) ?_
  refine xald (v := (u_this_par 1)) hx hb hK hP 1 0 rfl rfl (xin_vp (by decide)) (congrArg _ (show (1 : Int32).toNatClampNeg = 1 by decide)) dX7_gain_5 ?_
  refine lv_aload_n hx hb dX7_gain_6 rfl (lv_at hl 0 rfl) ?_
  refine va_get (D := D) (ci := 7) (v := .ref (x 4)) (C := RX7) (T := TX7) (N := 30) hx hb hts (fun w h => List.mem_cons_of_mem _ (List.mem_append_right _ h)) hown hK hP 0 rfl rfl 10 (by decide) (hts _ (List.mem_of_getElem? (i := 2) rfl)) (fun _ h9 => h9) rfl dX7_gain_7 ?_
  refine lv_iconst (v := 1) hx hb dX7_gain_10 (by decide) ?_
  refine xald (v := (u_this_try0 1)) hx hb hK hP 2 0 rfl rfl (xin_vp (by decide)) (congrArg _ (show (1 : Int32).toNatClampNeg = 1 by decide)) dX7_gain_11 ?_
  refine lv_imul hx hb dX7_gain_12 ?_
  refine lv_bipush (v := 100) hx hb dX7_gain_13 (by decide) ?_
  refine lv_idiv hx hb dX7_gain_15 (by decide) ?_
  refine lv_aload_n hx hb dX7_gain_16 rfl (lv_at hl 0 rfl) ?_
  obtain ⟨r1, er1, hM⟩ := xbd hM
  refine xafti (rv := r1) (W2 := [((x 0), .inr (7, o7 x u_this)), ((x 3), .inl (T.1, 11, .inl u_this_par)), ((x 4), .inl (T.1, 7, .inl u_this_try0))]) (va_runV (As := []) (rest := [.int (((u_this_par 1) * (u_this_try0 1)) / (100))]) ⟨hx, hb, hml, hown, hts⟩ (c_X7_air l D T x u_this u_this_par u_this_try0 er1) (cwV 0 hts gX7_gain_X7_air rfl rfl rfl (by decide +kernel) ⟨Nat.le_of_ble_eq_true rfl, Nat.le_of_ble_eq_true rfl⟩) (xpvv hP hD hK [0, 1, 2] (by decide) rfl 0 7 rfl rfl (fun _ _ _ => trivial) (fun _ _ _ _ _ _ => trivial)) rfl rfl hl.1 rfl (lv_room (Nat.le_of_ble_eq_true rfl)) dX7_gain_17 ⟨Nat.le_of_ble_eq_true rfl, Nat.le_of_ble_eq_true rfl⟩) hP hD hS hA [0, 1, 2] rfl rfl rfl rfl (fun H locs hP hD hS => ?_)
  refine lv_isub hx hb dX7_gain_20 ?_
  refine lv_istore_n (lv' := [(1, .int ((((u_this_par 1) * (u_this_try0 1)) / (100)) - r1)), (0, .ref (x 0))]) hx hb dX7_gain_21 rfl hl (by decide) rfl (fun ls hl => ?_)
  refine lv_iload_n hx hb dX7_gain_22 rfl (lv_at hl 0 rfl) ?_
  refine lv_if_lt (tgt := 42) hx hb dX7_gain_23 (by decide) (fun c2 => ?_) (fun c2 => ?_)
  · have hM := xit c2 hM
    refine lv_iconst (v := 0) hx hb dX7_gain_42 (by decide) ?_
    refine lv_goto (tgt := 47) hx hb dX7_gain_43 (by decide) ?_
    obtain rfl := Option.some.inj hM
    exact xreti hx hb hr hlocks hP hK hD hS dX7_gain_47 rfl
  · have hM := xif c2 hM
    refine lv_aload_n hx hb dX7_gain_26 rfl (lv_at hl 1 rfl) ?_
    obtain ⟨r3, er3, hM⟩ := xbd hM
    refine xafti (rv := r3) (W2 := [((x 0), .inr (7, o7 x u_this)), ((x 3), .inl (T.1, 11, .inl u_this_par)), ((x 4), .inl (T.1, 7, .inl u_this_try0))]) (va_runV (As := []) (rest := []) ⟨hx, hb, hml, hown, hts⟩ (c_X7_depth l D T x u_this u_this_par u_this_try0 er3) (cwV 0 hts gX7_gain_X7_depth rfl rfl rfl (by decide +kernel) ⟨Nat.le_of_ble_eq_true rfl, Nat.le_of_ble_eq_true rfl⟩) (xpvv hP hD hK [0, 1, 2] (by decide) rfl 0 7 rfl rfl (fun _ _ _ => trivial) (fun _ _ _ _ _ _ => trivial)) rfl rfl hl.1 rfl (lv_room (Nat.le_of_ble_eq_true rfl)) dX7_gain_27 ⟨Nat.le_of_ble_eq_true rfl, Nat.le_of_ble_eq_true rfl⟩) hP hD hS hA [0, 1, 2] rfl rfl rfl rfl (fun H locs hP hD hS => ?_)
    refine lv_bipush (v := 10) hx hb dX7_gain_30 (by decide) ?_
    refine lv_aload_n hx hb dX7_gain_32 rfl (lv_at hl 1 rfl) ?_
    refine va_get (D := D) (ci := 7) (v := .ref (x 3)) (C := RX7) (T := TX7) (N := 30) hx hb hts (fun w h => List.mem_cons_of_mem _ (List.mem_append_right _ h)) hown hK hP 0 rfl rfl 9 (by decide) (hts _ (List.mem_of_getElem? (i := 1) rfl)) (fun _ h9 => h9) rfl dX7_gain_33 ?_
    refine lv_iconst (v := 0) hx hb dX7_gain_36 (by decide) ?_
    refine xald (v := (u_this_par 0)) hx hb hK hP 1 0 rfl rfl (xin_vp (by decide)) (congrArg _ (show (0 : Int32).toNatClampNeg = 0 by decide)) dX7_gain_37 ?_
    refine lv_imul hx hb dX7_gain_38 ?_
    refine lv_icmp_le (tgt := 46) hx hb dX7_gain_39 (by decide) (fun c4 => ?_) (fun c4 => ?_)
    · have hM := xit c4 hM
      refine lv_iload_n hx hb dX7_gain_46 rfl (lv_at hl 0 rfl) ?_
      obtain rfl := Option.some.inj hM
      exact xreti hx hb hr hlocks hP hK hD hS dX7_gain_47 rfl
    · have hM := xif c4 hM
      refine lv_iconst (v := 0) hx hb dX7_gain_42 (by decide) ?_
      refine lv_goto (tgt := 47) hx hb dX7_gain_43 (by decide) ?_
      obtain rfl := Option.some.inj hM
      exact xreti hx hb hr hlocks hP hK hD hS dX7_gain_47 rfl
def f_X7_stroke (u_this : K7) (u_this_par : (Nat → Int32)) (u_this_try0 : (Nat → Int32)) : Option (Int32 × (Nat → Int32)) :=
  (f_X7_gain u_this u_this_par u_this_try0).bind fun r1 =>
  (f_X7_depth u_this u_this_par u_this_try0).bind fun r2 =>
  ((if (r2 - (f_X7_lift u_this u_this_par)) ≤ (0) then
     (some ((u_this_try0 0) - r1))
    else
     (((if (r2 - (f_X7_lift u_this u_this_par)) ≤ (u_this_try0 0) then
         (if (r2 - (f_X7_lift u_this u_this_par)) ≤ ((u_this_try0 0) - r1) then
           (some ((u_this_try0 0) - r1))
          else
           (some (r2 - (f_X7_lift u_this u_this_par))))
        else
         (some (u_this_try0 0)) : Option (Int32))).bind fun v6 =>
      some v6) : Option (Int32))).bind fun v7 =>
  ((if (0) ≤ v7 then
     (some (0))
    else
     (some (-v7)) : Option (Int32))).bind fun v9 =>
  ((if r1 ≤ (0) then
     (some (0))
    else
     (some ((r2 - (u_this_try0 0)) / (10))) : Option (Int32))).bind fun v11 =>
  ((if (0) ≤ v7 then
     (some v7)
    else
     (some (0)) : Option (Int32))).bind fun v13 =>
  ((if v9 ≤ (0) then
     (some ((upd (upd (upd (upd u_this_try0 (6) v11) (0) v13) (2) (((upd (upd u_this_try0 (6) v11) (0) v13) 2) + v9)) (3) (((upd (upd (upd u_this_try0 (6) v11) (0) v13) (2) (((upd (upd u_this_try0 (6) v11) (0) v13) 2) + v9)) 3) + v9)) 1))
    else
     (some (100)) : Option (Int32))).bind fun v15 =>
  some (v9, (upd (upd (upd (upd (upd (upd u_this_try0 (6) v11) (0) v13) (2) (((upd (upd u_this_try0 (6) v11) (0) v13) 2) + v9)) (3) (((upd (upd (upd u_this_try0 (6) v11) (0) v13) (2) (((upd (upd u_this_try0 (6) v11) (0) v13) 2) + v9)) 3) + v9)) (1) v15) (4) (((upd (upd (upd (upd (upd u_this_try0 (6) v11) (0) v13) (2) (((upd (upd u_this_try0 (6) v11) (0) v13) 2) + v9)) (3) (((upd (upd (upd u_this_try0 (6) v11) (0) v13) (2) (((upd (upd u_this_try0 (6) v11) (0) v13) 2) + v9)) 3) + v9)) (1) v15) 4) + (1))))
set_option maxHeartbeats 4000000 in
set_option maxRecDepth 100000 in
theorem c_X7_stroke (l : Launch) (D : va_G) (T : xT) (x : Nat → Nat) {sz : Nat} (u_this : K7) (u_this_par : (Nat → Int32)) (u_this_try0 : (Nat → Int32)) {rv : Int32 × (Nat → Int32)} (hM : f_X7_stroke u_this u_this_par u_this_try0 = some rv) : Met l yX7_stroke wsX7_stroke ({ frames := 3, cells := 0, slots := 0, locals := 61 } : Room) (va_Pc [.ref (x 0)] (xPre D T [((x 0), .inr (7, o7 x u_this)), ((x 3), .inl (T.1, 11, .inl u_this_par)), ((x 4), .inl (T.1, 7, .inl u_this_try0))] sz xE0)) (va_Qi (fun (r : Int32) (_ : Unit) => r = rv.1) (fun _ => xPost D T [((x 0), .inr (7, o7 x u_this)), ((x 3), .inl (T.1, 11, .inl u_this_par)), ((x 4), .inl (T.1, 7, .inl rv.2))] (va_A [((x 0), .inr (7, o7 x u_this)), ((x 3), .inl (T.1, 11, .inl u_this_par)), ((x 4), .inl (T.1, 7, .inl u_this_try0))] sz)) (va_A [((x 0), .inr (7, o7 x u_this)), ((x 3), .inl (T.1, 11, .inl u_this_par)), ((x 4), .inl (T.1, 7, .inl u_this_try0))] sz)) 0 0 (va_A [((x 0), .inr (7, o7 x u_this)), ((x 3), .inl (T.1, 11, .inl u_this_par)), ((x 4), .inl (T.1, 7, .inl u_this_try0))] sz) := by
  refine xMet (av := [.ref (x 0)]) (Wd := [((x 0), .inr (7, o7 x u_this)), ((x 3), .inl (T.1, 11, .inl u_this_par)), ((x 4), .inl (T.1, 7, .inl u_this_try0))]) (E := xE0) (Qc := fun A => (va_Qi (fun (r : Int32) (_ : Unit) => r = rv.1) (fun _ => xPost D T [((x 0), .inr (7, o7 x u_this)), ((x 3), .inl (T.1, 11, .inl u_this_par)), ((x 4), .inl (T.1, 7, .inl rv.2))] A) A)) (cc := cX7_stroke) (maxL := 7) (ret := (some .int)) (by decide) rfl (Nat.le_of_ble_eq_true rfl) ?_
  intro p e s m below meth c A ls hx hb hr hml hts hown hlocks hnm hP hK hD hS hA hE hl
  have hown : s.vm.findClass RX7 = some m.cls := hown
  have hl : lv_has ls 7 [(0, .ref (x 0))] := hl
  unfold f_X7_stroke at hM
  refine lv_aload_n hx hb dX7_stroke_0 rfl (lv_at hl 0 rfl) ?_
  obtain ⟨r1, er1, hM⟩ := xbd hM
  refine xafti (rv := r1) (W2 := [((x 0), .inr (7, o7 x u_this)), ((x 3), .inl (T.1, 11, .inl u_this_par)), ((x 4), .inl (T.1, 7, .inl u_this_try0))]) (va_runV (As := []) (rest := []) ⟨hx, hb, hml, hown, hts⟩ (c_X7_gain l D T x u_this u_this_par u_this_try0 er1) (cwV 0 hts gX7_stroke_X7_gain rfl rfl rfl (by decide +kernel) ⟨Nat.le_of_ble_eq_true rfl, Nat.le_of_ble_eq_true rfl⟩) (xpvv hP hD hK [0, 1, 2] (by decide) rfl 0 7 rfl rfl (fun _ _ _ => trivial) (fun _ _ _ _ _ _ => trivial)) rfl rfl hl.1 rfl (lv_room (Nat.le_of_ble_eq_true rfl)) dX7_stroke_1 ⟨Nat.le_of_ble_eq_true rfl, Nat.le_of_ble_eq_true rfl⟩) hP hD hS hA [0, 1, 2] rfl rfl rfl rfl (fun H locs hP hD hS => ?_)
  refine lv_istore_n (lv' := [(1, .int r1), (0, .ref (x 0))]) hx hb dX7_stroke_4 rfl hl (by decide) rfl (fun ls hl => ?_)
  refine lv_aload_n hx hb dX7_stroke_5 rfl (lv_at hl 1 rfl) ?_
  obtain ⟨r2, er2, hM⟩ := xbd hM
  refine xafti (rv := r2) (W2 := [((x 0), .inr (7, o7 x u_this)), ((x 3), .inl (T.1, 11, .inl u_this_par)), ((x 4), .inl (T.1, 7, .inl u_this_try0))]) (va_runV (As := []) (rest := []) ⟨hx, hb, hml, hown, hts⟩ (c_X7_depth l D T x u_this u_this_par u_this_try0 er2) (cwV 0 hts gX7_stroke_X7_depth rfl rfl rfl (by decide +kernel) ⟨Nat.le_of_ble_eq_true rfl, Nat.le_of_ble_eq_true rfl⟩) (xpvv hP hD hK [0, 1, 2] (by decide) rfl 0 7 rfl rfl (fun _ _ _ => trivial) (fun _ _ _ _ _ _ => trivial)) rfl rfl hl.1 rfl (lv_room (Nat.le_of_ble_eq_true rfl)) dX7_stroke_6 ⟨Nat.le_of_ble_eq_true rfl, Nat.le_of_ble_eq_true rfl⟩) hP hD hS hA [0, 1, 2] rfl rfl rfl rfl (fun H locs hP hD hS => ?_)
  refine lv_istore_n (lv' := [(2, .int r2), (1, .int r1), (0, .ref (x 0))]) hx hb dX7_stroke_9 rfl hl (by decide) rfl (fun ls hl => ?_)
  refine lv_aload_n hx hb dX7_stroke_10 rfl (lv_at hl 2 rfl) ?_
  refine va_get (D := D) (ci := 7) (v := .ref (x 4)) (C := RX7) (T := TX7) (N := 30) hx hb hts (fun w h => List.mem_cons_of_mem _ (List.mem_append_right _ h)) hown hK hP 0 rfl rfl 10 (by decide) (hts _ (List.mem_of_getElem? (i := 1) rfl)) (fun _ h9 => h9) rfl dX7_stroke_11 ?_
  refine lv_iconst (v := 0) hx hb dX7_stroke_14 (by decide) ?_
  refine xald (v := (u_this_try0 0)) hx hb hK hP 2 0 rfl rfl (xin_vp (by decide)) (congrArg _ (show (0 : Int32).toNatClampNeg = 0 by decide)) dX7_stroke_15 ?_
  refine lv_istore_n (lv' := [(3, .int (u_this_try0 0)), (2, .int r2), (1, .int r1), (0, .ref (x 0))]) hx hb dX7_stroke_16 rfl hl (by decide) rfl (fun ls hl => ?_)
  refine lv_iload_n hx hb dX7_stroke_17 rfl (lv_at hl 0 rfl) ?_
  refine lv_iload_n hx hb dX7_stroke_18 rfl (lv_at hl 2 rfl) ?_
  refine lv_isub hx hb dX7_stroke_19 ?_
  refine lv_istore (lv' := [(4, .int ((u_this_try0 0) - r1)), (3, .int (u_this_try0 0)), (2, .int r2), (1, .int r1), (0, .ref (x 0))]) hx hb dX7_stroke_20 hl (by decide) rfl (fun ls hl => ?_)
  refine lv_iload_n hx hb dX7_stroke_22 rfl (lv_at hl 2 rfl) ?_
  refine lv_aload_n hx hb dX7_stroke_23 rfl (lv_at hl 4 rfl) ?_
  refine xafti (rv := (f_X7_lift u_this u_this_par)) (W2 := [((x 0), .inr (7, o7 x u_this)), ((x 3), .inl (T.1, 11, .inl u_this_par)), ((x 4), .inl (T.1, 7, .inl u_this_try0))]) (va_runV (As := []) (rest := [.int r2]) ⟨hx, hb, hml, hown, hts⟩ (c_X7_lift (rv := (f_X7_lift u_this u_this_par)) l D T x u_this u_this_par rfl) (cwV 0 hts gX7_stroke_X7_lift rfl rfl rfl (by decide +kernel) ⟨Nat.le_of_ble_eq_true rfl, Nat.le_of_ble_eq_true rfl⟩) (xpvv hP hD hK [0, 1] (by decide) rfl 0 7 rfl rfl (fun _ _ _ => trivial) (fun _ _ _ _ _ _ => trivial)) rfl rfl hl.1 rfl (lv_room (Nat.le_of_ble_eq_true rfl)) dX7_stroke_24 ⟨Nat.le_of_ble_eq_true rfl, Nat.le_of_ble_eq_true rfl⟩) hP hD hS hA [0, 1] rfl rfl rfl rfl (fun H locs hP hD hS => ?_)
  refine lv_isub hx hb dX7_stroke_27 ?_
  refine lv_istore (lv' := [(5, .int (r2 - (f_X7_lift u_this u_this_par))), (4, .int ((u_this_try0 0) - r1)), (3, .int (u_this_try0 0)), (2, .int r2), (1, .int r1), (0, .ref (x 0))]) hx hb dX7_stroke_28 hl (by decide) rfl (fun ls hl => ?_)
  refine lv_iload hx hb dX7_stroke_30 (lv_at hl 0 rfl) ?_
  obtain ⟨v7, hM, hNv7⟩ := xbd hM
  have Kv7 : ∀ (H : Heap) (locs : List Loc) (ls : Array Slot), va_P D vwCl [((x 0), .inr (7, o7 x u_this)), ((x 3), .inl (T.1, 11, .inl u_this_par)), ((x 4), .inl (T.1, 7, .inl u_this_try0))] H → va_D A [((x 0), .inr (7, o7 x u_this)), ((x 3), .inl (T.1, 11, .inl u_this_par)), ((x 4), .inl (T.1, 7, .inl u_this_try0))] → va_S A s.heap H locs → lv_has ls 7 [(0, .ref (x 0)), (1, .int r1), (2, .int r2), (3, .int (u_this_try0 0)), (4, .int v7)] → W p l e ({ frames := 3, cells := 0, slots := 0, locals := 61 } : Room) s m ([.ref (x 0)] : List Value).toArray below meth c H locs 0 0 (MQ below (va_Qi (fun (r : Int32) (_ : Unit) => r = rv.1) (fun _ => xPost D T [((x 0), .inr (7, o7 x u_this)), ((x 3), .inl (T.1, 11, .inl u_this_par)), ((x 4), .inl (T.1, 7, .inl rv.2))] A) A) ([.ref (x 0)] : List Value).toArray s 0 0 A) (F0 m 61 ls []) := by
    intro H locs ls hP hD hS hl
    have hM := hNv7
    refine lv_iload hx hb dX7_stroke_61 (lv_at hl 4 rfl) ?_
    obtain ⟨v9, hM, hNv9⟩ := xbd hM
    have Kv9 : ∀ (H : Heap) (locs : List Loc) (ls : Array Slot), va_P D vwCl [((x 0), .inr (7, o7 x u_this)), ((x 3), .inl (T.1, 11, .inl u_this_par)), ((x 4), .inl (T.1, 7, .inl u_this_try0))] H → va_D A [((x 0), .inr (7, o7 x u_this)), ((x 3), .inl (T.1, 11, .inl u_this_par)), ((x 4), .inl (T.1, 7, .inl u_this_try0))] → va_S A s.heap H locs → lv_has ls 7 [(0, .ref (x 0)), (1, .int r1), (2, .int r2), (3, .int (u_this_try0 0)), (4, .int v7)] → W p l e ({ frames := 3, cells := 0, slots := 0, locals := 61 } : Room) s m ([.ref (x 0)] : List Value).toArray below meth c H locs 0 0 (MQ below (va_Qi (fun (r : Int32) (_ : Unit) => r = rv.1) (fun _ => xPost D T [((x 0), .inr (7, o7 x u_this)), ((x 3), .inl (T.1, 11, .inl u_this_par)), ((x 4), .inl (T.1, 7, .inl rv.2))] A) A) ([.ref (x 0)] : List Value).toArray s 0 0 A) (F0 m 73 ls [.int v9]) := by
      intro H locs ls hP hD hS hl
      have hM := hNv9
      refine lv_istore (lv' := [(6, .int v9), (0, .ref (x 0)), (1, .int r1), (2, .int r2), (3, .int (u_this_try0 0)), (4, .int v7)]) hx hb dX7_stroke_73 hl (by decide) rfl (fun ls hl => ?_)
      refine lv_aload_n hx hb dX7_stroke_75 rfl (lv_at hl 1 rfl) ?_
      refine va_get (D := D) (ci := 7) (v := .ref (x 4)) (C := RX7) (T := TX7) (N := 30) hx hb hts (fun w h => List.mem_cons_of_mem _ (List.mem_append_right _ h)) hown hK hP 0 rfl rfl 10 (by decide) (hts _ (List.mem_of_getElem? (i := 1) rfl)) (fun _ h9 => h9) rfl dX7_stroke_76 ?_
      refine lv_bipush (v := 6) hx hb dX7_stroke_79 (by decide) ?_
      refine lv_iload_n hx hb dX7_stroke_81 rfl (lv_at hl 2 rfl) ?_
      obtain ⟨v11, hM, hNv11⟩ := xbd hM
      have Kv11 : ∀ (H : Heap) (locs : List Loc) (ls : Array Slot), va_P D vwCl [((x 0), .inr (7, o7 x u_this)), ((x 3), .inl (T.1, 11, .inl u_this_par)), ((x 4), .inl (T.1, 7, .inl u_this_try0))] H → va_D A [((x 0), .inr (7, o7 x u_this)), ((x 3), .inl (T.1, 11, .inl u_this_par)), ((x 4), .inl (T.1, 7, .inl u_this_try0))] → va_S A s.heap H locs → lv_has ls 7 [(0, .ref (x 0)), (4, .int v7), (6, .int v9)] → W p l e ({ frames := 3, cells := 0, slots := 0, locals := 61 } : Room) s m ([.ref (x 0)] : List Value).toArray below meth c H locs 0 0 (MQ below (va_Qi (fun (r : Int32) (_ : Unit) => r = rv.1) (fun _ => xPost D T [((x 0), .inr (7, o7 x u_this)), ((x 3), .inl (T.1, 11, .inl u_this_par)), ((x 4), .inl (T.1, 7, .inl rv.2))] A) A) ([.ref (x 0)] : List Value).toArray s 0 0 A) (F0 m 95 ls [.int v11, .int (6), .ref (x 4)]) := by
        intro H locs ls hP hD hS hl
        have hM := hNv11
        refine xast hx hb hK hP hD hS 2 0 rfl rfl (xin_vp (by decide)) (show (6 : Int32).toNatClampNeg = 6 by decide) dX7_stroke_95 (fun H locs hP hD hS => ?_)
        have hP : va_P D vwCl [((x 0), .inr (7, o7 x u_this)), ((x 3), .inl (T.1, 11, .inl u_this_par)), ((x 4), .inl (T.1, 7, .inl (upd u_this_try0 (6) v11)))] H := hP
        have hD : va_D A [((x 0), .inr (7, o7 x u_this)), ((x 3), .inl (T.1, 11, .inl u_this_par)), ((x 4), .inl (T.1, 7, .inl (upd u_this_try0 (6) v11)))] := hD
        refine lv_aload_n hx hb dX7_stroke_96 rfl (lv_at hl 0 rfl) ?_
        refine va_get (D := D) (ci := 7) (v := .ref (x 4)) (C := RX7) (T := TX7) (N := 30) hx hb hts (fun w h => List.mem_cons_of_mem _ (List.mem_append_right _ h)) hown hK hP 0 rfl rfl 10 (by decide) (hts _ (List.mem_of_getElem? (i := 1) rfl)) (fun _ h9 => h9) rfl dX7_stroke_97 ?_
        refine lv_iconst (v := 0) hx hb dX7_stroke_100 (by decide) ?_
        refine lv_iload hx hb dX7_stroke_101 (lv_at hl 1 rfl) ?_
        obtain ⟨v13, hM, hNv13⟩ := xbd hM
        have Kv13 : ∀ (H : Heap) (locs : List Loc) (ls : Array Slot), va_P D vwCl [((x 0), .inr (7, o7 x u_this)), ((x 3), .inl (T.1, 11, .inl u_this_par)), ((x 4), .inl (T.1, 7, .inl (upd u_this_try0 (6) v11)))] H → va_D A [((x 0), .inr (7, o7 x u_this)), ((x 3), .inl (T.1, 11, .inl u_this_par)), ((x 4), .inl (T.1, 7, .inl (upd u_this_try0 (6) v11)))] → va_S A s.heap H locs → lv_has ls 7 [(0, .ref (x 0)), (6, .int v9)] → W p l e ({ frames := 3, cells := 0, slots := 0, locals := 61 } : Room) s m ([.ref (x 0)] : List Value).toArray below meth c H locs 0 0 (MQ below (va_Qi (fun (r : Int32) (_ : Unit) => r = rv.1) (fun _ => xPost D T [((x 0), .inr (7, o7 x u_this)), ((x 3), .inl (T.1, 11, .inl u_this_par)), ((x 4), .inl (T.1, 7, .inl rv.2))] A) A) ([.ref (x 0)] : List Value).toArray s 0 0 A) (F0 m 112 ls [.int v13, .int (0), .ref (x 4)]) := by
          intro H locs ls hP hD hS hl
          have hM := hNv13
          refine xast hx hb hK hP hD hS 2 0 rfl rfl (xin_vp (by decide)) (show (0 : Int32).toNatClampNeg = 0 by decide) dX7_stroke_112 (fun H locs hP hD hS => ?_)
          have hP : va_P D vwCl [((x 0), .inr (7, o7 x u_this)), ((x 3), .inl (T.1, 11, .inl u_this_par)), ((x 4), .inl (T.1, 7, .inl (upd (upd u_this_try0 (6) v11) (0) v13)))] H := hP
          have hD : va_D A [((x 0), .inr (7, o7 x u_this)), ((x 3), .inl (T.1, 11, .inl u_this_par)), ((x 4), .inl (T.1, 7, .inl (upd (upd u_this_try0 (6) v11) (0) v13)))] := hD
          refine lv_aload_n hx hb dX7_stroke_113 rfl (lv_at hl 0 rfl) ?_
          refine va_get (D := D) (ci := 7) (v := .ref (x 4)) (C := RX7) (T := TX7) (N := 30) hx hb hts (fun w h => List.mem_cons_of_mem _ (List.mem_append_right _ h)) hown hK hP 0 rfl rfl 10 (by decide) (hts _ (List.mem_of_getElem? (i := 1) rfl)) (fun _ h9 => h9) rfl dX7_stroke_114 ?_
          refine lv_iconst (v := 2) hx hb dX7_stroke_117 (by decide) ?_
          refine lv_dup2_11 hx hb dX7_stroke_118 rfl rfl ?_
          refine xald (v := ((upd (upd u_this_try0 (6) v11) (0) v13) 2)) hx hb hK hP 2 0 rfl rfl (xin_vp (by decide)) (congrArg _ (show (2 : Int32).toNatClampNeg = 2 by decide)) dX7_stroke_119 ?_
          refine lv_iload hx hb dX7_stroke_120 (lv_at hl 1 rfl) ?_
          refine lv_iadd hx hb dX7_stroke_122 ?_
          refine xast hx hb hK hP hD hS 2 0 rfl rfl (xin_vp (by decide)) (show (2 : Int32).toNatClampNeg = 2 by decide) dX7_stroke_123 (fun H locs hP hD hS => ?_)
          have hP : va_P D vwCl [((x 0), .inr (7, o7 x u_this)), ((x 3), .inl (T.1, 11, .inl u_this_par)), ((x 4), .inl (T.1, 7, .inl (upd (upd (upd u_this_try0 (6) v11) (0) v13) (2) (((upd (upd u_this_try0 (6) v11) (0) v13) 2) + v9))))] H := hP
          have hD : va_D A [((x 0), .inr (7, o7 x u_this)), ((x 3), .inl (T.1, 11, .inl u_this_par)), ((x 4), .inl (T.1, 7, .inl (upd (upd (upd u_this_try0 (6) v11) (0) v13) (2) (((upd (upd u_this_try0 (6) v11) (0) v13) 2) + v9))))] := hD
          refine lv_aload_n hx hb dX7_stroke_124 rfl (lv_at hl 0 rfl) ?_
          refine va_get (D := D) (ci := 7) (v := .ref (x 4)) (C := RX7) (T := TX7) (N := 30) hx hb hts (fun w h => List.mem_cons_of_mem _ (List.mem_append_right _ h)) hown hK hP 0 rfl rfl 10 (by decide) (hts _ (List.mem_of_getElem? (i := 1) rfl)) (fun _ h9 => h9) rfl dX7_stroke_125 ?_
          refine lv_iconst (v := 3) hx hb dX7_stroke_128 (by decide) ?_
          refine lv_dup2_11 hx hb dX7_stroke_129 rfl rfl ?_
          refine xald (v := ((upd (upd (upd u_this_try0 (6) v11) (0) v13) (2) (((upd (upd u_this_try0 (6) v11) (0) v13) 2) + v9)) 3)) hx hb hK hP 2 0 rfl rfl (xin_vp (by decide)) (congrArg _ (show (3 : Int32).toNatClampNeg = 3 by decide)) dX7_stroke_130 ?_
          refine lv_iload hx hb dX7_stroke_131 (lv_at hl 1 rfl) ?_
          refine lv_iadd hx hb dX7_stroke_133 ?_
          refine xast hx hb hK hP hD hS 2 0 rfl rfl (xin_vp (by decide)) (show (3 : Int32).toNatClampNeg = 3 by decide) dX7_stroke_134 (fun H locs hP hD hS => ?_)
          have hP : va_P D vwCl [((x 0), .inr (7, o7 x u_this)), ((x 3), .inl (T.1, 11, .inl u_this_par)), ((x 4), .inl (T.1, 7, .inl (upd (upd (upd (upd u_this_try0 (6) v11) (0) v13) (2) (((upd (upd u_this_try0 (6) v11) (0) v13) 2) + v9)) (3) (((upd (upd (upd u_this_try0 (6) v11) (0) v13) (2) (((upd (upd u_this_try0 (6) v11) (0) v13) 2) + v9)) 3) + v9))))] H := hP
          have hD : va_D A [((x 0), .inr (7, o7 x u_this)), ((x 3), .inl (T.1, 11, .inl u_this_par)), ((x 4), .inl (T.1, 7, .inl (upd (upd (upd (upd u_this_try0 (6) v11) (0) v13) (2) (((upd (upd u_this_try0 (6) v11) (0) v13) 2) + v9)) (3) (((upd (upd (upd u_this_try0 (6) v11) (0) v13) (2) (((upd (upd u_this_try0 (6) v11) (0) v13) 2) + v9)) 3) + v9))))] := hD
          refine lv_aload_n hx hb dX7_stroke_135 rfl (lv_at hl 0 rfl) ?_
          refine va_get (D := D) (ci := 7) (v := .ref (x 4)) (C := RX7) (T := TX7) (N := 30) hx hb hts (fun w h => List.mem_cons_of_mem _ (List.mem_append_right _ h)) hown hK hP 0 rfl rfl 10 (by decide) (hts _ (List.mem_of_getElem? (i := 1) rfl)) (fun _ h9 => h9) rfl dX7_stroke_136 ?_
          refine lv_iconst (v := 1) hx hb dX7_stroke_139 (by decide) ?_
          refine lv_iload hx hb dX7_stroke_140 (lv_at hl 1 rfl) ?_
          obtain ⟨v15, hM, hNv15⟩ := xbd hM
          have Kv15 : ∀ (H : Heap) (locs : List Loc) (ls : Array Slot), va_P D vwCl [((x 0), .inr (7, o7 x u_this)), ((x 3), .inl (T.1, 11, .inl u_this_par)), ((x 4), .inl (T.1, 7, .inl (upd (upd (upd (upd u_this_try0 (6) v11) (0) v13) (2) (((upd (upd u_this_try0 (6) v11) (0) v13) 2) + v9)) (3) (((upd (upd (upd u_this_try0 (6) v11) (0) v13) (2) (((upd (upd u_this_try0 (6) v11) (0) v13) 2) + v9)) 3) + v9))))] H → va_D A [((x 0), .inr (7, o7 x u_this)), ((x 3), .inl (T.1, 11, .inl u_this_par)), ((x 4), .inl (T.1, 7, .inl (upd (upd (upd (upd u_this_try0 (6) v11) (0) v13) (2) (((upd (upd u_this_try0 (6) v11) (0) v13) 2) + v9)) (3) (((upd (upd (upd u_this_try0 (6) v11) (0) v13) (2) (((upd (upd u_this_try0 (6) v11) (0) v13) 2) + v9)) 3) + v9))))] → va_S A s.heap H locs → lv_has ls 7 [(0, .ref (x 0)), (6, .int v9)] → W p l e ({ frames := 3, cells := 0, slots := 0, locals := 61 } : Room) s m ([.ref (x 0)] : List Value).toArray below meth c H locs 0 0 (MQ below (va_Qi (fun (r : Int32) (_ : Unit) => r = rv.1) (fun _ => xPost D T [((x 0), .inr (7, o7 x u_this)), ((x 3), .inl (T.1, 11, .inl u_this_par)), ((x 4), .inl (T.1, 7, .inl rv.2))] A) A) ([.ref (x 0)] : List Value).toArray s 0 0 A) (F0 m 156 ls [.int v15, .int (1), .ref (x 4)]) := by
            intro H locs ls hP hD hS hl
            have hM := hNv15
            refine xast hx hb hK hP hD hS 2 0 rfl rfl (xin_vp (by decide)) (show (1 : Int32).toNatClampNeg = 1 by decide) dX7_stroke_156 (fun H locs hP hD hS => ?_)
            have hP : va_P D vwCl [((x 0), .inr (7, o7 x u_this)), ((x 3), .inl (T.1, 11, .inl u_this_par)), ((x 4), .inl (T.1, 7, .inl (upd (upd (upd (upd (upd u_this_try0 (6) v11) (0) v13) (2) (((upd (upd u_this_try0 (6) v11) (0) v13) 2) + v9)) (3) (((upd (upd (upd u_this_try0 (6) v11) (0) v13) (2) (((upd (upd u_this_try0 (6) v11) (0) v13) 2) + v9)) 3) + v9)) (1) v15)))] H := hP
            have hD : va_D A [((x 0), .inr (7, o7 x u_this)), ((x 3), .inl (T.1, 11, .inl u_this_par)), ((x 4), .inl (T.1, 7, .inl (upd (upd (upd (upd (upd u_this_try0 (6) v11) (0) v13) (2) (((upd (upd u_this_try0 (6) v11) (0) v13) 2) + v9)) (3) (((upd (upd (upd u_this_try0 (6) v11) (0) v13) (2) (((upd (upd u_this_try0 (6) v11) (0) v13) 2) + v9)) 3) + v9)) (1) v15)))] := hD
            refine lv_aload_n hx hb dX7_stroke_157 rfl (lv_at hl 0 rfl) ?_
            refine va_get (D := D) (ci := 7) (v := .ref (x 4)) (C := RX7) (T := TX7) (N := 30) hx hb hts (fun w h => List.mem_cons_of_mem _ (List.mem_append_right _ h)) hown hK hP 0 rfl rfl 10 (by decide) (hts _ (List.mem_of_getElem? (i := 1) rfl)) (fun _ h9 => h9) rfl dX7_stroke_158 ?_
            refine lv_iconst (v := 4) hx hb dX7_stroke_161 (by decide) ?_
            refine lv_dup2_11 hx hb dX7_stroke_162 rfl rfl ?_
            refine xald (v := ((upd (upd (upd (upd (upd u_this_try0 (6) v11) (0) v13) (2) (((upd (upd u_this_try0 (6) v11) (0) v13) 2) + v9)) (3) (((upd (upd (upd u_this_try0 (6) v11) (0) v13) (2) (((upd (upd u_this_try0 (6) v11) (0) v13) 2) + v9)) 3) + v9)) (1) v15) 4)) hx hb hK hP 2 0 rfl rfl (xin_vp (by decide)) (congrArg _ (show (4 : Int32).toNatClampNeg = 4 by decide)) dX7_stroke_163 ?_
            refine lv_iconst (v := 1) hx hb dX7_stroke_164 (by decide) ?_
            refine lv_iadd hx hb dX7_stroke_165 ?_
            refine xast hx hb hK hP hD hS 2 0 rfl rfl (xin_vp (by decide)) (show (4 : Int32).toNatClampNeg = 4 by decide) dX7_stroke_166 (fun H locs hP hD hS => ?_)
            have hP : va_P D vwCl [((x 0), .inr (7, o7 x u_this)), ((x 3), .inl (T.1, 11, .inl u_this_par)), ((x 4), .inl (T.1, 7, .inl (upd (upd (upd (upd (upd (upd u_this_try0 (6) v11) (0) v13) (2) (((upd (upd u_this_try0 (6) v11) (0) v13) 2) + v9)) (3) (((upd (upd (upd u_this_try0 (6) v11) (0) v13) (2) (((upd (upd u_this_try0 (6) v11) (0) v13) 2) + v9)) 3) + v9)) (1) v15) (4) (((upd (upd (upd (upd (upd u_this_try0 (6) v11) (0) v13) (2) (((upd (upd u_this_try0 (6) v11) (0) v13) 2) + v9)) (3) (((upd (upd (upd u_this_try0 (6) v11) (0) v13) (2) (((upd (upd u_this_try0 (6) v11) (0) v13) 2) + v9)) 3) + v9)) (1) v15) 4) + (1)))))] H := hP
            have hD : va_D A [((x 0), .inr (7, o7 x u_this)), ((x 3), .inl (T.1, 11, .inl u_this_par)), ((x 4), .inl (T.1, 7, .inl (upd (upd (upd (upd (upd (upd u_this_try0 (6) v11) (0) v13) (2) (((upd (upd u_this_try0 (6) v11) (0) v13) 2) + v9)) (3) (((upd (upd (upd u_this_try0 (6) v11) (0) v13) (2) (((upd (upd u_this_try0 (6) v11) (0) v13) 2) + v9)) 3) + v9)) (1) v15) (4) (((upd (upd (upd (upd (upd u_this_try0 (6) v11) (0) v13) (2) (((upd (upd u_this_try0 (6) v11) (0) v13) 2) + v9)) (3) (((upd (upd (upd u_this_try0 (6) v11) (0) v13) (2) (((upd (upd u_this_try0 (6) v11) (0) v13) 2) + v9)) 3) + v9)) (1) v15) 4) + (1)))))] := hD
            refine lv_iload hx hb dX7_stroke_167 (lv_at hl 1 rfl) ?_
            obtain rfl := Option.some.inj hM
            exact xreti hx hb hr hlocks hP hK hD hS dX7_stroke_169 rfl
          refine lv_if_le (tgt := 150) hx hb dX7_stroke_142 (by decide) (fun c14 => ?_) (fun c14 => ?_)
          · have hM := xit c14 hM
            refine lv_aload_n hx hb dX7_stroke_150 rfl (lv_at hl 0 rfl) ?_
            refine va_get (D := D) (ci := 7) (v := .ref (x 4)) (C := RX7) (T := TX7) (N := 30) hx hb hts (fun w h => List.mem_cons_of_mem _ (List.mem_append_right _ h)) hown hK hP 0 rfl rfl 10 (by decide) (hts _ (List.mem_of_getElem? (i := 1) rfl)) (fun _ h9 => h9) rfl dX7_stroke_151 ?_
            refine lv_iconst (v := 1) hx hb dX7_stroke_154 (by decide) ?_
            refine xald (v := ((upd (upd (upd (upd u_this_try0 (6) v11) (0) v13) (2) (((upd (upd u_this_try0 (6) v11) (0) v13) 2) + v9)) (3) (((upd (upd (upd u_this_try0 (6) v11) (0) v13) (2) (((upd (upd u_this_try0 (6) v11) (0) v13) 2) + v9)) 3) + v9)) 1)) hx hb hK hP 2 0 rfl rfl (xin_vp (by decide)) (congrArg _ (show (1 : Int32).toNatClampNeg = 1 by decide)) dX7_stroke_155 ?_
            obtain rfl := Option.some.inj hM
            exact Kv15 _ _ _ hP hD hS (lv_sub hl [0, 1] rfl)
          · have hM := xif c14 hM
            refine lv_bipush (v := 100) hx hb dX7_stroke_145 (by decide) ?_
            refine lv_goto (tgt := 156) hx hb dX7_stroke_147 (by decide) ?_
            obtain rfl := Option.some.inj hM
            exact Kv15 _ _ _ hP hD hS (lv_sub hl [0, 1] rfl)
        refine lv_if_ge (tgt := 110) hx hb dX7_stroke_103 (by decide) (fun c12 => ?_) (fun c12 => ?_)
        · have hM := xit c12 hM
          refine lv_iload hx hb dX7_stroke_110 (lv_at hl 1 rfl) ?_
          obtain rfl := Option.some.inj hM
          exact Kv13 _ _ _ hP hD hS (lv_sub hl [0, 2] rfl)
        · have hM := xif c12 hM
          refine lv_iconst (v := 0) hx hb dX7_stroke_106 (by decide) ?_
          refine lv_goto (tgt := 112) hx hb dX7_stroke_107 (by decide) ?_
          obtain rfl := Option.some.inj hM
          exact Kv13 _ _ _ hP hD hS (lv_sub hl [0, 2] rfl)
      refine lv_if_le (tgt := 94) hx hb dX7_stroke_82 (by decide) (fun c10 => ?_) (fun c10 => ?_)
      · have hM := xit c10 hM
        refine lv_iconst (v := 0) hx hb dX7_stroke_94 (by decide) ?_
        obtain rfl := Option.some.inj hM
        exact Kv11 _ _ _ hP hD hS (lv_sub hl [1, 5, 0] rfl)
      · have hM := xif c10 hM
        refine lv_iload_n hx hb dX7_stroke_85 rfl (lv_at hl 3 rfl) ?_
        refine lv_iload_n hx hb dX7_stroke_86 rfl (lv_at hl 4 rfl) ?_
        refine lv_isub hx hb dX7_stroke_87 ?_
        refine lv_bipush (v := 10) hx hb dX7_stroke_88 (by decide) ?_
        refine lv_idiv hx hb dX7_stroke_90 (by decide) ?_
        refine lv_goto (tgt := 95) hx hb dX7_stroke_91 (by decide) ?_
        obtain rfl := Option.some.inj hM
        exact Kv11 _ _ _ hP hD hS (lv_sub hl [1, 5, 0] rfl)
    refine lv_if_ge (tgt := 72) hx hb dX7_stroke_63 (by decide) (fun c8 => ?_) (fun c8 => ?_)
    · have hM := xit c8 hM
      refine lv_iconst (v := 0) hx hb dX7_stroke_72 (by decide) ?_
      obtain rfl := Option.some.inj hM
      exact Kv9 _ _ _ hP hD hS (lv_sub hl [0, 1, 2, 3, 4] rfl)
    · have hM := xif c8 hM
      refine lv_iload hx hb dX7_stroke_66 (lv_at hl 4 rfl) ?_
      refine lv_ineg hx hb dX7_stroke_68 ?_
      refine lv_goto (tgt := 73) hx hb dX7_stroke_69 (by decide) ?_
      obtain rfl := Option.some.inj hM
      exact Kv9 _ _ _ hP hD hS (lv_sub hl [0, 1, 2, 3, 4] rfl)
  refine lv_if_le (tgt := 61) hx hb dX7_stroke_32 (by decide) (fun c3 => ?_) (fun c3 => ?_)
  · have hM := xit c3 hM
    obtain rfl := Option.some.inj hM
    exact Kv7 _ _ _ hP hD hS (lv_sub hl [5, 4, 3, 2, 1] rfl)
  · have hM := xif c3 hM
    refine lv_iload_n hx hb dX7_stroke_35 rfl (lv_at hl 2 rfl) ?_
    refine lv_iload hx hb dX7_stroke_36 (lv_at hl 0 rfl) ?_
    obtain ⟨v6, hM, hNv6⟩ := xbd hM
    have Kv6 : ∀ (H : Heap) (locs : List Loc) (ls : Array Slot), va_P D vwCl [((x 0), .inr (7, o7 x u_this)), ((x 3), .inl (T.1, 11, .inl u_this_par)), ((x 4), .inl (T.1, 7, .inl u_this_try0))] H → va_D A [((x 0), .inr (7, o7 x u_this)), ((x 3), .inl (T.1, 11, .inl u_this_par)), ((x 4), .inl (T.1, 7, .inl u_this_try0))] → va_S A s.heap H locs → lv_has ls 7 [(0, .ref (x 0)), (1, .int r1), (2, .int r2), (3, .int (u_this_try0 0))] → W p l e ({ frames := 3, cells := 0, slots := 0, locals := 61 } : Room) s m ([.ref (x 0)] : List Value).toArray below meth c H locs 0 0 (MQ below (va_Qi (fun (r : Int32) (_ : Unit) => r = rv.1) (fun _ => xPost D T [((x 0), .inr (7, o7 x u_this)), ((x 3), .inl (T.1, 11, .inl u_this_par)), ((x 4), .inl (T.1, 7, .inl rv.2))] A) A) ([.ref (x 0)] : List Value).toArray s 0 0 A) (F0 m 59 ls [.int v6]) := by
      intro H locs ls hP hD hS hl
      have hM := hNv6
      refine lv_istore (lv' := [(4, .int v6), (0, .ref (x 0)), (1, .int r1), (2, .int r2), (3, .int (u_this_try0 0))]) hx hb dX7_stroke_59 hl (by decide) rfl (fun ls hl => ?_)
      obtain rfl := Option.some.inj hM
      exact Kv7 _ _ _ hP hD hS (lv_sub hl [1, 2, 3, 4, 0] rfl)
    refine lv_icmp_ge (tgt := 45) hx hb dX7_stroke_38 (by decide) (fun c4 => ?_) (fun c4 => ?_)
    · have hM := xit c4 hM
      refine lv_iload hx hb dX7_stroke_45 (lv_at hl 1 rfl) ?_
      refine lv_iload hx hb dX7_stroke_47 (lv_at hl 0 rfl) ?_
      refine lv_icmp_ge (tgt := 57) hx hb dX7_stroke_49 (by decide) (fun c5 => ?_) (fun c5 => ?_)
      · have hM := xit c5 hM
        refine lv_iload hx hb dX7_stroke_57 (lv_at hl 1 rfl) ?_
        obtain rfl := Option.some.inj hM
        exact Kv6 _ _ _ hP hD hS (lv_sub hl [5, 4, 3, 2] rfl)
      · have hM := xif c5 hM
        refine lv_iload hx hb dX7_stroke_52 (lv_at hl 0 rfl) ?_
        refine lv_goto (tgt := 59) hx hb dX7_stroke_54 (by decide) ?_
        obtain rfl := Option.some.inj hM
        exact Kv6 _ _ _ hP hD hS (lv_sub hl [5, 4, 3, 2] rfl)
    · have hM := xif c4 hM
      refine lv_iload_n hx hb dX7_stroke_41 rfl (lv_at hl 2 rfl) ?_
      refine lv_goto (tgt := 59) hx hb dX7_stroke_42 (by decide) ?_
      obtain rfl := Option.some.inj hM
      exact Kv6 _ _ _ hP hD hS (lv_sub hl [5, 4, 3, 2] rfl)
def f_X7_pour (u_this : K7) (u_this_try0 : (Nat → Int32)) (p1 : Int32) : Option (Int32 × (Nat → Int32)) :=
  ((if p1 ≤ (u_this_try0 0) then
     (some (0))
    else
     (some (p1 - (u_this_try0 0))) : Option (Int32))).bind fun v2 =>
  if (((upd u_this_try0 (0) ((u_this_try0 0) - (p1 - v2))) 1) + ((5) * p1)) ≤ (100) then
   (some (v2, (upd (upd u_this_try0 (0) ((u_this_try0 0) - (p1 - v2))) (1) (((upd u_this_try0 (0) ((u_this_try0 0) - (p1 - v2))) 1) + ((5) * p1)))))
  else
   (some (v2, (upd (upd u_this_try0 (0) ((u_this_try0 0) - (p1 - v2))) (1) (100))))
set_option maxHeartbeats 4000000 in
set_option maxRecDepth 100000 in
theorem c_X7_pour (l : Launch) (D : va_G) (T : xT) (x : Nat → Nat) {sz : Nat} (u_this : K7) (u_this_try0 : (Nat → Int32)) (p1 : Int32) {rv : Int32 × (Nat → Int32)} (hM : f_X7_pour u_this u_this_try0 p1 = some rv) : Met l yX7_pour wsX7_pour ({ frames := 0, cells := 0, slots := 0, locals := 0 } : Room) (va_Pc [.ref (x 0), .int p1] (xPre D T [((x 0), .inr (7, o7 x u_this)), ((x 4), .inl (T.1, 7, .inl u_this_try0))] sz xE0)) (va_Qi (fun (r : Int32) (_ : Unit) => r = rv.1) (fun _ => xPost D T [((x 0), .inr (7, o7 x u_this)), ((x 4), .inl (T.1, 7, .inl rv.2))] (va_A [((x 0), .inr (7, o7 x u_this)), ((x 4), .inl (T.1, 7, .inl u_this_try0))] sz)) (va_A [((x 0), .inr (7, o7 x u_this)), ((x 4), .inl (T.1, 7, .inl u_this_try0))] sz)) 0 0 (va_A [((x 0), .inr (7, o7 x u_this)), ((x 4), .inl (T.1, 7, .inl u_this_try0))] sz) := by
  refine xMet (av := [.ref (x 0), .int p1]) (Wd := [((x 0), .inr (7, o7 x u_this)), ((x 4), .inl (T.1, 7, .inl u_this_try0))]) (E := xE0) (Qc := fun A => (va_Qi (fun (r : Int32) (_ : Unit) => r = rv.1) (fun _ => xPost D T [((x 0), .inr (7, o7 x u_this)), ((x 4), .inl (T.1, 7, .inl rv.2))] A) A)) (cc := cX7_pour) (maxL := 4) (ret := (some .int)) (by decide) rfl (Nat.le_of_ble_eq_true rfl) ?_
  intro p e s m below meth c A ls hx hb hr hml hts hown hlocks hnm hP hK hD hS hA hE hl
  have hown : s.vm.findClass RX7 = some m.cls := hown
  have hl : lv_has ls 4 [(0, .ref (x 0)), (1, .int p1)] := hl
  unfold f_X7_pour at hM
  refine lv_iload_n hx hb dX7_pour_0 rfl (lv_at hl 1 rfl) ?_
  refine lv_aload_n hx hb dX7_pour_1 rfl (lv_at hl 0 rfl) ?_
  refine va_get (D := D) (ci := 7) (v := .ref (x 4)) (C := RX7) (T := TX7) (N := 30) hx hb hts (fun w h => List.mem_cons_of_mem _ (List.mem_append_right _ h)) hown hK hP 0 rfl rfl 10 (by decide) (hts _ (List.mem_of_getElem? (i := 1) rfl)) (fun _ h9 => h9) rfl dX7_pour_2 ?_
  refine lv_iconst (v := 0) hx hb dX7_pour_5 (by decide) ?_
  refine xald (v := (u_this_try0 0)) hx hb hK hP 1 0 rfl rfl (xin_vp (by decide)) (congrArg _ (show (0 : Int32).toNatClampNeg = 0 by decide)) dX7_pour_6 ?_
  obtain ⟨v2, hM, hNv2⟩ := xbd hM
  have Kv2 : ∀ (H : Heap) (locs : List Loc) (ls : Array Slot), va_P D vwCl [((x 0), .inr (7, o7 x u_this)), ((x 4), .inl (T.1, 7, .inl u_this_try0))] H → va_D A [((x 0), .inr (7, o7 x u_this)), ((x 4), .inl (T.1, 7, .inl u_this_try0))] → va_S A s.heap H locs → lv_has ls 4 [(0, .ref (x 0)), (1, .int p1)] → W p l e ({ frames := 0, cells := 0, slots := 0, locals := 0 } : Room) s m ([.ref (x 0), .int p1] : List Value).toArray below meth c H locs 0 0 (MQ below (va_Qi (fun (r : Int32) (_ : Unit) => r = rv.1) (fun _ => xPost D T [((x 0), .inr (7, o7 x u_this)), ((x 4), .inl (T.1, 7, .inl rv.2))] A) A) ([.ref (x 0), .int p1] : List Value).toArray s 0 0 A) (F0 m 22 ls [.int v2]) := by
    intro H locs ls hP hD hS hl
    have hM := hNv2
    refine lv_istore_n (lv' := [(2, .int v2), (0, .ref (x 0)), (1, .int p1)]) hx hb dX7_pour_22 rfl hl (by decide) rfl (fun ls hl => ?_)
    refine lv_aload_n hx hb dX7_pour_23 rfl (lv_at hl 1 rfl) ?_
    refine va_get (D := D) (ci := 7) (v := .ref (x 4)) (C := RX7) (T := TX7) (N := 30) hx hb hts (fun w h => List.mem_cons_of_mem _ (List.mem_append_right _ h)) hown hK hP 0 rfl rfl 10 (by decide) (hts _ (List.mem_of_getElem? (i := 1) rfl)) (fun _ h9 => h9) rfl dX7_pour_24 ?_
    refine lv_iconst (v := 0) hx hb dX7_pour_27 (by decide) ?_
    refine lv_dup2_11 hx hb dX7_pour_28 rfl rfl ?_
    refine xald (v := (u_this_try0 0)) hx hb hK hP 1 0 rfl rfl (xin_vp (by decide)) (congrArg _ (show (0 : Int32).toNatClampNeg = 0 by decide)) dX7_pour_29 ?_
    refine lv_iload_n hx hb dX7_pour_30 rfl (lv_at hl 2 rfl) ?_
    refine lv_iload_n hx hb dX7_pour_31 rfl (lv_at hl 0 rfl) ?_
    refine lv_isub hx hb dX7_pour_32 ?_
    refine lv_isub hx hb dX7_pour_33 ?_
    refine xast hx hb hK hP hD hS 1 0 rfl rfl (xin_vp (by decide)) (show (0 : Int32).toNatClampNeg = 0 by decide) dX7_pour_34 (fun H locs hP hD hS => ?_)
    have hP : va_P D vwCl [((x 0), .inr (7, o7 x u_this)), ((x 4), .inl (T.1, 7, .inl (upd u_this_try0 (0) ((u_this_try0 0) - (p1 - v2)))))] H := hP
    have hD : va_D A [((x 0), .inr (7, o7 x u_this)), ((x 4), .inl (T.1, 7, .inl (upd u_this_try0 (0) ((u_this_try0 0) - (p1 - v2)))))] := hD
    refine lv_aload_n hx hb dX7_pour_35 rfl (lv_at hl 1 rfl) ?_
    refine va_get (D := D) (ci := 7) (v := .ref (x 4)) (C := RX7) (T := TX7) (N := 30) hx hb hts (fun w h => List.mem_cons_of_mem _ (List.mem_append_right _ h)) hown hK hP 0 rfl rfl 10 (by decide) (hts _ (List.mem_of_getElem? (i := 1) rfl)) (fun _ h9 => h9) rfl dX7_pour_36 ?_
    refine lv_iconst (v := 1) hx hb dX7_pour_39 (by decide) ?_
    refine xald (v := ((upd u_this_try0 (0) ((u_this_try0 0) - (p1 - v2))) 1)) hx hb hK hP 1 0 rfl rfl (xin_vp (by decide)) (congrArg _ (show (1 : Int32).toNatClampNeg = 1 by decide)) dX7_pour_40 ?_
    refine lv_iconst (v := 5) hx hb dX7_pour_41 (by decide) ?_
    refine lv_iload_n hx hb dX7_pour_42 rfl (lv_at hl 2 rfl) ?_
    refine lv_imul hx hb dX7_pour_43 ?_
    refine lv_iadd hx hb dX7_pour_44 ?_
    refine lv_istore_n (lv' := [(3, .int (((upd u_this_try0 (0) ((u_this_try0 0) - (p1 - v2))) 1) + ((5) * p1))), (2, .int v2), (0, .ref (x 0)), (1, .int p1)]) hx hb dX7_pour_45 rfl hl (by decide) rfl (fun ls hl => ?_)
    refine lv_aload_n hx hb dX7_pour_46 rfl (lv_at hl 2 rfl) ?_
    refine va_get (D := D) (ci := 7) (v := .ref (x 4)) (C := RX7) (T := TX7) (N := 30) hx hb hts (fun w h => List.mem_cons_of_mem _ (List.mem_append_right _ h)) hown hK hP 0 rfl rfl 10 (by decide) (hts _ (List.mem_of_getElem? (i := 1) rfl)) (fun _ h9 => h9) rfl dX7_pour_47 ?_
    refine lv_iconst (v := 1) hx hb dX7_pour_50 (by decide) ?_
    refine lv_iload_n hx hb dX7_pour_51 rfl (lv_at hl 0 rfl) ?_
    refine lv_bipush (v := 100) hx hb dX7_pour_52 (by decide) ?_
    refine lv_icmp_le (tgt := 62) hx hb dX7_pour_54 (by decide) (fun c3 => ?_) (fun c3 => ?_)
    · have hM := xit c3 hM
      refine lv_iload_n hx hb dX7_pour_62 rfl (lv_at hl 0 rfl) ?_
      refine xast hx hb hK hP hD hS 1 0 rfl rfl (xin_vp (by decide)) (show (1 : Int32).toNatClampNeg = 1 by decide) dX7_pour_63 (fun H locs hP hD hS => ?_)
      have hP : va_P D vwCl [((x 0), .inr (7, o7 x u_this)), ((x 4), .inl (T.1, 7, .inl (upd (upd u_this_try0 (0) ((u_this_try0 0) - (p1 - v2))) (1) (((upd u_this_try0 (0) ((u_this_try0 0) - (p1 - v2))) 1) + ((5) * p1)))))] H := hP
      have hD : va_D A [((x 0), .inr (7, o7 x u_this)), ((x 4), .inl (T.1, 7, .inl (upd (upd u_this_try0 (0) ((u_this_try0 0) - (p1 - v2))) (1) (((upd u_this_try0 (0) ((u_this_try0 0) - (p1 - v2))) 1) + ((5) * p1)))))] := hD
      refine lv_iload_n hx hb dX7_pour_64 rfl (lv_at hl 1 rfl) ?_
      obtain rfl := Option.some.inj hM
      exact xreti hx hb hr hlocks hP hK hD hS dX7_pour_65 rfl
    · have hM := xif c3 hM
      refine lv_bipush (v := 100) hx hb dX7_pour_57 (by decide) ?_
      refine lv_goto (tgt := 63) hx hb dX7_pour_59 (by decide) ?_
      refine xast hx hb hK hP hD hS 1 0 rfl rfl (xin_vp (by decide)) (show (1 : Int32).toNatClampNeg = 1 by decide) dX7_pour_63 (fun H locs hP hD hS => ?_)
      have hP : va_P D vwCl [((x 0), .inr (7, o7 x u_this)), ((x 4), .inl (T.1, 7, .inl (upd (upd u_this_try0 (0) ((u_this_try0 0) - (p1 - v2))) (1) (100))))] H := hP
      have hD : va_D A [((x 0), .inr (7, o7 x u_this)), ((x 4), .inl (T.1, 7, .inl (upd (upd u_this_try0 (0) ((u_this_try0 0) - (p1 - v2))) (1) (100))))] := hD
      refine lv_iload_n hx hb dX7_pour_64 rfl (lv_at hl 1 rfl) ?_
      obtain rfl := Option.some.inj hM
      exact xreti hx hb hr hlocks hP hK hD hS dX7_pour_65 rfl
  refine lv_icmp_le (tgt := 21) hx hb dX7_pour_7 (by decide) (fun c1 => ?_) (fun c1 => ?_)
  · have hM := xit c1 hM
    refine lv_iconst (v := 0) hx hb dX7_pour_21 (by decide) ?_
    obtain rfl := Option.some.inj hM
    exact Kv2 _ _ _ hP hD hS (lv_sub hl [0, 1] rfl)
  · have hM := xif c1 hM
    refine lv_iload_n hx hb dX7_pour_10 rfl (lv_at hl 1 rfl) ?_
    refine lv_aload_n hx hb dX7_pour_11 rfl (lv_at hl 0 rfl) ?_
    refine va_get (D := D) (ci := 7) (v := .ref (x 4)) (C := RX7) (T := TX7) (N := 30) hx hb hts (fun w h => List.mem_cons_of_mem _ (List.mem_append_right _ h)) hown hK hP 0 rfl rfl 10 (by decide) (hts _ (List.mem_of_getElem? (i := 1) rfl)) (fun _ h9 => h9) rfl dX7_pour_12 ?_
    refine lv_iconst (v := 0) hx hb dX7_pour_15 (by decide) ?_
    refine xald (v := (u_this_try0 0)) hx hb hK hP 1 0 rfl rfl (xin_vp (by decide)) (congrArg _ (show (0 : Int32).toNatClampNeg = 0 by decide)) dX7_pour_16 ?_
    refine lv_isub hx hb dX7_pour_17 ?_
    refine lv_goto (tgt := 22) hx hb dX7_pour_18 (by decide) ?_
    obtain rfl := Option.some.inj hM
    exact Kv2 _ _ _ hP hD hS (lv_sub hl [0, 1] rfl)
def f_X7_goHour (u_this : K7) (u_this_par : (Nat → Int32)) (u_this_try0 : (Nat → Int32)) : Option ((Nat → Int32)) :=
  (f_X7_depth u_this u_this_par u_this_try0).bind fun r1 =>
  (f_X7_air u_this u_this_par u_this_try0).bind fun r2 =>
  ((if (((u_this_try0 0) + (u_this_par 5)) + r2) ≤ r1 then
     (some (((u_this_try0 0) + (u_this_par 5)) + r2))
    else
     (some r1) : Option (Int32))).bind fun v4 =>
  ((if v4 ≤ (0) then
     (some (u_this_try0 1))
    else
     (some ((u_this_try0 1) - (10))) : Option (Int32))).bind fun v6 =>
  ((if (0) ≤ v6 then
     (some v6)
    else
     (some (0)) : Option (Int32))).bind fun v8 =>
  ((if (0) ≤ (((upd u_this_try0 (1) v8) 2) - (u_this_par 3)) then
     (some (((upd u_this_try0 (1) v8) 2) - (u_this_par 3)))
    else
     (some (0)) : Option (Int32))).bind fun v10 =>
  (f_X7_depth u_this u_this_par (upd (upd u_this_try0 (1) v8) (2) v10)).bind fun r11 =>
  ((if v4 ≤ r11 then
     (some v4)
    else
     ((f_X7_depth u_this u_this_par (upd (upd u_this_try0 (1) v8) (2) v10)).bind fun r13 =>
      some r13) : Option (Int32))).bind fun v14 =>
  some (upd (upd (upd (upd u_this_try0 (1) v8) (2) v10) (0) v14) (5) (((upd (upd (upd u_this_try0 (1) v8) (2) v10) (0) v14) 5) + (1)))
set_option maxHeartbeats 4000000 in
set_option maxRecDepth 100000 in
theorem c_X7_goHour (l : Launch) (D : va_G) (T : xT) (x : Nat → Nat) {sz : Nat} (u_this : K7) (u_this_par : (Nat → Int32)) (u_this_try0 : (Nat → Int32)) {rv : (Nat → Int32)} (hM : f_X7_goHour u_this u_this_par u_this_try0 = some rv) : Met l yX7_goHour wsX7_goHour ({ frames := 2, cells := 0, slots := 0, locals := 40 } : Room) (va_Pc [.ref (x 0)] (xPre D T [((x 0), .inr (7, o7 x u_this)), ((x 3), .inl (T.1, 11, .inl u_this_par)), ((x 4), .inl (T.1, 7, .inl u_this_try0))] sz xE0)) (va_Qv (fun (_ : Unit) => True) (fun _ => xPost D T [((x 0), .inr (7, o7 x u_this)), ((x 3), .inl (T.1, 11, .inl u_this_par)), ((x 4), .inl (T.1, 7, .inl rv))] (va_A [((x 0), .inr (7, o7 x u_this)), ((x 3), .inl (T.1, 11, .inl u_this_par)), ((x 4), .inl (T.1, 7, .inl u_this_try0))] sz)) (va_A [((x 0), .inr (7, o7 x u_this)), ((x 3), .inl (T.1, 11, .inl u_this_par)), ((x 4), .inl (T.1, 7, .inl u_this_try0))] sz)) 0 0 (va_A [((x 0), .inr (7, o7 x u_this)), ((x 3), .inl (T.1, 11, .inl u_this_par)), ((x 4), .inl (T.1, 7, .inl u_this_try0))] sz) := by
  refine xMet (av := [.ref (x 0)]) (Wd := [((x 0), .inr (7, o7 x u_this)), ((x 3), .inl (T.1, 11, .inl u_this_par)), ((x 4), .inl (T.1, 7, .inl u_this_try0))]) (E := xE0) (Qc := fun A => (va_Qv (fun (_ : Unit) => True) (fun _ => xPost D T [((x 0), .inr (7, o7 x u_this)), ((x 3), .inl (T.1, 11, .inl u_this_par)), ((x 4), .inl (T.1, 7, .inl rv))] A) A)) (cc := cX7_goHour) (maxL := 5) (ret := none) (by decide) rfl (Nat.le_of_ble_eq_true rfl) ?_
  intro p e s m below meth c A ls hx hb hr hml hts hown hlocks hnm hP hK hD hS hA hE hl
  have hown : s.vm.findClass RX7 = some m.cls := hown
  have hl : lv_has ls 5 [(0, .ref (x 0))] := hl
  unfold f_X7_goHour at hM
  refine lv_aload_n hx hb dX7_goHour_0 rfl (lv_at hl 0 rfl) ?_
  obtain ⟨r1, er1, hM⟩ := xbd hM
  refine xafti (rv := r1) (W2 := [((x 0), .inr (7, o7 x u_this)), ((x 3), .inl (T.1, 11, .inl u_this_par)), ((x 4), .inl (T.1, 7, .inl u_this_try0))]) (va_runV (As := []) (rest := []) ⟨hx, hb, hml, hown, hts⟩ (c_X7_depth l D T x u_this u_this_par u_this_try0 er1) (cwV 0 hts gX7_goHour_X7_depth rfl rfl rfl (by decide +kernel) ⟨Nat.le_of_ble_eq_true rfl, Nat.le_of_ble_eq_true rfl⟩) (xpvv hP hD hK [0, 1, 2] (by decide) rfl 0 7 rfl rfl (fun _ _ _ => trivial) (fun _ _ _ _ _ _ => trivial)) rfl rfl hl.1 rfl (lv_room (Nat.le_of_ble_eq_true rfl)) dX7_goHour_1 ⟨Nat.le_of_ble_eq_true rfl, Nat.le_of_ble_eq_true rfl⟩) hP hD hS hA [0, 1, 2] rfl rfl rfl rfl (fun H locs hP hD hS => ?_)
  refine lv_istore_n (lv' := [(1, .int r1), (0, .ref (x 0))]) hx hb dX7_goHour_4 rfl hl (by decide) rfl (fun ls hl => ?_)
  refine lv_aload_n hx hb dX7_goHour_5 rfl (lv_at hl 1 rfl) ?_
  refine va_get (D := D) (ci := 7) (v := .ref (x 4)) (C := RX7) (T := TX7) (N := 30) hx hb hts (fun w h => List.mem_cons_of_mem _ (List.mem_append_right _ h)) hown hK hP 0 rfl rfl 10 (by decide) (hts _ (List.mem_of_getElem? (i := 1) rfl)) (fun _ h9 => h9) rfl dX7_goHour_6 ?_
  refine lv_iconst (v := 0) hx hb dX7_goHour_9 (by decide) ?_
  refine xald (v := (u_this_try0 0)) hx hb hK hP 2 0 rfl rfl (xin_vp (by decide)) (congrArg _ (show (0 : Int32).toNatClampNeg = 0 by decide)) dX7_goHour_10 ?_
  refine lv_aload_n hx hb dX7_goHour_11 rfl (lv_at hl 1 rfl) ?_
  refine va_get (D := D) (ci := 7) (v := .ref (x 3)) (C := RX7) (T := TX7) (N := 30) hx hb hts (fun w h => List.mem_cons_of_mem _ (List.mem_append_right _ h)) hown hK hP 0 rfl rfl 9 (by decide) (hts _ (List.mem_of_getElem? (i := 2) rfl)) (fun _ h9 => h9) rfl dX7_goHour_12 ?_
  refine lv_iconst (v := 5) hx hb dX7_goHour_15 (by decide) ?_
  refine xald (v := (u_this_par 5)) hx hb hK hP 1 0 rfl rfl (xin_vp (by decide)) (congrArg _ (show (5 : Int32).toNatClampNeg = 5 by decide)) dX7_goHour_16 ?_
  refine lv_iadd hx hb dX7_goHour_17 ?_
  refine lv_aload_n hx hb dX7_goHour_18 rfl (lv_at hl 1 rfl) ?_
  obtain ⟨r2, er2, hM⟩ := xbd hM
  refine xafti (rv := r2) (W2 := [((x 0), .inr (7, o7 x u_this)), ((x 3), .inl (T.1, 11, .inl u_this_par)), ((x 4), .inl (T.1, 7, .inl u_this_try0))]) (va_runV (As := []) (rest := [.int ((u_this_try0 0) + (u_this_par 5))]) ⟨hx, hb, hml, hown, hts⟩ (c_X7_air l D T x u_this u_this_par u_this_try0 er2) (cwV 0 hts gX7_goHour_X7_air rfl rfl rfl (by decide +kernel) ⟨Nat.le_of_ble_eq_true rfl, Nat.le_of_ble_eq_true rfl⟩) (xpvv hP hD hK [0, 1, 2] (by decide) rfl 0 7 rfl rfl (fun _ _ _ => trivial) (fun _ _ _ _ _ _ => trivial)) rfl rfl hl.1 rfl (lv_room (Nat.le_of_ble_eq_true rfl)) dX7_goHour_19 ⟨Nat.le_of_ble_eq_true rfl, Nat.le_of_ble_eq_true rfl⟩) hP hD hS hA [0, 1, 2] rfl rfl rfl rfl (fun H locs hP hD hS => ?_)
  refine lv_iadd hx hb dX7_goHour_22 ?_
  refine lv_istore_n (lv' := [(2, .int (((u_this_try0 0) + (u_this_par 5)) + r2)), (1, .int r1), (0, .ref (x 0))]) hx hb dX7_goHour_23 rfl hl (by decide) rfl (fun ls hl => ?_)
  refine lv_iload_n hx hb dX7_goHour_24 rfl (lv_at hl 0 rfl) ?_
  refine lv_iload_n hx hb dX7_goHour_25 rfl (lv_at hl 1 rfl) ?_
  obtain ⟨v4, hM, hNv4⟩ := xbd hM
  have Kv4 : ∀ (H : Heap) (locs : List Loc) (ls : Array Slot), va_P D vwCl [((x 0), .inr (7, o7 x u_this)), ((x 3), .inl (T.1, 11, .inl u_this_par)), ((x 4), .inl (T.1, 7, .inl u_this_try0))] H → va_D A [((x 0), .inr (7, o7 x u_this)), ((x 3), .inl (T.1, 11, .inl u_this_par)), ((x 4), .inl (T.1, 7, .inl u_this_try0))] → va_S A s.heap H locs → lv_has ls 5 [(0, .ref (x 0))] → W p l e ({ frames := 2, cells := 0, slots := 0, locals := 40 } : Room) s m ([.ref (x 0)] : List Value).toArray below meth c H locs 0 0 (MQ below (va_Qv (fun (_ : Unit) => True) (fun _ => xPost D T [((x 0), .inr (7, o7 x u_this)), ((x 3), .inl (T.1, 11, .inl u_this_par)), ((x 4), .inl (T.1, 7, .inl rv))] A) A) ([.ref (x 0)] : List Value).toArray s 0 0 A) (F0 m 34 ls [.int v4]) := by
    intro H locs ls hP hD hS hl
    have hM := hNv4
    refine lv_istore_n (lv' := [(2, .int v4), (0, .ref (x 0))]) hx hb dX7_goHour_34 rfl hl (by decide) rfl (fun ls hl => ?_)
    refine lv_iload_n hx hb dX7_goHour_35 rfl (lv_at hl 0 rfl) ?_
    obtain ⟨v6, hM, hNv6⟩ := xbd hM
    have Kv6 : ∀ (H : Heap) (locs : List Loc) (ls : Array Slot), va_P D vwCl [((x 0), .inr (7, o7 x u_this)), ((x 3), .inl (T.1, 11, .inl u_this_par)), ((x 4), .inl (T.1, 7, .inl u_this_try0))] H → va_D A [((x 0), .inr (7, o7 x u_this)), ((x 3), .inl (T.1, 11, .inl u_this_par)), ((x 4), .inl (T.1, 7, .inl u_this_try0))] → va_S A s.heap H locs → lv_has ls 5 [(0, .ref (x 0)), (2, .int v4)] → W p l e ({ frames := 2, cells := 0, slots := 0, locals := 40 } : Room) s m ([.ref (x 0)] : List Value).toArray below meth c H locs 0 0 (MQ below (va_Qv (fun (_ : Unit) => True) (fun _ => xPost D T [((x 0), .inr (7, o7 x u_this)), ((x 3), .inl (T.1, 11, .inl u_this_par)), ((x 4), .inl (T.1, 7, .inl rv))] A) A) ([.ref (x 0)] : List Value).toArray s 0 0 A) (F0 m 57 ls [.int v6]) := by
      intro H locs ls hP hD hS hl
      have hM := hNv6
      refine lv_istore_n (lv' := [(3, .int v6), (0, .ref (x 0)), (2, .int v4)]) hx hb dX7_goHour_57 rfl hl (by decide) rfl (fun ls hl => ?_)
      refine lv_aload_n hx hb dX7_goHour_58 rfl (lv_at hl 1 rfl) ?_
      refine va_get (D := D) (ci := 7) (v := .ref (x 4)) (C := RX7) (T := TX7) (N := 30) hx hb hts (fun w h => List.mem_cons_of_mem _ (List.mem_append_right _ h)) hown hK hP 0 rfl rfl 10 (by decide) (hts _ (List.mem_of_getElem? (i := 1) rfl)) (fun _ h9 => h9) rfl dX7_goHour_59 ?_
      refine lv_iconst (v := 1) hx hb dX7_goHour_62 (by decide) ?_
      refine lv_iload_n hx hb dX7_goHour_63 rfl (lv_at hl 0 rfl) ?_
      obtain ⟨v8, hM, hNv8⟩ := xbd hM
      have Kv8 : ∀ (H : Heap) (locs : List Loc) (ls : Array Slot), va_P D vwCl [((x 0), .inr (7, o7 x u_this)), ((x 3), .inl (T.1, 11, .inl u_this_par)), ((x 4), .inl (T.1, 7, .inl u_this_try0))] H → va_D A [((x 0), .inr (7, o7 x u_this)), ((x 3), .inl (T.1, 11, .inl u_this_par)), ((x 4), .inl (T.1, 7, .inl u_this_try0))] → va_S A s.heap H locs → lv_has ls 5 [(0, .ref (x 0)), (2, .int v4)] → W p l e ({ frames := 2, cells := 0, slots := 0, locals := 40 } : Room) s m ([.ref (x 0)] : List Value).toArray below meth c H locs 0 0 (MQ below (va_Qv (fun (_ : Unit) => True) (fun _ => xPost D T [((x 0), .inr (7, o7 x u_this)), ((x 3), .inl (T.1, 11, .inl u_this_par)), ((x 4), .inl (T.1, 7, .inl rv))] A) A) ([.ref (x 0)] : List Value).toArray s 0 0 A) (F0 m 72 ls [.int v8, .int (1), .ref (x 4)]) := by
        intro H locs ls hP hD hS hl
        have hM := hNv8
        refine xast hx hb hK hP hD hS 2 0 rfl rfl (xin_vp (by decide)) (show (1 : Int32).toNatClampNeg = 1 by decide) dX7_goHour_72 (fun H locs hP hD hS => ?_)
        have hP : va_P D vwCl [((x 0), .inr (7, o7 x u_this)), ((x 3), .inl (T.1, 11, .inl u_this_par)), ((x 4), .inl (T.1, 7, .inl (upd u_this_try0 (1) v8)))] H := hP
        have hD : va_D A [((x 0), .inr (7, o7 x u_this)), ((x 3), .inl (T.1, 11, .inl u_this_par)), ((x 4), .inl (T.1, 7, .inl (upd u_this_try0 (1) v8)))] := hD
        refine lv_aload_n hx hb dX7_goHour_73 rfl (lv_at hl 0 rfl) ?_
        refine va_get (D := D) (ci := 7) (v := .ref (x 4)) (C := RX7) (T := TX7) (N := 30) hx hb hts (fun w h => List.mem_cons_of_mem _ (List.mem_append_right _ h)) hown hK hP 0 rfl rfl 10 (by decide) (hts _ (List.mem_of_getElem? (i := 1) rfl)) (fun _ h9 => h9) rfl dX7_goHour_74 ?_
        refine lv_iconst (v := 2) hx hb dX7_goHour_77 (by decide) ?_
        refine xald (v := ((upd u_this_try0 (1) v8) 2)) hx hb hK hP 2 0 rfl rfl (xin_vp (by decide)) (congrArg _ (show (2 : Int32).toNatClampNeg = 2 by decide)) dX7_goHour_78 ?_
        refine lv_aload_n hx hb dX7_goHour_79 rfl (lv_at hl 0 rfl) ?_
        refine va_get (D := D) (ci := 7) (v := .ref (x 3)) (C := RX7) (T := TX7) (N := 30) hx hb hts (fun w h => List.mem_cons_of_mem _ (List.mem_append_right _ h)) hown hK hP 0 rfl rfl 9 (by decide) (hts _ (List.mem_of_getElem? (i := 2) rfl)) (fun _ h9 => h9) rfl dX7_goHour_80 ?_
        refine lv_iconst (v := 3) hx hb dX7_goHour_83 (by decide) ?_
        refine xald (v := (u_this_par 3)) hx hb hK hP 1 0 rfl rfl (xin_vp (by decide)) (congrArg _ (show (3 : Int32).toNatClampNeg = 3 by decide)) dX7_goHour_84 ?_
        refine lv_isub hx hb dX7_goHour_85 ?_
        refine lv_istore (lv' := [(4, .int (((upd u_this_try0 (1) v8) 2) - (u_this_par 3))), (0, .ref (x 0)), (2, .int v4)]) hx hb dX7_goHour_86 hl (by decide) rfl (fun ls hl => ?_)
        refine lv_aload_n hx hb dX7_goHour_88 rfl (lv_at hl 1 rfl) ?_
        refine va_get (D := D) (ci := 7) (v := .ref (x 4)) (C := RX7) (T := TX7) (N := 30) hx hb hts (fun w h => List.mem_cons_of_mem _ (List.mem_append_right _ h)) hown hK hP 0 rfl rfl 10 (by decide) (hts _ (List.mem_of_getElem? (i := 1) rfl)) (fun _ h9 => h9) rfl dX7_goHour_89 ?_
        refine lv_iconst (v := 2) hx hb dX7_goHour_92 (by decide) ?_
        refine lv_iload hx hb dX7_goHour_93 (lv_at hl 0 rfl) ?_
        obtain ⟨v10, hM, hNv10⟩ := xbd hM
        have Kv10 : ∀ (H : Heap) (locs : List Loc) (ls : Array Slot), va_P D vwCl [((x 0), .inr (7, o7 x u_this)), ((x 3), .inl (T.1, 11, .inl u_this_par)), ((x 4), .inl (T.1, 7, .inl (upd u_this_try0 (1) v8)))] H → va_D A [((x 0), .inr (7, o7 x u_this)), ((x 3), .inl (T.1, 11, .inl u_this_par)), ((x 4), .inl (T.1, 7, .inl (upd u_this_try0 (1) v8)))] → va_S A s.heap H locs → lv_has ls 5 [(0, .ref (x 0)), (2, .int v4)] → W p l e ({ frames := 2, cells := 0, slots := 0, locals := 40 } : Room) s m ([.ref (x 0)] : List Value).toArray below meth c H locs 0 0 (MQ below (va_Qv (fun (_ : Unit) => True) (fun _ => xPost D T [((x 0), .inr (7, o7 x u_this)), ((x 3), .inl (T.1, 11, .inl u_this_par)), ((x 4), .inl (T.1, 7, .inl rv))] A) A) ([.ref (x 0)] : List Value).toArray s 0 0 A) (F0 m 104 ls [.int v10, .int (2), .ref (x 4)]) := by
          intro H locs ls hP hD hS hl
          have hM := hNv10
          refine xast hx hb hK hP hD hS 2 0 rfl rfl (xin_vp (by decide)) (show (2 : Int32).toNatClampNeg = 2 by decide) dX7_goHour_104 (fun H locs hP hD hS => ?_)
          have hP : va_P D vwCl [((x 0), .inr (7, o7 x u_this)), ((x 3), .inl (T.1, 11, .inl u_this_par)), ((x 4), .inl (T.1, 7, .inl (upd (upd u_this_try0 (1) v8) (2) v10)))] H := hP
          have hD : va_D A [((x 0), .inr (7, o7 x u_this)), ((x 3), .inl (T.1, 11, .inl u_this_par)), ((x 4), .inl (T.1, 7, .inl (upd (upd u_this_try0 (1) v8) (2) v10)))] := hD
          refine lv_aload_n hx hb dX7_goHour_105 rfl (lv_at hl 0 rfl) ?_
          refine va_get (D := D) (ci := 7) (v := .ref (x 4)) (C := RX7) (T := TX7) (N := 30) hx hb hts (fun w h => List.mem_cons_of_mem _ (List.mem_append_right _ h)) hown hK hP 0 rfl rfl 10 (by decide) (hts _ (List.mem_of_getElem? (i := 1) rfl)) (fun _ h9 => h9) rfl dX7_goHour_106 ?_
          refine lv_iconst (v := 0) hx hb dX7_goHour_109 (by decide) ?_
          refine lv_iload_n hx hb dX7_goHour_110 rfl (lv_at hl 1 rfl) ?_
          refine lv_aload_n hx hb dX7_goHour_111 rfl (lv_at hl 0 rfl) ?_
          obtain ⟨r11, er11, hM⟩ := xbd hM
          refine xafti (rv := r11) (W2 := [((x 0), .inr (7, o7 x u_this)), ((x 3), .inl (T.1, 11, .inl u_this_par)), ((x 4), .inl (T.1, 7, .inl (upd (upd u_this_try0 (1) v8) (2) v10)))]) (va_runV (As := []) (rest := [.int v4, .int (0), .ref (x 4)]) ⟨hx, hb, hml, hown, hts⟩ (c_X7_depth l D T x u_this u_this_par (upd (upd u_this_try0 (1) v8) (2) v10) er11) (cwV 0 hts gX7_goHour_X7_depth rfl rfl rfl (by decide +kernel) ⟨Nat.le_of_ble_eq_true rfl, Nat.le_of_ble_eq_true rfl⟩) (xpvv hP hD hK [0, 1, 2] (by decide) rfl 0 7 rfl rfl (fun _ _ _ => trivial) (fun _ _ _ _ _ _ => trivial)) rfl rfl hl.1 rfl (lv_room (Nat.le_of_ble_eq_true rfl)) dX7_goHour_112 ⟨Nat.le_of_ble_eq_true rfl, Nat.le_of_ble_eq_true rfl⟩) hP hD hS hA [0, 1, 2] rfl rfl rfl rfl (fun H locs hP hD hS => ?_)
          obtain ⟨v14, hM, hNv14⟩ := xbd hM
          have Kv14 : ∀ (H : Heap) (locs : List Loc) (ls : Array Slot), va_P D vwCl [((x 0), .inr (7, o7 x u_this)), ((x 3), .inl (T.1, 11, .inl u_this_par)), ((x 4), .inl (T.1, 7, .inl (upd (upd u_this_try0 (1) v8) (2) v10)))] H → va_D A [((x 0), .inr (7, o7 x u_this)), ((x 3), .inl (T.1, 11, .inl u_this_par)), ((x 4), .inl (T.1, 7, .inl (upd (upd u_this_try0 (1) v8) (2) v10)))] → va_S A s.heap H locs → lv_has ls 5 [(0, .ref (x 0))] → W p l e ({ frames := 2, cells := 0, slots := 0, locals := 40 } : Room) s m ([.ref (x 0)] : List Value).toArray below meth c H locs 0 0 (MQ below (va_Qv (fun (_ : Unit) => True) (fun _ => xPost D T [((x 0), .inr (7, o7 x u_this)), ((x 3), .inl (T.1, 11, .inl u_this_par)), ((x 4), .inl (T.1, 7, .inl rv))] A) A) ([.ref (x 0)] : List Value).toArray s 0 0 A) (F0 m 126 ls [.int v14, .int (0), .ref (x 4)]) := by
            intro H locs ls hP hD hS hl
            have hM := hNv14
            refine xast hx hb hK hP hD hS 2 0 rfl rfl (xin_vp (by decide)) (show (0 : Int32).toNatClampNeg = 0 by decide) dX7_goHour_126 (fun H locs hP hD hS => ?_)
            have hP : va_P D vwCl [((x 0), .inr (7, o7 x u_this)), ((x 3), .inl (T.1, 11, .inl u_this_par)), ((x 4), .inl (T.1, 7, .inl (upd (upd (upd u_this_try0 (1) v8) (2) v10) (0) v14)))] H := hP
            have hD : va_D A [((x 0), .inr (7, o7 x u_this)), ((x 3), .inl (T.1, 11, .inl u_this_par)), ((x 4), .inl (T.1, 7, .inl (upd (upd (upd u_this_try0 (1) v8) (2) v10) (0) v14)))] := hD
            refine lv_aload_n hx hb dX7_goHour_127 rfl (lv_at hl 0 rfl) ?_
            refine va_get (D := D) (ci := 7) (v := .ref (x 4)) (C := RX7) (T := TX7) (N := 30) hx hb hts (fun w h => List.mem_cons_of_mem _ (List.mem_append_right _ h)) hown hK hP 0 rfl rfl 10 (by decide) (hts _ (List.mem_of_getElem? (i := 1) rfl)) (fun _ h9 => h9) rfl dX7_goHour_128 ?_
            refine lv_iconst (v := 5) hx hb dX7_goHour_131 (by decide) ?_
            refine lv_dup2_11 hx hb dX7_goHour_132 rfl rfl ?_
            refine xald (v := ((upd (upd (upd u_this_try0 (1) v8) (2) v10) (0) v14) 5)) hx hb hK hP 2 0 rfl rfl (xin_vp (by decide)) (congrArg _ (show (5 : Int32).toNatClampNeg = 5 by decide)) dX7_goHour_133 ?_
            refine lv_iconst (v := 1) hx hb dX7_goHour_134 (by decide) ?_
            refine lv_iadd hx hb dX7_goHour_135 ?_
            refine xast hx hb hK hP hD hS 2 0 rfl rfl (xin_vp (by decide)) (show (5 : Int32).toNatClampNeg = 5 by decide) dX7_goHour_136 (fun H locs hP hD hS => ?_)
            have hP : va_P D vwCl [((x 0), .inr (7, o7 x u_this)), ((x 3), .inl (T.1, 11, .inl u_this_par)), ((x 4), .inl (T.1, 7, .inl (upd (upd (upd (upd u_this_try0 (1) v8) (2) v10) (0) v14) (5) (((upd (upd (upd u_this_try0 (1) v8) (2) v10) (0) v14) 5) + (1)))))] H := hP
            have hD : va_D A [((x 0), .inr (7, o7 x u_this)), ((x 3), .inl (T.1, 11, .inl u_this_par)), ((x 4), .inl (T.1, 7, .inl (upd (upd (upd (upd u_this_try0 (1) v8) (2) v10) (0) v14) (5) (((upd (upd (upd u_this_try0 (1) v8) (2) v10) (0) v14) 5) + (1)))))] := hD
            obtain rfl := Option.some.inj hM
            exact xretv hx hb hr hlocks hP hK hD hS dX7_goHour_137
          refine lv_icmp_le (tgt := 125) hx hb dX7_goHour_115 (by decide) (fun c12 => ?_) (fun c12 => ?_)
          · have hM := xit c12 hM
            refine lv_iload_n hx hb dX7_goHour_125 rfl (lv_at hl 1 rfl) ?_
            obtain rfl := Option.some.inj hM
            exact Kv14 _ _ _ hP hD hS (lv_sub hl [0] rfl)
          · have hM := xif c12 hM
            refine lv_aload_n hx hb dX7_goHour_118 rfl (lv_at hl 0 rfl) ?_
            obtain ⟨r13, er13, hM⟩ := xbd hM
            refine xafti (rv := r13) (W2 := [((x 0), .inr (7, o7 x u_this)), ((x 3), .inl (T.1, 11, .inl u_this_par)), ((x 4), .inl (T.1, 7, .inl (upd (upd u_this_try0 (1) v8) (2) v10)))]) (va_runV (As := []) (rest := [.int (0), .ref (x 4)]) ⟨hx, hb, hml, hown, hts⟩ (c_X7_depth l D T x u_this u_this_par (upd (upd u_this_try0 (1) v8) (2) v10) er13) (cwV 0 hts gX7_goHour_X7_depth rfl rfl rfl (by decide +kernel) ⟨Nat.le_of_ble_eq_true rfl, Nat.le_of_ble_eq_true rfl⟩) (xpvv hP hD hK [0, 1, 2] (by decide) rfl 0 7 rfl rfl (fun _ _ _ => trivial) (fun _ _ _ _ _ _ => trivial)) rfl rfl hl.1 rfl (lv_room (Nat.le_of_ble_eq_true rfl)) dX7_goHour_119 ⟨Nat.le_of_ble_eq_true rfl, Nat.le_of_ble_eq_true rfl⟩) hP hD hS hA [0, 1, 2] rfl rfl rfl rfl (fun H locs hP hD hS => ?_)
            refine lv_goto (tgt := 126) hx hb dX7_goHour_122 (by decide) ?_
            obtain rfl := Option.some.inj hM
            exact Kv14 _ _ _ hP hD hS (lv_sub hl [0] rfl)
        refine lv_if_ge (tgt := 102) hx hb dX7_goHour_95 (by decide) (fun c9 => ?_) (fun c9 => ?_)
        · have hM := xit c9 hM
          refine lv_iload hx hb dX7_goHour_102 (lv_at hl 0 rfl) ?_
          obtain rfl := Option.some.inj hM
          exact Kv10 _ _ _ hP hD hS (lv_sub hl [1, 2] rfl)
        · have hM := xif c9 hM
          refine lv_iconst (v := 0) hx hb dX7_goHour_98 (by decide) ?_
          refine lv_goto (tgt := 104) hx hb dX7_goHour_99 (by decide) ?_
          obtain rfl := Option.some.inj hM
          exact Kv10 _ _ _ hP hD hS (lv_sub hl [1, 2] rfl)
      refine lv_if_ge (tgt := 71) hx hb dX7_goHour_64 (by decide) (fun c7 => ?_) (fun c7 => ?_)
      · have hM := xit c7 hM
        refine lv_iload_n hx hb dX7_goHour_71 rfl (lv_at hl 0 rfl) ?_
        obtain rfl := Option.some.inj hM
        exact Kv8 _ _ _ hP hD hS (lv_sub hl [1, 2] rfl)
      · have hM := xif c7 hM
        refine lv_iconst (v := 0) hx hb dX7_goHour_67 (by decide) ?_
        refine lv_goto (tgt := 72) hx hb dX7_goHour_68 (by decide) ?_
        obtain rfl := Option.some.inj hM
        exact Kv8 _ _ _ hP hD hS (lv_sub hl [1, 2] rfl)
    refine lv_if_le (tgt := 51) hx hb dX7_goHour_36 (by decide) (fun c5 => ?_) (fun c5 => ?_)
    · have hM := xit c5 hM
      refine lv_aload_n hx hb dX7_goHour_51 rfl (lv_at hl 1 rfl) ?_
      refine va_get (D := D) (ci := 7) (v := .ref (x 4)) (C := RX7) (T := TX7) (N := 30) hx hb hts (fun w h => List.mem_cons_of_mem _ (List.mem_append_right _ h)) hown hK hP 0 rfl rfl 10 (by decide) (hts _ (List.mem_of_getElem? (i := 1) rfl)) (fun _ h9 => h9) rfl dX7_goHour_52 ?_
      refine lv_iconst (v := 1) hx hb dX7_goHour_55 (by decide) ?_
      refine xald (v := (u_this_try0 1)) hx hb hK hP 2 0 rfl rfl (xin_vp (by decide)) (congrArg _ (show (1 : Int32).toNatClampNeg = 1 by decide)) dX7_goHour_56 ?_
      obtain rfl := Option.some.inj hM
      exact Kv6 _ _ _ hP hD hS (lv_sub hl [1, 0] rfl)
    · have hM := xif c5 hM
      refine lv_aload_n hx hb dX7_goHour_39 rfl (lv_at hl 1 rfl) ?_
      refine va_get (D := D) (ci := 7) (v := .ref (x 4)) (C := RX7) (T := TX7) (N := 30) hx hb hts (fun w h => List.mem_cons_of_mem _ (List.mem_append_right _ h)) hown hK hP 0 rfl rfl 10 (by decide) (hts _ (List.mem_of_getElem? (i := 1) rfl)) (fun _ h9 => h9) rfl dX7_goHour_40 ?_
      refine lv_iconst (v := 1) hx hb dX7_goHour_43 (by decide) ?_
      refine xald (v := (u_this_try0 1)) hx hb hK hP 2 0 rfl rfl (xin_vp (by decide)) (congrArg _ (show (1 : Int32).toNatClampNeg = 1 by decide)) dX7_goHour_44 ?_
      refine lv_bipush (v := 10) hx hb dX7_goHour_45 (by decide) ?_
      refine lv_isub hx hb dX7_goHour_47 ?_
      refine lv_goto (tgt := 57) hx hb dX7_goHour_48 (by decide) ?_
      obtain rfl := Option.some.inj hM
      exact Kv6 _ _ _ hP hD hS (lv_sub hl [1, 0] rfl)
  refine lv_icmp_le (tgt := 33) hx hb dX7_goHour_26 (by decide) (fun c3 => ?_) (fun c3 => ?_)
  · have hM := xit c3 hM
    refine lv_iload_n hx hb dX7_goHour_33 rfl (lv_at hl 0 rfl) ?_
    obtain rfl := Option.some.inj hM
    exact Kv4 _ _ _ hP hD hS (lv_sub hl [2] rfl)
  · have hM := xif c3 hM
    refine lv_iload_n hx hb dX7_goHour_29 rfl (lv_at hl 1 rfl) ?_
    refine lv_goto (tgt := 34) hx hb dX7_goHour_30 (by decide) ?_
    obtain rfl := Option.some.inj hM
    exact Kv4 _ _ _ hP hD hS (lv_sub hl [2] rfl)
def s_X7_strokesUntil_2 (u_this : K7) (u_this_par : (Nat → Int32)) (v1 : Int32 × (Nat → Int32)) : Option ((Int32 × (Nat → Int32)) ⊕ (Int32 × (Nat → Int32))) :=
  if (200) < v1.1 then
   (some (.inr ((-9), v1.2)))
  else
   ((f_X7_stroke u_this u_this_par v1.2).bind fun r3 =>
    if r3.1 ≤ (0) then
     (some (.inl (v1.1 + 1, r3.2)))
    else
     (some (.inr (v1.1, r3.2))))
def f_X7_strokesUntil (N : Nat) (u_this : K7) (u_this_par : (Nat → Int32)) (u_this_try0 : (Nat → Int32)) : Option (Int32 × (Nat → Int32)) :=
  xlp (s_X7_strokesUntil_2 u_this u_this_par) N (1, u_this_try0)
set_option maxHeartbeats 4000000 in
set_option maxRecDepth 100000 in
theorem c_X7_strokesUntil (l : Launch) (D : va_G) (T : xT) (x : Nat → Nat) {sz : Nat} {N : Nat} (u_this : K7) (u_this_par : (Nat → Int32)) (u_this_try0 : (Nat → Int32)) {rv : Int32 × (Nat → Int32)} (hM : f_X7_strokesUntil N u_this u_this_par u_this_try0 = some rv) : Met l yX7_strokesUntil wsX7_strokesUntil ({ frames := 4, cells := 0, slots := 0, locals := 87 } : Room) (va_Pc [.ref (x 0)] (xPre D T [((x 0), .inr (7, o7 x u_this)), ((x 3), .inl (T.1, 11, .inl u_this_par)), ((x 4), .inl (T.1, 7, .inl u_this_try0))] sz xE0)) (va_Qi (fun (r : Int32) (_ : Unit) => r = rv.1) (fun _ => xPost D T [((x 0), .inr (7, o7 x u_this)), ((x 3), .inl (T.1, 11, .inl u_this_par)), ((x 4), .inl (T.1, 7, .inl rv.2))] (va_A [((x 0), .inr (7, o7 x u_this)), ((x 3), .inl (T.1, 11, .inl u_this_par)), ((x 4), .inl (T.1, 7, .inl u_this_try0))] sz)) (va_A [((x 0), .inr (7, o7 x u_this)), ((x 3), .inl (T.1, 11, .inl u_this_par)), ((x 4), .inl (T.1, 7, .inl u_this_try0))] sz)) 0 0 (va_A [((x 0), .inr (7, o7 x u_this)), ((x 3), .inl (T.1, 11, .inl u_this_par)), ((x 4), .inl (T.1, 7, .inl u_this_try0))] sz) := by
  refine xMet (av := [.ref (x 0)]) (Wd := [((x 0), .inr (7, o7 x u_this)), ((x 3), .inl (T.1, 11, .inl u_this_par)), ((x 4), .inl (T.1, 7, .inl u_this_try0))]) (E := xE0) (Qc := fun A => (va_Qi (fun (r : Int32) (_ : Unit) => r = rv.1) (fun _ => xPost D T [((x 0), .inr (7, o7 x u_this)), ((x 3), .inl (T.1, 11, .inl u_this_par)), ((x 4), .inl (T.1, 7, .inl rv.2))] A) A)) (cc := cX7_strokesUntil) (maxL := 2) (ret := (some .int)) (by decide) rfl (Nat.le_of_ble_eq_true rfl) ?_
  intro p e s m below meth c A ls hx hb hr hml hts hown hlocks hnm hP hK hD hS hA hE hl
  have hown : s.vm.findClass RX7 = some m.cls := hown
  have hl : lv_has ls 2 [(0, .ref (x 0))] := hl
  unfold f_X7_strokesUntil at hM
  refine lv_iconst (v := 1) hx hb dX7_strokesUntil_0 (by decide) ?_
  refine lv_istore_n (lv' := [(1, .int (1)), (0, .ref (x 0))]) hx hb dX7_strokesUntil_1 rfl hl (by decide) rfl (fun ls hl => ?_)
  have Lv1 : ∀ (n : Nat) (v1 : Int32 × (Nat → Int32)), xlp (s_X7_strokesUntil_2 u_this u_this_par) n v1 = some rv → ∀ (H : Heap) (locs : List Loc) (ls : Array Slot), va_P D vwCl [((x 0), .inr (7, o7 x u_this)), ((x 3), .inl (T.1, 11, .inl u_this_par)), ((x 4), .inl (T.1, 7, .inl v1.2))] H → va_D A [((x 0), .inr (7, o7 x u_this)), ((x 3), .inl (T.1, 11, .inl u_this_par)), ((x 4), .inl (T.1, 7, .inl v1.2))] → va_S A s.heap H locs → lv_has ls 2 [(0, .ref (x 0)), (1, .int v1.1)] → W p l e ({ frames := 4, cells := 0, slots := 0, locals := 87 } : Room) s m ([.ref (x 0)] : List Value).toArray below meth c H locs 0 0 (MQ below (va_Qi (fun (r : Int32) (_ : Unit) => r = rv.1) (fun _ => xPost D T [((x 0), .inr (7, o7 x u_this)), ((x 3), .inl (T.1, 11, .inl u_this_par)), ((x 4), .inl (T.1, 7, .inl rv.2))] A) A) ([.ref (x 0)] : List Value).toArray s 0 0 A) (F0 m 2 ls []) := by
    intro n
    induction n with
    | zero => exact fun _ h => (xlp_0 h).elim
    | succ n ih =>
      intro v1 hM H locs ls hP hD hS hl
      obtain ⟨z, hM, hz1, hz2⟩ := xlp_s hM
      unfold s_X7_strokesUntil_2 at hM
      refine lv_iload_n hx hb dX7_strokesUntil_2 rfl (lv_at hl 1 rfl) ?_
      refine lv_sipush (v := 200) hx hb dX7_strokesUntil_3 (by decide) ?_
      refine lv_icmp_gt (tgt := 24) hx hb dX7_strokesUntil_6 (by decide) (fun c2 => ?_) (fun c2 => ?_)
      · have hM := xit c2 hM
        refine lv_bipush (v := (-9)) hx hb dX7_strokesUntil_24 (by decide) ?_
        obtain rfl := hz2 _ (Option.some.inj hM).symm
        exact xreti hx hb hr hlocks hP hK hD hS dX7_strokesUntil_26 rfl
      · have hM := xif c2 hM
        refine lv_aload_n hx hb dX7_strokesUntil_9 rfl (lv_at hl 0 rfl) ?_
        obtain ⟨r3, er3, hM⟩ := xbd hM
        refine xafti (rv := r3.1) (W2 := [((x 0), .inr (7, o7 x u_this)), ((x 3), .inl (T.1, 11, .inl u_this_par)), ((x 4), .inl (T.1, 7, .inl r3.2))]) (va_runV (As := []) (rest := []) ⟨hx, hb, hml, hown, hts⟩ (c_X7_stroke l D T x u_this u_this_par v1.2 er3) (cwV 0 hts gX7_strokesUntil_X7_stroke rfl rfl rfl (by decide +kernel) ⟨Nat.le_of_ble_eq_true rfl, Nat.le_of_ble_eq_true rfl⟩) (xpvv hP hD hK [0, 1, 2] (by decide) rfl 0 7 rfl rfl (fun _ _ _ => trivial) (fun _ _ _ _ _ _ => trivial)) rfl rfl hl.1 rfl (lv_room (Nat.le_of_ble_eq_true rfl)) dX7_strokesUntil_10 ⟨Nat.le_of_ble_eq_true rfl, Nat.le_of_ble_eq_true rfl⟩) hP hD hS hA [0, 1, 2] rfl rfl rfl rfl (fun H locs hP hD hS => ?_)
        refine lv_if_le (tgt := 18) hx hb dX7_strokesUntil_13 (by decide) (fun c4 => ?_) (fun c4 => ?_)
        · have hM := xit c4 hM
          refine lv_iinc (v := v1.1 + 1) (lv' := [(1, .int (v1.1 + 1)), (0, .ref (x 0))]) hx hb dX7_strokesUntil_18 hl (k := 1) rfl rfl (by decide) rfl (fun ls hl => ?_)
          refine lv_goto (tgt := 2) hx hb dX7_strokesUntil_21 (by decide) ?_
          exact ih _ (hz1 _ (Option.some.inj hM).symm) _ _ _ hP hD hS (lv_sub hl [1, 0] rfl)
        · have hM := xif c4 hM
          refine lv_iload_n hx hb dX7_strokesUntil_16 rfl (lv_at hl 1 rfl) ?_
          obtain rfl := hz2 _ (Option.some.inj hM).symm
          exact xreti hx hb hr hlocks hP hK hD hS dX7_strokesUntil_17 rfl
  exact Lv1 _ _ hM _ _ _ hP hD hS (lv_sub hl [1, 0] rfl)
def s_X7_strokes_21 (u_this : K7) (p1 : Int32) (r2 : (Nat → Int32) × (Nat → Int32)) (v3 : Int32 × Int32 × (Nat → Int32)) : Option ((Int32 × Int32 × (Nat → Int32)) ⊕ (Int32 × Int32 × (Nat → Int32))) :=
  if p1 ≤ v3.2.1 then
   (some (.inr (v3.1, v3.2.1, v3.2.2)))
  else
   ((f_X7_stroke u_this r2.1 v3.2.2).bind fun r5 =>
    some (.inl ((v3.1 + r5.1), v3.2.1 + 1, r5.2)))
def f_X7_strokes (N : Nat) (u_this : K7) (u_this_told : (Nat → Int32)) (u_this_par : (Nat → Int32)) (u_this_try0 : (Nat → Int32)) (u_this_nows : (Nat → Int32)) (p1 : Int32) : Option (Int32 × (Nat → Int32) × (Nat → Int32) × (Nat → Int32)) :=
  if (f_X7_in p1 (1) (200)) = (0) then
   (some ((-1), u_this_par, u_this_try0, u_this_nows))
  else
   ((f_X7_takeNow N u_this u_this_told u_this_par u_this_try0 u_this_nows).bind fun r2 =>
    (xlp (s_X7_strokes_21 u_this p1 r2) N (0, 0, r2.2)).bind fun v6 =>
    (f_X7_giveNow N u_this v6.2.2 u_this_nows).bind fun r7 =>
    some (v6.1, r2.1, v6.2.2, r7))
set_option maxHeartbeats 4000000 in
set_option maxRecDepth 100000 in
theorem c_X7_strokes (l : Launch) (D : va_G) (T : xT) (x : Nat → Nat) {sz : Nat} {N : Nat} (u_this : K7) (u_this_told : (Nat → Int32)) (u_this_par : (Nat → Int32)) (u_this_try0 : (Nat → Int32)) (u_this_nows : (Nat → Int32)) (p1 : Int32) {rv : Int32 × (Nat → Int32) × (Nat → Int32) × (Nat → Int32)} (hM : f_X7_strokes N u_this u_this_told u_this_par u_this_try0 u_this_nows p1 = some rv) : Met l yX7_strokes wsX7_strokes ({ frames := 4, cells := 0, slots := 0, locals := 87 } : Room) (va_Pc [.ref (x 0), .int p1] (xPre D T [((x 0), .inr (7, o7 x u_this)), ((x 2), .inl (T.1, 22, .inl u_this_told)), ((x 3), .inl (T.1, 11, .inl u_this_par)), ((x 4), .inl (T.1, 7, .inl u_this_try0)), ((x 5), .inl (T.1, 21, .inl u_this_nows))] sz xE0)) (va_Qi (fun (r : Int32) (_ : Unit) => r = rv.1) (fun _ => xPost D T [((x 0), .inr (7, o7 x u_this)), ((x 2), .inl (T.1, 22, .inl u_this_told)), ((x 3), .inl (T.1, 11, .inl rv.2.1)), ((x 4), .inl (T.1, 7, .inl rv.2.2.1)), ((x 5), .inl (T.1, 21, .inl rv.2.2.2))] (va_A [((x 0), .inr (7, o7 x u_this)), ((x 2), .inl (T.1, 22, .inl u_this_told)), ((x 3), .inl (T.1, 11, .inl u_this_par)), ((x 4), .inl (T.1, 7, .inl u_this_try0)), ((x 5), .inl (T.1, 21, .inl u_this_nows))] sz)) (va_A [((x 0), .inr (7, o7 x u_this)), ((x 2), .inl (T.1, 22, .inl u_this_told)), ((x 3), .inl (T.1, 11, .inl u_this_par)), ((x 4), .inl (T.1, 7, .inl u_this_try0)), ((x 5), .inl (T.1, 21, .inl u_this_nows))] sz)) 0 0 (va_A [((x 0), .inr (7, o7 x u_this)), ((x 2), .inl (T.1, 22, .inl u_this_told)), ((x 3), .inl (T.1, 11, .inl u_this_par)), ((x 4), .inl (T.1, 7, .inl u_this_try0)), ((x 5), .inl (T.1, 21, .inl u_this_nows))] sz) := by
  refine xMet (av := [.ref (x 0), .int p1]) (Wd := [((x 0), .inr (7, o7 x u_this)), ((x 2), .inl (T.1, 22, .inl u_this_told)), ((x 3), .inl (T.1, 11, .inl u_this_par)), ((x 4), .inl (T.1, 7, .inl u_this_try0)), ((x 5), .inl (T.1, 21, .inl u_this_nows))]) (E := xE0) (Qc := fun A => (va_Qi (fun (r : Int32) (_ : Unit) => r = rv.1) (fun _ => xPost D T [((x 0), .inr (7, o7 x u_this)), ((x 2), .inl (T.1, 22, .inl u_this_told)), ((x 3), .inl (T.1, 11, .inl rv.2.1)), ((x 4), .inl (T.1, 7, .inl rv.2.2.1)), ((x 5), .inl (T.1, 21, .inl rv.2.2.2))] A) A)) (cc := cX7_strokes) (maxL := 4) (ret := (some .int)) (by decide) rfl (Nat.le_of_ble_eq_true rfl) ?_
  intro p e s m below meth c A ls hx hb hr hml hts hown hlocks hnm hP hK hD hS hA hE hl
  have hown : s.vm.findClass RX7 = some m.cls := hown
  have hl : lv_has ls 4 [(0, .ref (x 0)), (1, .int p1)] := hl
  unfold f_X7_strokes at hM
  refine lv_iload_n hx hb dX7_strokes_0 rfl (lv_at hl 1 rfl) ?_
  refine lv_iconst (v := 1) hx hb dX7_strokes_1 (by decide) ?_
  refine lv_sipush (v := 200) hx hb dX7_strokes_2 (by decide) ?_
  refine xafti (rv := (f_X7_in p1 (1) (200))) (W2 := [((x 0), .inr (7, o7 x u_this)), ((x 2), .inl (T.1, 22, .inl u_this_told)), ((x 3), .inl (T.1, 11, .inl u_this_par)), ((x 4), .inl (T.1, 7, .inl u_this_try0)), ((x 5), .inl (T.1, 21, .inl u_this_nows))]) (va_runS (As := [.int p1, .int (1), .int (200)]) (rest := []) ⟨hx, hb, hml, hown, hts⟩ (c_X7_in (rv := (f_X7_in p1 (1) (200))) l D T p1 (1) (200) rfl) (cwS 3 hts gX7_strokes_X7_in rfl rfl rfl (by decide +kernel) ⟨Nat.le_of_ble_eq_true rfl, Nat.le_of_ble_eq_true rfl⟩) (xpvs hP hD hK [] (by decide) rfl (fun _ _ _ => trivial) (fun _ _ _ _ _ _ => trivial)) rfl rfl hl.1 rfl (lv_room (Nat.le_of_ble_eq_true rfl)) dX7_strokes_5 ⟨Nat.le_of_ble_eq_true rfl, Nat.le_of_ble_eq_true rfl⟩) hP hD hS hA [] rfl rfl rfl rfl (fun H locs hP hD hS => ?_)
  refine lv_if_ne (tgt := 13) hx hb dX7_strokes_8 (by decide) (fun c1 => ?_) (fun c1 => ?_)
  · have hM := xif c1 hM
    refine lv_aload_n hx hb dX7_strokes_13 rfl (lv_at hl 0 rfl) ?_
    obtain ⟨r2, er2, hM⟩ := xbd hM
    refine xaftv (W2 := [((x 0), .inr (7, o7 x u_this)), ((x 2), .inl (T.1, 22, .inl u_this_told)), ((x 3), .inl (T.1, 11, .inl r2.1)), ((x 4), .inl (T.1, 7, .inl r2.2)), ((x 5), .inl (T.1, 21, .inl u_this_nows))]) (va_runV (As := []) (rest := []) ⟨hx, hb, hml, hown, hts⟩ (c_X7_takeNow l D T x u_this u_this_told u_this_par u_this_try0 u_this_nows er2) (cwV 0 hts gX7_strokes_X7_takeNow rfl rfl rfl (by decide +kernel) ⟨Nat.le_of_ble_eq_true rfl, Nat.le_of_ble_eq_true rfl⟩) (xpvv hP hD hK [0, 1, 2, 3, 4] (by decide) rfl 0 7 rfl rfl (fun _ _ _ => trivial) (fun _ _ _ _ _ _ => trivial)) rfl rfl hl.1 rfl (lv_room (Nat.le_of_ble_eq_true rfl)) dX7_strokes_14 ⟨Nat.le_of_ble_eq_true rfl, Nat.le_of_ble_eq_true rfl⟩) hP hD hS hA [0, 1, 2, 3, 4] rfl rfl rfl rfl (fun H locs hP hD hS => ?_)
    refine lv_iconst (v := 0) hx hb dX7_strokes_17 (by decide) ?_
    refine lv_istore_n (lv' := [(2, .int (0)), (0, .ref (x 0)), (1, .int p1)]) hx hb dX7_strokes_18 rfl hl (by decide) rfl (fun ls hl => ?_)
    refine lv_iconst (v := 0) hx hb dX7_strokes_19 (by decide) ?_
    refine lv_istore_n (lv' := [(3, .int (0)), (2, .int (0)), (0, .ref (x 0)), (1, .int p1)]) hx hb dX7_strokes_20 rfl hl (by decide) rfl (fun ls hl => ?_)
    obtain ⟨v6, hM, hNv6⟩ := xbd hM
    have hQv6 := hM
    have Kv6 : ∀ (H : Heap) (locs : List Loc) (ls : Array Slot), va_P D vwCl [((x 0), .inr (7, o7 x u_this)), ((x 2), .inl (T.1, 22, .inl u_this_told)), ((x 3), .inl (T.1, 11, .inl r2.1)), ((x 4), .inl (T.1, 7, .inl v6.2.2)), ((x 5), .inl (T.1, 21, .inl u_this_nows))] H → va_D A [((x 0), .inr (7, o7 x u_this)), ((x 2), .inl (T.1, 22, .inl u_this_told)), ((x 3), .inl (T.1, 11, .inl r2.1)), ((x 4), .inl (T.1, 7, .inl v6.2.2)), ((x 5), .inl (T.1, 21, .inl u_this_nows))] → va_S A s.heap H locs → lv_has ls 4 [(0, .ref (x 0)), (2, .int v6.1)] → W p l e ({ frames := 4, cells := 0, slots := 0, locals := 87 } : Room) s m ([.ref (x 0), .int p1] : List Value).toArray below meth c H locs 0 0 (MQ below (va_Qi (fun (r : Int32) (_ : Unit) => r = rv.1) (fun _ => xPost D T [((x 0), .inr (7, o7 x u_this)), ((x 2), .inl (T.1, 22, .inl u_this_told)), ((x 3), .inl (T.1, 11, .inl rv.2.1)), ((x 4), .inl (T.1, 7, .inl rv.2.2.1)), ((x 5), .inl (T.1, 21, .inl rv.2.2.2))] A) A) ([.ref (x 0), .int p1] : List Value).toArray s 0 0 A) (F0 m 39 ls []) := by
      intro H locs ls hP hD hS hl
      have hM := hNv6
      refine lv_aload_n hx hb dX7_strokes_39 rfl (lv_at hl 0 rfl) ?_
      obtain ⟨r7, er7, hM⟩ := xbd hM
      refine xaftv (W2 := [((x 0), .inr (7, o7 x u_this)), ((x 2), .inl (T.1, 22, .inl u_this_told)), ((x 3), .inl (T.1, 11, .inl r2.1)), ((x 4), .inl (T.1, 7, .inl v6.2.2)), ((x 5), .inl (T.1, 21, .inl r7))]) (va_runV (As := []) (rest := []) ⟨hx, hb, hml, hown, hts⟩ (c_X7_giveNow l D T x u_this v6.2.2 u_this_nows er7) (cwV 0 hts gX7_strokes_X7_giveNow rfl rfl rfl (by decide +kernel) ⟨Nat.le_of_ble_eq_true rfl, Nat.le_of_ble_eq_true rfl⟩) (xpvv hP hD hK [0, 3, 4] (by decide) rfl 0 7 rfl rfl (fun _ _ _ => trivial) (fun _ _ _ _ _ _ => trivial)) rfl rfl hl.1 rfl (lv_room (Nat.le_of_ble_eq_true rfl)) dX7_strokes_40 ⟨Nat.le_of_ble_eq_true rfl, Nat.le_of_ble_eq_true rfl⟩) hP hD hS hA [0, 3, 4] rfl rfl rfl rfl (fun H locs hP hD hS => ?_)
      refine lv_iload_n hx hb dX7_strokes_43 rfl (lv_at hl 1 rfl) ?_
      obtain rfl := Option.some.inj hM
      exact xreti hx hb hr hlocks hP hK hD hS dX7_strokes_44 rfl
    have Lv3 : ∀ (n : Nat) (v3 : Int32 × Int32 × (Nat → Int32)), xlp (s_X7_strokes_21 u_this p1 r2) n v3 = some v6 → ∀ (H : Heap) (locs : List Loc) (ls : Array Slot), va_P D vwCl [((x 0), .inr (7, o7 x u_this)), ((x 2), .inl (T.1, 22, .inl u_this_told)), ((x 3), .inl (T.1, 11, .inl r2.1)), ((x 4), .inl (T.1, 7, .inl v3.2.2)), ((x 5), .inl (T.1, 21, .inl u_this_nows))] H → va_D A [((x 0), .inr (7, o7 x u_this)), ((x 2), .inl (T.1, 22, .inl u_this_told)), ((x 3), .inl (T.1, 11, .inl r2.1)), ((x 4), .inl (T.1, 7, .inl v3.2.2)), ((x 5), .inl (T.1, 21, .inl u_this_nows))] → va_S A s.heap H locs → lv_has ls 4 [(0, .ref (x 0)), (1, .int p1), (2, .int v3.1), (3, .int v3.2.1)] → W p l e ({ frames := 4, cells := 0, slots := 0, locals := 87 } : Room) s m ([.ref (x 0), .int p1] : List Value).toArray below meth c H locs 0 0 (MQ below (va_Qi (fun (r : Int32) (_ : Unit) => r = rv.1) (fun _ => xPost D T [((x 0), .inr (7, o7 x u_this)), ((x 2), .inl (T.1, 22, .inl u_this_told)), ((x 3), .inl (T.1, 11, .inl rv.2.1)), ((x 4), .inl (T.1, 7, .inl rv.2.2.1)), ((x 5), .inl (T.1, 21, .inl rv.2.2.2))] A) A) ([.ref (x 0), .int p1] : List Value).toArray s 0 0 A) (F0 m 21 ls []) := by
      intro n
      induction n with
      | zero => exact fun _ h => (xlp_0 h).elim
      | succ n ih =>
        intro v3 hM H locs ls hP hD hS hl
        obtain ⟨z, hM, hz1, hz2⟩ := xlp_s hM
        unfold s_X7_strokes_21 at hM
        refine lv_iload_n hx hb dX7_strokes_21 rfl (lv_at hl 3 rfl) ?_
        refine lv_iload_n hx hb dX7_strokes_22 rfl (lv_at hl 1 rfl) ?_
        refine lv_icmp_ge (tgt := 39) hx hb dX7_strokes_23 (by decide) (fun c4 => ?_) (fun c4 => ?_)
        · have hM := xit c4 hM
          obtain rfl := hz2 _ (Option.some.inj hM).symm
          exact Kv6 _ _ _ hP hD hS (lv_sub hl [0, 2] rfl)
        · have hM := xif c4 hM
          refine lv_iload_n hx hb dX7_strokes_26 rfl (lv_at hl 2 rfl) ?_
          refine lv_aload_n hx hb dX7_strokes_27 rfl (lv_at hl 0 rfl) ?_
          obtain ⟨r5, er5, hM⟩ := xbd hM
          refine xafti (rv := r5.1) (W2 := [((x 0), .inr (7, o7 x u_this)), ((x 2), .inl (T.1, 22, .inl u_this_told)), ((x 3), .inl (T.1, 11, .inl r2.1)), ((x 4), .inl (T.1, 7, .inl r5.2)), ((x 5), .inl (T.1, 21, .inl u_this_nows))]) (va_runV (As := []) (rest := [.int v3.1]) ⟨hx, hb, hml, hown, hts⟩ (c_X7_stroke l D T x u_this r2.1 v3.2.2 er5) (cwV 0 hts gX7_strokes_X7_stroke rfl rfl rfl (by decide +kernel) ⟨Nat.le_of_ble_eq_true rfl, Nat.le_of_ble_eq_true rfl⟩) (xpvv hP hD hK [0, 2, 3] (by decide) rfl 0 7 rfl rfl (fun _ _ _ => trivial) (fun _ _ _ _ _ _ => trivial)) rfl rfl hl.1 rfl (lv_room (Nat.le_of_ble_eq_true rfl)) dX7_strokes_28 ⟨Nat.le_of_ble_eq_true rfl, Nat.le_of_ble_eq_true rfl⟩) hP hD hS hA [0, 2, 3] rfl rfl rfl rfl (fun H locs hP hD hS => ?_)
          refine lv_iadd hx hb dX7_strokes_31 ?_
          refine lv_istore_n (lv' := [(2, .int (v3.1 + r5.1)), (0, .ref (x 0)), (1, .int p1), (3, .int v3.2.1)]) hx hb dX7_strokes_32 rfl hl (by decide) rfl (fun ls hl => ?_)
          refine lv_iinc (v := v3.2.1 + 1) (lv' := [(3, .int (v3.2.1 + 1)), (2, .int (v3.1 + r5.1)), (0, .ref (x 0)), (1, .int p1)]) hx hb dX7_strokes_33 hl (k := 3) rfl rfl (by decide) rfl (fun ls hl => ?_)
          refine lv_goto (tgt := 21) hx hb dX7_strokes_36 (by decide) ?_
          exact ih _ (hz1 _ (Option.some.inj hM).symm) _ _ _ hP hD hS (lv_sub hl [2, 3, 1, 0] rfl)
    exact Lv3 _ _ hM _ _ _ hP hD hS (lv_sub hl [2, 3, 1, 0] rfl)
  · have hM := xit c1 hM
    refine lv_iconst (v := (-1)) hx hb dX7_strokes_11 (by decide) ?_
    obtain rfl := Option.some.inj hM
    exact xreti hx hb hr hlocks hP hK hD hS dX7_strokes_12 rfl
def f_X7_jug (N : Nat) (u_this : K7) (u_this_told : (Nat → Int32)) (u_this_par : (Nat → Int32)) (u_this_try0 : (Nat → Int32)) (u_this_nows : (Nat → Int32)) (p1 : Int32) : Option (Int32 × (Nat → Int32) × (Nat → Int32) × (Nat → Int32)) :=
  if (f_X7_in p1 (1) (99)) = (0) then
   (some ((-1), u_this_par, u_this_try0, u_this_nows))
  else
   ((f_X7_takeNow N u_this u_this_told u_this_par u_this_try0 u_this_nows).bind fun r2 =>
    (f_X7_pour u_this r2.2 p1).bind fun r3 =>
    (f_X7_giveNow N u_this r3.2 u_this_nows).bind fun r4 =>
    some (r3.1, r2.1, r3.2, r4))
set_option maxHeartbeats 4000000 in
set_option maxRecDepth 100000 in
theorem c_X7_jug (l : Launch) (D : va_G) (T : xT) (x : Nat → Nat) {sz : Nat} {N : Nat} (u_this : K7) (u_this_told : (Nat → Int32)) (u_this_par : (Nat → Int32)) (u_this_try0 : (Nat → Int32)) (u_this_nows : (Nat → Int32)) (p1 : Int32) {rv : Int32 × (Nat → Int32) × (Nat → Int32) × (Nat → Int32)} (hM : f_X7_jug N u_this u_this_told u_this_par u_this_try0 u_this_nows p1 = some rv) : Met l yX7_jug wsX7_jug ({ frames := 2, cells := 0, slots := 0, locals := 42 } : Room) (va_Pc [.ref (x 0), .int p1] (xPre D T [((x 0), .inr (7, o7 x u_this)), ((x 2), .inl (T.1, 22, .inl u_this_told)), ((x 3), .inl (T.1, 11, .inl u_this_par)), ((x 4), .inl (T.1, 7, .inl u_this_try0)), ((x 5), .inl (T.1, 21, .inl u_this_nows))] sz xE0)) (va_Qi (fun (r : Int32) (_ : Unit) => r = rv.1) (fun _ => xPost D T [((x 0), .inr (7, o7 x u_this)), ((x 2), .inl (T.1, 22, .inl u_this_told)), ((x 3), .inl (T.1, 11, .inl rv.2.1)), ((x 4), .inl (T.1, 7, .inl rv.2.2.1)), ((x 5), .inl (T.1, 21, .inl rv.2.2.2))] (va_A [((x 0), .inr (7, o7 x u_this)), ((x 2), .inl (T.1, 22, .inl u_this_told)), ((x 3), .inl (T.1, 11, .inl u_this_par)), ((x 4), .inl (T.1, 7, .inl u_this_try0)), ((x 5), .inl (T.1, 21, .inl u_this_nows))] sz)) (va_A [((x 0), .inr (7, o7 x u_this)), ((x 2), .inl (T.1, 22, .inl u_this_told)), ((x 3), .inl (T.1, 11, .inl u_this_par)), ((x 4), .inl (T.1, 7, .inl u_this_try0)), ((x 5), .inl (T.1, 21, .inl u_this_nows))] sz)) 0 0 (va_A [((x 0), .inr (7, o7 x u_this)), ((x 2), .inl (T.1, 22, .inl u_this_told)), ((x 3), .inl (T.1, 11, .inl u_this_par)), ((x 4), .inl (T.1, 7, .inl u_this_try0)), ((x 5), .inl (T.1, 21, .inl u_this_nows))] sz) := by
  refine xMet (av := [.ref (x 0), .int p1]) (Wd := [((x 0), .inr (7, o7 x u_this)), ((x 2), .inl (T.1, 22, .inl u_this_told)), ((x 3), .inl (T.1, 11, .inl u_this_par)), ((x 4), .inl (T.1, 7, .inl u_this_try0)), ((x 5), .inl (T.1, 21, .inl u_this_nows))]) (E := xE0) (Qc := fun A => (va_Qi (fun (r : Int32) (_ : Unit) => r = rv.1) (fun _ => xPost D T [((x 0), .inr (7, o7 x u_this)), ((x 2), .inl (T.1, 22, .inl u_this_told)), ((x 3), .inl (T.1, 11, .inl rv.2.1)), ((x 4), .inl (T.1, 7, .inl rv.2.2.1)), ((x 5), .inl (T.1, 21, .inl rv.2.2.2))] A) A)) (cc := cX7_jug) (maxL := 3) (ret := (some .int)) (by decide) rfl (Nat.le_of_ble_eq_true rfl) ?_
  intro p e s m below meth c A ls hx hb hr hml hts hown hlocks hnm hP hK hD hS hA hE hl
  have hown : s.vm.findClass RX7 = some m.cls := hown
  have hl : lv_has ls 3 [(0, .ref (x 0)), (1, .int p1)] := hl
  unfold f_X7_jug at hM
  refine lv_iload_n hx hb dX7_jug_0 rfl (lv_at hl 1 rfl) ?_
  refine lv_iconst (v := 1) hx hb dX7_jug_1 (by decide) ?_
  refine lv_bipush (v := 99) hx hb dX7_jug_2 (by decide) ?_
  refine xafti (rv := (f_X7_in p1 (1) (99))) (W2 := [((x 0), .inr (7, o7 x u_this)), ((x 2), .inl (T.1, 22, .inl u_this_told)), ((x 3), .inl (T.1, 11, .inl u_this_par)), ((x 4), .inl (T.1, 7, .inl u_this_try0)), ((x 5), .inl (T.1, 21, .inl u_this_nows))]) (va_runS (As := [.int p1, .int (1), .int (99)]) (rest := []) ⟨hx, hb, hml, hown, hts⟩ (c_X7_in (rv := (f_X7_in p1 (1) (99))) l D T p1 (1) (99) rfl) (cwS 3 hts gX7_jug_X7_in rfl rfl rfl (by decide +kernel) ⟨Nat.le_of_ble_eq_true rfl, Nat.le_of_ble_eq_true rfl⟩) (xpvs hP hD hK [] (by decide) rfl (fun _ _ _ => trivial) (fun _ _ _ _ _ _ => trivial)) rfl rfl hl.1 rfl (lv_room (Nat.le_of_ble_eq_true rfl)) dX7_jug_4 ⟨Nat.le_of_ble_eq_true rfl, Nat.le_of_ble_eq_true rfl⟩) hP hD hS hA [] rfl rfl rfl rfl (fun H locs hP hD hS => ?_)
  refine lv_if_ne (tgt := 12) hx hb dX7_jug_7 (by decide) (fun c1 => ?_) (fun c1 => ?_)
  · have hM := xif c1 hM
    refine lv_aload_n hx hb dX7_jug_12 rfl (lv_at hl 0 rfl) ?_
    obtain ⟨r2, er2, hM⟩ := xbd hM
    refine xaftv (W2 := [((x 0), .inr (7, o7 x u_this)), ((x 2), .inl (T.1, 22, .inl u_this_told)), ((x 3), .inl (T.1, 11, .inl r2.1)), ((x 4), .inl (T.1, 7, .inl r2.2)), ((x 5), .inl (T.1, 21, .inl u_this_nows))]) (va_runV (As := []) (rest := []) ⟨hx, hb, hml, hown, hts⟩ (c_X7_takeNow l D T x u_this u_this_told u_this_par u_this_try0 u_this_nows er2) (cwV 0 hts gX7_jug_X7_takeNow rfl rfl rfl (by decide +kernel) ⟨Nat.le_of_ble_eq_true rfl, Nat.le_of_ble_eq_true rfl⟩) (xpvv hP hD hK [0, 1, 2, 3, 4] (by decide) rfl 0 7 rfl rfl (fun _ _ _ => trivial) (fun _ _ _ _ _ _ => trivial)) rfl rfl hl.1 rfl (lv_room (Nat.le_of_ble_eq_true rfl)) dX7_jug_13 ⟨Nat.le_of_ble_eq_true rfl, Nat.le_of_ble_eq_true rfl⟩) hP hD hS hA [0, 1, 2, 3, 4] rfl rfl rfl rfl (fun H locs hP hD hS => ?_)
    refine lv_aload_n hx hb dX7_jug_16 rfl (lv_at hl 0 rfl) ?_
    refine lv_iload_n hx hb dX7_jug_17 rfl (lv_at hl 1 rfl) ?_
    obtain ⟨r3, er3, hM⟩ := xbd hM
    refine xafti (rv := r3.1) (W2 := [((x 0), .inr (7, o7 x u_this)), ((x 2), .inl (T.1, 22, .inl u_this_told)), ((x 3), .inl (T.1, 11, .inl r2.1)), ((x 4), .inl (T.1, 7, .inl r3.2)), ((x 5), .inl (T.1, 21, .inl u_this_nows))]) (va_runV (As := [.int p1]) (rest := []) ⟨hx, hb, hml, hown, hts⟩ (c_X7_pour l D T x u_this r2.2 p1 er3) (cwV 1 hts gX7_jug_X7_pour rfl rfl rfl (by decide +kernel) ⟨Nat.le_of_ble_eq_true rfl, Nat.le_of_ble_eq_true rfl⟩) (xpvv hP hD hK [0, 3] (by decide) rfl 0 7 rfl rfl (fun _ _ _ => trivial) (fun _ _ _ _ _ _ => trivial)) rfl rfl hl.1 rfl (lv_room (Nat.le_of_ble_eq_true rfl)) dX7_jug_18 ⟨Nat.le_of_ble_eq_true rfl, Nat.le_of_ble_eq_true rfl⟩) hP hD hS hA [0, 3] rfl rfl rfl rfl (fun H locs hP hD hS => ?_)
    refine lv_istore_n (lv' := [(2, .int r3.1), (0, .ref (x 0)), (1, .int p1)]) hx hb dX7_jug_21 rfl hl (by decide) rfl (fun ls hl => ?_)
    refine lv_aload_n hx hb dX7_jug_22 rfl (lv_at hl 1 rfl) ?_
    obtain ⟨r4, er4, hM⟩ := xbd hM
    refine xaftv (W2 := [((x 0), .inr (7, o7 x u_this)), ((x 2), .inl (T.1, 22, .inl u_this_told)), ((x 3), .inl (T.1, 11, .inl r2.1)), ((x 4), .inl (T.1, 7, .inl r3.2)), ((x 5), .inl (T.1, 21, .inl r4))]) (va_runV (As := []) (rest := []) ⟨hx, hb, hml, hown, hts⟩ (c_X7_giveNow l D T x u_this r3.2 u_this_nows er4) (cwV 0 hts gX7_jug_X7_giveNow rfl rfl rfl (by decide +kernel) ⟨Nat.le_of_ble_eq_true rfl, Nat.le_of_ble_eq_true rfl⟩) (xpvv hP hD hK [0, 3, 4] (by decide) rfl 0 7 rfl rfl (fun _ _ _ => trivial) (fun _ _ _ _ _ _ => trivial)) rfl rfl hl.1 rfl (lv_room (Nat.le_of_ble_eq_true rfl)) dX7_jug_23 ⟨Nat.le_of_ble_eq_true rfl, Nat.le_of_ble_eq_true rfl⟩) hP hD hS hA [0, 3, 4] rfl rfl rfl rfl (fun H locs hP hD hS => ?_)
    refine lv_iload_n hx hb dX7_jug_26 rfl (lv_at hl 0 rfl) ?_
    obtain rfl := Option.some.inj hM
    exact xreti hx hb hr hlocks hP hK hD hS dX7_jug_27 rfl
  · have hM := xit c1 hM
    refine lv_iconst (v := (-1)) hx hb dX7_jug_10 (by decide) ?_
    obtain rfl := Option.some.inj hM
    exact xreti hx hb hr hlocks hP hK hD hS dX7_jug_11 rfl
def s_X7_hours_18 (u_this : K7) (p1 : Int32) (r2 : (Nat → Int32) × (Nat → Int32)) (v3 : Int32 × (Nat → Int32)) : Option ((Int32 × (Nat → Int32)) ⊕ (Int32 × (Nat → Int32))) :=
  if p1 ≤ v3.1 then
   (some (.inr (v3.1, v3.2)))
  else
   ((f_X7_goHour u_this r2.1 v3.2).bind fun r5 =>
    some (.inl (v3.1 + 1, r5)))
def f_X7_hours (N : Nat) (u_this : K7) (u_this_told : (Nat → Int32)) (u_this_par : (Nat → Int32)) (u_this_try0 : (Nat → Int32)) (u_this_nows : (Nat → Int32)) (p1 : Int32) : Option (Int32 × (Nat → Int32) × (Nat → Int32) × (Nat → Int32)) :=
  if (f_X7_in p1 (1) (48)) = (0) then
   (some ((-1), u_this_par, u_this_try0, u_this_nows))
  else
   ((f_X7_takeNow N u_this u_this_told u_this_par u_this_try0 u_this_nows).bind fun r2 =>
    (xlp (s_X7_hours_18 u_this p1 r2) N (0, r2.2)).bind fun v6 =>
    (f_X7_giveNow N u_this v6.2 u_this_nows).bind fun r7 =>
    some ((r7 0), r2.1, v6.2, r7))
set_option maxHeartbeats 4000000 in
set_option maxRecDepth 100000 in
theorem c_X7_hours (l : Launch) (D : va_G) (T : xT) (x : Nat → Nat) {sz : Nat} {N : Nat} (u_this : K7) (u_this_told : (Nat → Int32)) (u_this_par : (Nat → Int32)) (u_this_try0 : (Nat → Int32)) (u_this_nows : (Nat → Int32)) (p1 : Int32) {rv : Int32 × (Nat → Int32) × (Nat → Int32) × (Nat → Int32)} (hM : f_X7_hours N u_this u_this_told u_this_par u_this_try0 u_this_nows p1 = some rv) : Met l yX7_hours wsX7_hours ({ frames := 3, cells := 0, slots := 0, locals := 64 } : Room) (va_Pc [.ref (x 0), .int p1] (xPre D T [((x 0), .inr (7, o7 x u_this)), ((x 2), .inl (T.1, 22, .inl u_this_told)), ((x 3), .inl (T.1, 11, .inl u_this_par)), ((x 4), .inl (T.1, 7, .inl u_this_try0)), ((x 5), .inl (T.1, 21, .inl u_this_nows))] sz xE0)) (va_Qi (fun (r : Int32) (_ : Unit) => r = rv.1) (fun _ => xPost D T [((x 0), .inr (7, o7 x u_this)), ((x 2), .inl (T.1, 22, .inl u_this_told)), ((x 3), .inl (T.1, 11, .inl rv.2.1)), ((x 4), .inl (T.1, 7, .inl rv.2.2.1)), ((x 5), .inl (T.1, 21, .inl rv.2.2.2))] (va_A [((x 0), .inr (7, o7 x u_this)), ((x 2), .inl (T.1, 22, .inl u_this_told)), ((x 3), .inl (T.1, 11, .inl u_this_par)), ((x 4), .inl (T.1, 7, .inl u_this_try0)), ((x 5), .inl (T.1, 21, .inl u_this_nows))] sz)) (va_A [((x 0), .inr (7, o7 x u_this)), ((x 2), .inl (T.1, 22, .inl u_this_told)), ((x 3), .inl (T.1, 11, .inl u_this_par)), ((x 4), .inl (T.1, 7, .inl u_this_try0)), ((x 5), .inl (T.1, 21, .inl u_this_nows))] sz)) 0 0 (va_A [((x 0), .inr (7, o7 x u_this)), ((x 2), .inl (T.1, 22, .inl u_this_told)), ((x 3), .inl (T.1, 11, .inl u_this_par)), ((x 4), .inl (T.1, 7, .inl u_this_try0)), ((x 5), .inl (T.1, 21, .inl u_this_nows))] sz) := by
  refine xMet (av := [.ref (x 0), .int p1]) (Wd := [((x 0), .inr (7, o7 x u_this)), ((x 2), .inl (T.1, 22, .inl u_this_told)), ((x 3), .inl (T.1, 11, .inl u_this_par)), ((x 4), .inl (T.1, 7, .inl u_this_try0)), ((x 5), .inl (T.1, 21, .inl u_this_nows))]) (E := xE0) (Qc := fun A => (va_Qi (fun (r : Int32) (_ : Unit) => r = rv.1) (fun _ => xPost D T [((x 0), .inr (7, o7 x u_this)), ((x 2), .inl (T.1, 22, .inl u_this_told)), ((x 3), .inl (T.1, 11, .inl rv.2.1)), ((x 4), .inl (T.1, 7, .inl rv.2.2.1)), ((x 5), .inl (T.1, 21, .inl rv.2.2.2))] A) A)) (cc := cX7_hours) (maxL := 3) (ret := (some .int)) (by decide) rfl (Nat.le_of_ble_eq_true rfl) ?_
  intro p e s m below meth c A ls hx hb hr hml hts hown hlocks hnm hP hK hD hS hA hE hl
  have hown : s.vm.findClass RX7 = some m.cls := hown
  have hl : lv_has ls 3 [(0, .ref (x 0)), (1, .int p1)] := hl
  unfold f_X7_hours at hM
  refine lv_iload_n hx hb dX7_hours_0 rfl (lv_at hl 1 rfl) ?_
  refine lv_iconst (v := 1) hx hb dX7_hours_1 (by decide) ?_
  refine lv_bipush (v := 48) hx hb dX7_hours_2 (by decide) ?_
  refine xafti (rv := (f_X7_in p1 (1) (48))) (W2 := [((x 0), .inr (7, o7 x u_this)), ((x 2), .inl (T.1, 22, .inl u_this_told)), ((x 3), .inl (T.1, 11, .inl u_this_par)), ((x 4), .inl (T.1, 7, .inl u_this_try0)), ((x 5), .inl (T.1, 21, .inl u_this_nows))]) (va_runS (As := [.int p1, .int (1), .int (48)]) (rest := []) ⟨hx, hb, hml, hown, hts⟩ (c_X7_in (rv := (f_X7_in p1 (1) (48))) l D T p1 (1) (48) rfl) (cwS 3 hts gX7_hours_X7_in rfl rfl rfl (by decide +kernel) ⟨Nat.le_of_ble_eq_true rfl, Nat.le_of_ble_eq_true rfl⟩) (xpvs hP hD hK [] (by decide) rfl (fun _ _ _ => trivial) (fun _ _ _ _ _ _ => trivial)) rfl rfl hl.1 rfl (lv_room (Nat.le_of_ble_eq_true rfl)) dX7_hours_4 ⟨Nat.le_of_ble_eq_true rfl, Nat.le_of_ble_eq_true rfl⟩) hP hD hS hA [] rfl rfl rfl rfl (fun H locs hP hD hS => ?_)
  refine lv_if_ne (tgt := 12) hx hb dX7_hours_7 (by decide) (fun c1 => ?_) (fun c1 => ?_)
  · have hM := xif c1 hM
    refine lv_aload_n hx hb dX7_hours_12 rfl (lv_at hl 0 rfl) ?_
    obtain ⟨r2, er2, hM⟩ := xbd hM
    refine xaftv (W2 := [((x 0), .inr (7, o7 x u_this)), ((x 2), .inl (T.1, 22, .inl u_this_told)), ((x 3), .inl (T.1, 11, .inl r2.1)), ((x 4), .inl (T.1, 7, .inl r2.2)), ((x 5), .inl (T.1, 21, .inl u_this_nows))]) (va_runV (As := []) (rest := []) ⟨hx, hb, hml, hown, hts⟩ (c_X7_takeNow l D T x u_this u_this_told u_this_par u_this_try0 u_this_nows er2) (cwV 0 hts gX7_hours_X7_takeNow rfl rfl rfl (by decide +kernel) ⟨Nat.le_of_ble_eq_true rfl, Nat.le_of_ble_eq_true rfl⟩) (xpvv hP hD hK [0, 1, 2, 3, 4] (by decide) rfl 0 7 rfl rfl (fun _ _ _ => trivial) (fun _ _ _ _ _ _ => trivial)) rfl rfl hl.1 rfl (lv_room (Nat.le_of_ble_eq_true rfl)) dX7_hours_13 ⟨Nat.le_of_ble_eq_true rfl, Nat.le_of_ble_eq_true rfl⟩) hP hD hS hA [0, 1, 2, 3, 4] rfl rfl rfl rfl (fun H locs hP hD hS => ?_)
    refine lv_iconst (v := 0) hx hb dX7_hours_16 (by decide) ?_
    refine lv_istore_n (lv' := [(2, .int (0)), (0, .ref (x 0)), (1, .int p1)]) hx hb dX7_hours_17 rfl hl (by decide) rfl (fun ls hl => ?_)
    obtain ⟨v6, hM, hNv6⟩ := xbd hM
    have hQv6 := hM
    have Kv6 : ∀ (H : Heap) (locs : List Loc) (ls : Array Slot), va_P D vwCl [((x 0), .inr (7, o7 x u_this)), ((x 2), .inl (T.1, 22, .inl u_this_told)), ((x 3), .inl (T.1, 11, .inl r2.1)), ((x 4), .inl (T.1, 7, .inl v6.2)), ((x 5), .inl (T.1, 21, .inl u_this_nows))] H → va_D A [((x 0), .inr (7, o7 x u_this)), ((x 2), .inl (T.1, 22, .inl u_this_told)), ((x 3), .inl (T.1, 11, .inl r2.1)), ((x 4), .inl (T.1, 7, .inl v6.2)), ((x 5), .inl (T.1, 21, .inl u_this_nows))] → va_S A s.heap H locs → lv_has ls 3 [(0, .ref (x 0))] → W p l e ({ frames := 3, cells := 0, slots := 0, locals := 64 } : Room) s m ([.ref (x 0), .int p1] : List Value).toArray below meth c H locs 0 0 (MQ below (va_Qi (fun (r : Int32) (_ : Unit) => r = rv.1) (fun _ => xPost D T [((x 0), .inr (7, o7 x u_this)), ((x 2), .inl (T.1, 22, .inl u_this_told)), ((x 3), .inl (T.1, 11, .inl rv.2.1)), ((x 4), .inl (T.1, 7, .inl rv.2.2.1)), ((x 5), .inl (T.1, 21, .inl rv.2.2.2))] A) A) ([.ref (x 0), .int p1] : List Value).toArray s 0 0 A) (F0 m 33 ls []) := by
      intro H locs ls hP hD hS hl
      have hM := hNv6
      refine lv_aload_n hx hb dX7_hours_33 rfl (lv_at hl 0 rfl) ?_
      obtain ⟨r7, er7, hM⟩ := xbd hM
      refine xaftv (W2 := [((x 0), .inr (7, o7 x u_this)), ((x 2), .inl (T.1, 22, .inl u_this_told)), ((x 3), .inl (T.1, 11, .inl r2.1)), ((x 4), .inl (T.1, 7, .inl v6.2)), ((x 5), .inl (T.1, 21, .inl r7))]) (va_runV (As := []) (rest := []) ⟨hx, hb, hml, hown, hts⟩ (c_X7_giveNow l D T x u_this v6.2 u_this_nows er7) (cwV 0 hts gX7_hours_X7_giveNow rfl rfl rfl (by decide +kernel) ⟨Nat.le_of_ble_eq_true rfl, Nat.le_of_ble_eq_true rfl⟩) (xpvv hP hD hK [0, 3, 4] (by decide) rfl 0 7 rfl rfl (fun _ _ _ => trivial) (fun _ _ _ _ _ _ => trivial)) rfl rfl hl.1 rfl (lv_room (Nat.le_of_ble_eq_true rfl)) dX7_hours_34 ⟨Nat.le_of_ble_eq_true rfl, Nat.le_of_ble_eq_true rfl⟩) hP hD hS hA [0, 3, 4] rfl rfl rfl rfl (fun H locs hP hD hS => ?_)
      refine lv_aload_n hx hb dX7_hours_37 rfl (lv_at hl 0 rfl) ?_
      refine va_get (D := D) (ci := 7) (v := .ref (x 5)) (C := RX7) (T := TX7) (N := 30) hx hb hts (fun w h => List.mem_cons_of_mem _ (List.mem_append_right _ h)) hown hK hP 0 rfl rfl 11 (by decide) (hts _ (List.mem_of_getElem? (i := 1) rfl)) (fun _ h9 => h9) rfl dX7_hours_38 ?_
      refine lv_iconst (v := 0) hx hb dX7_hours_41 (by decide) ?_
      refine xald (v := (r7 0)) hx hb hK hP 4 0 rfl rfl (xin_vp (by decide)) (congrArg _ (show (0 : Int32).toNatClampNeg = 0 by decide)) dX7_hours_42 ?_
      obtain rfl := Option.some.inj hM
      exact xreti hx hb hr hlocks hP hK hD hS dX7_hours_43 rfl
    have Lv3 : ∀ (n : Nat) (v3 : Int32 × (Nat → Int32)), xlp (s_X7_hours_18 u_this p1 r2) n v3 = some v6 → ∀ (H : Heap) (locs : List Loc) (ls : Array Slot), va_P D vwCl [((x 0), .inr (7, o7 x u_this)), ((x 2), .inl (T.1, 22, .inl u_this_told)), ((x 3), .inl (T.1, 11, .inl r2.1)), ((x 4), .inl (T.1, 7, .inl v3.2)), ((x 5), .inl (T.1, 21, .inl u_this_nows))] H → va_D A [((x 0), .inr (7, o7 x u_this)), ((x 2), .inl (T.1, 22, .inl u_this_told)), ((x 3), .inl (T.1, 11, .inl r2.1)), ((x 4), .inl (T.1, 7, .inl v3.2)), ((x 5), .inl (T.1, 21, .inl u_this_nows))] → va_S A s.heap H locs → lv_has ls 3 [(0, .ref (x 0)), (1, .int p1), (2, .int v3.1)] → W p l e ({ frames := 3, cells := 0, slots := 0, locals := 64 } : Room) s m ([.ref (x 0), .int p1] : List Value).toArray below meth c H locs 0 0 (MQ below (va_Qi (fun (r : Int32) (_ : Unit) => r = rv.1) (fun _ => xPost D T [((x 0), .inr (7, o7 x u_this)), ((x 2), .inl (T.1, 22, .inl u_this_told)), ((x 3), .inl (T.1, 11, .inl rv.2.1)), ((x 4), .inl (T.1, 7, .inl rv.2.2.1)), ((x 5), .inl (T.1, 21, .inl rv.2.2.2))] A) A) ([.ref (x 0), .int p1] : List Value).toArray s 0 0 A) (F0 m 18 ls []) := by
      intro n
      induction n with
      | zero => exact fun _ h => (xlp_0 h).elim
      | succ n ih =>
        intro v3 hM H locs ls hP hD hS hl
        obtain ⟨z, hM, hz1, hz2⟩ := xlp_s hM
        unfold s_X7_hours_18 at hM
        refine lv_iload_n hx hb dX7_hours_18 rfl (lv_at hl 2 rfl) ?_
        refine lv_iload_n hx hb dX7_hours_19 rfl (lv_at hl 1 rfl) ?_
        refine lv_icmp_ge (tgt := 33) hx hb dX7_hours_20 (by decide) (fun c4 => ?_) (fun c4 => ?_)
        · have hM := xit c4 hM
          obtain rfl := hz2 _ (Option.some.inj hM).symm
          exact Kv6 _ _ _ hP hD hS (lv_sub hl [0] rfl)
        · have hM := xif c4 hM
          refine lv_aload_n hx hb dX7_hours_23 rfl (lv_at hl 0 rfl) ?_
          obtain ⟨r5, er5, hM⟩ := xbd hM
          refine xaftv (W2 := [((x 0), .inr (7, o7 x u_this)), ((x 2), .inl (T.1, 22, .inl u_this_told)), ((x 3), .inl (T.1, 11, .inl r2.1)), ((x 4), .inl (T.1, 7, .inl r5)), ((x 5), .inl (T.1, 21, .inl u_this_nows))]) (va_runV (As := []) (rest := []) ⟨hx, hb, hml, hown, hts⟩ (c_X7_goHour l D T x u_this r2.1 v3.2 er5) (cwV 0 hts gX7_hours_X7_goHour rfl rfl rfl (by decide +kernel) ⟨Nat.le_of_ble_eq_true rfl, Nat.le_of_ble_eq_true rfl⟩) (xpvv hP hD hK [0, 2, 3] (by decide) rfl 0 7 rfl rfl (fun _ _ _ => trivial) (fun _ _ _ _ _ _ => trivial)) rfl rfl hl.1 rfl (lv_room (Nat.le_of_ble_eq_true rfl)) dX7_hours_24 ⟨Nat.le_of_ble_eq_true rfl, Nat.le_of_ble_eq_true rfl⟩) hP hD hS hA [0, 2, 3] rfl rfl rfl rfl (fun H locs hP hD hS => ?_)
          refine lv_iinc (v := v3.1 + 1) (lv' := [(2, .int (v3.1 + 1)), (0, .ref (x 0)), (1, .int p1)]) hx hb dX7_hours_27 hl (k := 2) rfl rfl (by decide) rfl (fun ls hl => ?_)
          refine lv_goto (tgt := 18) hx hb dX7_hours_30 (by decide) ?_
          exact ih _ (hz1 _ (Option.some.inj hM).symm) _ _ _ hP hD hS (lv_sub hl [1, 2, 0] rfl)
    exact Lv3 _ _ hM _ _ _ hP hD hS (lv_sub hl [1, 2, 0] rfl)
  · have hM := xit c1 hM
    refine lv_iconst (v := (-1)) hx hb dX7_hours_10 (by decide) ?_
    obtain rfl := Option.some.inj hM
    exact xreti hx hb hr hlocks hP hK hD hS dX7_hours_11 rfl
def f_X7_now (N : Nat) (u_this : K7) (u_this_told : (Nat → Int32)) (u_this_par : (Nat → Int32)) (u_this_try0 : (Nat → Int32)) (u_this_nows : (Nat → Int32)) (p1 : Int32) : Option (Int32 × (Nat → Int32) × (Nat → Int32)) :=
  if (f_X7_in p1 (0) (9)) = (0) then
   (some ((-1), u_this_par, u_this_try0))
  else
   ((f_X7_takeNow N u_this u_this_told u_this_par u_this_try0 u_this_nows).bind fun r2 =>
    if (7) ≤ p1 then
     (if p1 = (7) then
       ((f_X7_depth u_this r2.1 r2.2).bind fun r7 =>
        some (r7, r2.1, r2.2))
      else
       (if p1 = (8) then
         (some ((f_X7_lift u_this r2.1), r2.1, r2.2))
        else
         ((f_X7_gain u_this r2.1 r2.2).bind fun r6 =>
          some (r6, r2.1, r2.2))))
    else
     (if xin p1 21 = true then
      (some ((u_this_nows p1.toNatClampNeg), r2.1, r2.2))
      else none))
set_option maxHeartbeats 4000000 in
set_option maxRecDepth 100000 in
theorem c_X7_now (l : Launch) (D : va_G) (T : xT) (x : Nat → Nat) {sz : Nat} {N : Nat} (u_this : K7) (u_this_told : (Nat → Int32)) (u_this_par : (Nat → Int32)) (u_this_try0 : (Nat → Int32)) (u_this_nows : (Nat → Int32)) (p1 : Int32) {rv : Int32 × (Nat → Int32) × (Nat → Int32)} (hM : f_X7_now N u_this u_this_told u_this_par u_this_try0 u_this_nows p1 = some rv) : Met l yX7_now wsX7_now ({ frames := 3, cells := 0, slots := 0, locals := 61 } : Room) (va_Pc [.ref (x 0), .int p1] (xPre D T [((x 0), .inr (7, o7 x u_this)), ((x 2), .inl (T.1, 22, .inl u_this_told)), ((x 3), .inl (T.1, 11, .inl u_this_par)), ((x 4), .inl (T.1, 7, .inl u_this_try0)), ((x 5), .inl (T.1, 21, .inl u_this_nows))] sz xE0)) (va_Qi (fun (r : Int32) (_ : Unit) => r = rv.1) (fun _ => xPost D T [((x 0), .inr (7, o7 x u_this)), ((x 2), .inl (T.1, 22, .inl u_this_told)), ((x 3), .inl (T.1, 11, .inl rv.2.1)), ((x 4), .inl (T.1, 7, .inl rv.2.2)), ((x 5), .inl (T.1, 21, .inl u_this_nows))] (va_A [((x 0), .inr (7, o7 x u_this)), ((x 2), .inl (T.1, 22, .inl u_this_told)), ((x 3), .inl (T.1, 11, .inl u_this_par)), ((x 4), .inl (T.1, 7, .inl u_this_try0)), ((x 5), .inl (T.1, 21, .inl u_this_nows))] sz)) (va_A [((x 0), .inr (7, o7 x u_this)), ((x 2), .inl (T.1, 22, .inl u_this_told)), ((x 3), .inl (T.1, 11, .inl u_this_par)), ((x 4), .inl (T.1, 7, .inl u_this_try0)), ((x 5), .inl (T.1, 21, .inl u_this_nows))] sz)) 0 0 (va_A [((x 0), .inr (7, o7 x u_this)), ((x 2), .inl (T.1, 22, .inl u_this_told)), ((x 3), .inl (T.1, 11, .inl u_this_par)), ((x 4), .inl (T.1, 7, .inl u_this_try0)), ((x 5), .inl (T.1, 21, .inl u_this_nows))] sz) := by
  refine xMet (av := [.ref (x 0), .int p1]) (Wd := [((x 0), .inr (7, o7 x u_this)), ((x 2), .inl (T.1, 22, .inl u_this_told)), ((x 3), .inl (T.1, 11, .inl u_this_par)), ((x 4), .inl (T.1, 7, .inl u_this_try0)), ((x 5), .inl (T.1, 21, .inl u_this_nows))]) (E := xE0) (Qc := fun A => (va_Qi (fun (r : Int32) (_ : Unit) => r = rv.1) (fun _ => xPost D T [((x 0), .inr (7, o7 x u_this)), ((x 2), .inl (T.1, 22, .inl u_this_told)), ((x 3), .inl (T.1, 11, .inl rv.2.1)), ((x 4), .inl (T.1, 7, .inl rv.2.2)), ((x 5), .inl (T.1, 21, .inl u_this_nows))] A) A)) (cc := cX7_now) (maxL := 2) (ret := (some .int)) (by decide) rfl (Nat.le_of_ble_eq_true rfl) ?_
  intro p e s m below meth c A ls hx hb hr hml hts hown hlocks hnm hP hK hD hS hA hE hl
  have hown : s.vm.findClass RX7 = some m.cls := hown
  have hl : lv_has ls 2 [(0, .ref (x 0)), (1, .int p1)] := hl
  unfold f_X7_now at hM
  refine lv_iload_n hx hb dX7_now_0 rfl (lv_at hl 1 rfl) ?_
  refine lv_iconst (v := 0) hx hb dX7_now_1 (by decide) ?_
  refine lv_bipush (v := 9) hx hb dX7_now_2 (by decide) ?_
  refine xafti (rv := (f_X7_in p1 (0) (9))) (W2 := [((x 0), .inr (7, o7 x u_this)), ((x 2), .inl (T.1, 22, .inl u_this_told)), ((x 3), .inl (T.1, 11, .inl u_this_par)), ((x 4), .inl (T.1, 7, .inl u_this_try0)), ((x 5), .inl (T.1, 21, .inl u_this_nows))]) (va_runS (As := [.int p1, .int (0), .int (9)]) (rest := []) ⟨hx, hb, hml, hown, hts⟩ (c_X7_in (rv := (f_X7_in p1 (0) (9))) l D T p1 (0) (9) rfl) (cwS 3 hts gX7_now_X7_in rfl rfl rfl (by decide +kernel) ⟨Nat.le_of_ble_eq_true rfl, Nat.le_of_ble_eq_true rfl⟩) (xpvs hP hD hK [] (by decide) rfl (fun _ _ _ => trivial) (fun _ _ _ _ _ _ => trivial)) rfl rfl hl.1 rfl (lv_room (Nat.le_of_ble_eq_true rfl)) dX7_now_4 ⟨Nat.le_of_ble_eq_true rfl, Nat.le_of_ble_eq_true rfl⟩) hP hD hS hA [] rfl rfl rfl rfl (fun H locs hP hD hS => ?_)
  refine lv_if_ne (tgt := 12) hx hb dX7_now_7 (by decide) (fun c1 => ?_) (fun c1 => ?_)
  · have hM := xif c1 hM
    refine lv_aload_n hx hb dX7_now_12 rfl (lv_at hl 0 rfl) ?_
    obtain ⟨r2, er2, hM⟩ := xbd hM
    refine xaftv (W2 := [((x 0), .inr (7, o7 x u_this)), ((x 2), .inl (T.1, 22, .inl u_this_told)), ((x 3), .inl (T.1, 11, .inl r2.1)), ((x 4), .inl (T.1, 7, .inl r2.2)), ((x 5), .inl (T.1, 21, .inl u_this_nows))]) (va_runV (As := []) (rest := []) ⟨hx, hb, hml, hown, hts⟩ (c_X7_takeNow l D T x u_this u_this_told u_this_par u_this_try0 u_this_nows er2) (cwV 0 hts gX7_now_X7_takeNow rfl rfl rfl (by decide +kernel) ⟨Nat.le_of_ble_eq_true rfl, Nat.le_of_ble_eq_true rfl⟩) (xpvv hP hD hK [0, 1, 2, 3, 4] (by decide) rfl 0 7 rfl rfl (fun _ _ _ => trivial) (fun _ _ _ _ _ _ => trivial)) rfl rfl hl.1 rfl (lv_room (Nat.le_of_ble_eq_true rfl)) dX7_now_13 ⟨Nat.le_of_ble_eq_true rfl, Nat.le_of_ble_eq_true rfl⟩) hP hD hS hA [0, 1, 2, 3, 4] rfl rfl rfl rfl (fun H locs hP hD hS => ?_)
    refine lv_iload_n hx hb dX7_now_16 rfl (lv_at hl 1 rfl) ?_
    refine lv_bipush (v := 7) hx hb dX7_now_17 (by decide) ?_
    refine lv_icmp_ge (tgt := 31) hx hb dX7_now_19 (by decide) (fun c3 => ?_) (fun c3 => ?_)
    · have hM := xit c3 hM
      refine lv_iload_n hx hb dX7_now_31 rfl (lv_at hl 1 rfl) ?_
      refine lv_bipush (v := 7) hx hb dX7_now_32 (by decide) ?_
      refine lv_icmp_ne (tgt := 44) hx hb dX7_now_34 (by decide) (fun c4 => ?_) (fun c4 => ?_)
      · have hM := xif c4 hM
        refine lv_iload_n hx hb dX7_now_44 rfl (lv_at hl 1 rfl) ?_
        refine lv_bipush (v := 8) hx hb dX7_now_45 (by decide) ?_
        refine lv_icmp_ne (tgt := 57) hx hb dX7_now_47 (by decide) (fun c5 => ?_) (fun c5 => ?_)
        · have hM := xif c5 hM
          refine lv_aload_n hx hb dX7_now_57 rfl (lv_at hl 0 rfl) ?_
          obtain ⟨r6, er6, hM⟩ := xbd hM
          refine xafti (rv := r6) (W2 := [((x 0), .inr (7, o7 x u_this)), ((x 2), .inl (T.1, 22, .inl u_this_told)), ((x 3), .inl (T.1, 11, .inl r2.1)), ((x 4), .inl (T.1, 7, .inl r2.2)), ((x 5), .inl (T.1, 21, .inl u_this_nows))]) (va_runV (As := []) (rest := []) ⟨hx, hb, hml, hown, hts⟩ (c_X7_gain l D T x u_this r2.1 r2.2 er6) (cwV 0 hts gX7_now_X7_gain rfl rfl rfl (by decide +kernel) ⟨Nat.le_of_ble_eq_true rfl, Nat.le_of_ble_eq_true rfl⟩) (xpvv hP hD hK [0, 2, 3] (by decide) rfl 0 7 rfl rfl (fun _ _ _ => trivial) (fun _ _ _ _ _ _ => trivial)) rfl rfl hl.1 rfl (lv_room (Nat.le_of_ble_eq_true rfl)) dX7_now_58 ⟨Nat.le_of_ble_eq_true rfl, Nat.le_of_ble_eq_true rfl⟩) hP hD hS hA [0, 2, 3] rfl rfl rfl rfl (fun H locs hP hD hS => ?_)
          obtain rfl := Option.some.inj hM
          exact xreti hx hb hr hlocks hP hK hD hS dX7_now_61 rfl
        · have hM := xit c5 hM
          refine lv_aload_n hx hb dX7_now_50 rfl (lv_at hl 0 rfl) ?_
          refine xafti (rv := (f_X7_lift u_this r2.1)) (W2 := [((x 0), .inr (7, o7 x u_this)), ((x 2), .inl (T.1, 22, .inl u_this_told)), ((x 3), .inl (T.1, 11, .inl r2.1)), ((x 4), .inl (T.1, 7, .inl r2.2)), ((x 5), .inl (T.1, 21, .inl u_this_nows))]) (va_runV (As := []) (rest := []) ⟨hx, hb, hml, hown, hts⟩ (c_X7_lift (rv := (f_X7_lift u_this r2.1)) l D T x u_this r2.1 rfl) (cwV 0 hts gX7_now_X7_lift rfl rfl rfl (by decide +kernel) ⟨Nat.le_of_ble_eq_true rfl, Nat.le_of_ble_eq_true rfl⟩) (xpvv hP hD hK [0, 2] (by decide) rfl 0 7 rfl rfl (fun _ _ _ => trivial) (fun _ _ _ _ _ _ => trivial)) rfl rfl hl.1 rfl (lv_room (Nat.le_of_ble_eq_true rfl)) dX7_now_51 ⟨Nat.le_of_ble_eq_true rfl, Nat.le_of_ble_eq_true rfl⟩) hP hD hS hA [0, 2] rfl rfl rfl rfl (fun H locs hP hD hS => ?_)
          refine lv_goto (tgt := 61) hx hb dX7_now_54 (by decide) ?_
          obtain rfl := Option.some.inj hM
          exact xreti hx hb hr hlocks hP hK hD hS dX7_now_61 rfl
      · have hM := xit c4 hM
        refine lv_aload_n hx hb dX7_now_37 rfl (lv_at hl 0 rfl) ?_
        obtain ⟨r7, er7, hM⟩ := xbd hM
        refine xafti (rv := r7) (W2 := [((x 0), .inr (7, o7 x u_this)), ((x 2), .inl (T.1, 22, .inl u_this_told)), ((x 3), .inl (T.1, 11, .inl r2.1)), ((x 4), .inl (T.1, 7, .inl r2.2)), ((x 5), .inl (T.1, 21, .inl u_this_nows))]) (va_runV (As := []) (rest := []) ⟨hx, hb, hml, hown, hts⟩ (c_X7_depth l D T x u_this r2.1 r2.2 er7) (cwV 0 hts gX7_now_X7_depth rfl rfl rfl (by decide +kernel) ⟨Nat.le_of_ble_eq_true rfl, Nat.le_of_ble_eq_true rfl⟩) (xpvv hP hD hK [0, 2, 3] (by decide) rfl 0 7 rfl rfl (fun _ _ _ => trivial) (fun _ _ _ _ _ _ => trivial)) rfl rfl hl.1 rfl (lv_room (Nat.le_of_ble_eq_true rfl)) dX7_now_38 ⟨Nat.le_of_ble_eq_true rfl, Nat.le_of_ble_eq_true rfl⟩) hP hD hS hA [0, 2, 3] rfl rfl rfl rfl (fun H locs hP hD hS => ?_)
        refine lv_goto (tgt := 61) hx hb dX7_now_41 (by decide) ?_
        obtain rfl := Option.some.inj hM
        exact xreti hx hb hr hlocks hP hK hD hS dX7_now_61 rfl
    · have hM := xif c3 hM
      refine lv_aload_n hx hb dX7_now_22 rfl (lv_at hl 0 rfl) ?_
      refine va_get (D := D) (ci := 7) (v := .ref (x 5)) (C := RX7) (T := TX7) (N := 30) hx hb hts (fun w h => List.mem_cons_of_mem _ (List.mem_append_right _ h)) hown hK hP 0 rfl rfl 11 (by decide) (hts _ (List.mem_of_getElem? (i := 1) rfl)) (fun _ h9 => h9) rfl dX7_now_23 ?_
      refine lv_iload_n hx hb dX7_now_26 rfl (lv_at hl 1 rfl) ?_
      obtain ⟨g8, hM⟩ := xck hM
      refine xald (v := (u_this_nows p1.toNatClampNeg)) hx hb hK hP 4 0 rfl rfl g8 rfl dX7_now_27 ?_
      refine lv_goto (tgt := 61) hx hb dX7_now_28 (by decide) ?_
      obtain rfl := Option.some.inj hM
      exact xreti hx hb hr hlocks hP hK hD hS dX7_now_61 rfl
  · have hM := xit c1 hM
    refine lv_iconst (v := (-1)) hx hb dX7_now_10 (by decide) ?_
    obtain rfl := Option.some.inj hM
    exact xreti hx hb hr hlocks hP hK hD hS dX7_now_11 rfl
