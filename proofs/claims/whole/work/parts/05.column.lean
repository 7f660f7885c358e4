/-! laid by wip/whole/gen.py out of the decode rows: functional readings and contracts -/
def f_X0_startFull (u_this : K0) : K0 :=
  (0, 100, 0, 0, 0, 0, 0)
set_option maxHeartbeats 4000000 in
set_option maxRecDepth 100000 in
theorem c_X0_startFull (l : Launch) (D : va_G) (T : xT) (h_this : Nat) {sz : Nat} (u_this : K0) {rv : K0} (hM : f_X0_startFull u_this = rv) : Met l yX0_startFull wsX0_startFull ({ frames := 0, cells := 0, slots := 0, locals := 0 } : Room) (va_Pc [.ref h_this] (xPre D T [(h_this, .inr (0, o0 u_this))] sz xE0)) (va_Qv (fun (_ : Unit) => True) (fun _ => xPost D T [(h_this, .inr (0, o0 rv))] (va_A [(h_this, .inr (0, o0 u_this))] sz)) (va_A [(h_this, .inr (0, o0 u_this))] sz)) 0 0 (va_A [(h_this, .inr (0, o0 u_this))] sz) := by
  refine xMet (av := [.ref h_this]) (Wd := [(h_this, .inr (0, o0 u_this))]) (E := xE0) (Qc := fun A => (va_Qv (fun (_ : Unit) => True) (fun _ => xPost D T [(h_this, .inr (0, o0 rv))] A) A)) (cc := cX0_startFull) (maxL := 1) (ret := none) (by decide) rfl (Nat.le_of_ble_eq_true rfl) ?_
  intro p e s m below meth c A ls hx hb hr hml hts hown hlocks hnm hP hK hD hS hA hE hl
  have hown : s.vm.findClass RX0 = some m.cls := hown
  have hl : lv_has ls 1 [(0, .ref h_this)] := hl
  unfold f_X0_startFull at hM
  refine lv_aload_n hx hb dX0_startFull_0 rfl (lv_at hl 0 rfl) ?_
  refine lv_iconst (v := 0) hx hb dX0_startFull_1 (by decide) ?_
  refine va_put (D := D) (ci := 0) (v := .int (0)) (C := RX0) (T := TX0) (N := 7) hx hb hts (fun w h => List.mem_cons_of_mem _ (List.mem_append_right _ h)) tyX0 tyX0_ok nmX0 hown hK hP hD hS 0 rfl rfl 0 (by decide) (hts _ (List.mem_of_getElem? (i := 1) rfl)) (fun _ h9 => h9) rfl (tyX0_ok 0 (by decide)) rfl rfl (Nat.le_of_ble_eq_true rfl) dX0_startFull_2 (fun H locs hP hD hS => ?_)
  have hP : va_P D vwCl [(h_this, .inr (0, o0 (0, u_this.2.1, u_this.2.2.1, u_this.2.2.2.1, u_this.2.2.2.2.1, u_this.2.2.2.2.2.1, u_this.2.2.2.2.2.2)))] H := hP
  have hD : va_D A [(h_this, .inr (0, o0 (0, u_this.2.1, u_this.2.2.1, u_this.2.2.2.1, u_this.2.2.2.2.1, u_this.2.2.2.2.2.1, u_this.2.2.2.2.2.2)))] := hD
  refine lv_aload_n hx hb dX0_startFull_5 rfl (lv_at hl 0 rfl) ?_
  refine lv_bipush (v := 100) hx hb dX0_startFull_6 (by decide) ?_
  refine va_put (D := D) (ci := 0) (v := .int (100)) (C := RX0) (T := TX0) (N := 7) hx hb hts (fun w h => List.mem_cons_of_mem _ (List.mem_append_right _ h)) tyX0 tyX0_ok nmX0 hown hK hP hD hS 0 rfl rfl 1 (by decide) (hts _ (List.mem_of_getElem? (i := 2) rfl)) (fun _ h9 => h9) rfl (tyX0_ok 1 (by decide)) rfl rfl (Nat.le_of_ble_eq_true rfl) dX0_startFull_8 (fun H locs hP hD hS => ?_)
  have hP : va_P D vwCl [(h_this, .inr (0, o0 (0, 100, u_this.2.2.1, u_this.2.2.2.1, u_this.2.2.2.2.1, u_this.2.2.2.2.2.1, u_this.2.2.2.2.2.2)))] H := hP
  have hD : va_D A [(h_this, .inr (0, o0 (0, 100, u_this.2.2.1, u_this.2.2.2.1, u_this.2.2.2.2.1, u_this.2.2.2.2.2.1, u_this.2.2.2.2.2.2)))] := hD
  refine lv_aload_n hx hb dX0_startFull_11 rfl (lv_at hl 0 rfl) ?_
  refine lv_iconst (v := 0) hx hb dX0_startFull_12 (by decide) ?_
  refine va_put (D := D) (ci := 0) (v := .int (0)) (C := RX0) (T := TX0) (N := 7) hx hb hts (fun w h => List.mem_cons_of_mem _ (List.mem_append_right _ h)) tyX0 tyX0_ok nmX0 hown hK hP hD hS 0 rfl rfl 2 (by decide) (hts _ (List.mem_of_getElem? (i := 3) rfl)) (fun _ h9 => h9) rfl (tyX0_ok 2 (by decide)) rfl rfl (Nat.le_of_ble_eq_true rfl) dX0_startFull_13 (fun H locs hP hD hS => ?_)
  have hP : va_P D vwCl [(h_this, .inr (0, o0 (0, 100, 0, u_this.2.2.2.1, u_this.2.2.2.2.1, u_this.2.2.2.2.2.1, u_this.2.2.2.2.2.2)))] H := hP
  have hD : va_D A [(h_this, .inr (0, o0 (0, 100, 0, u_this.2.2.2.1, u_this.2.2.2.2.1, u_this.2.2.2.2.2.1, u_this.2.2.2.2.2.2)))] := hD
  refine lv_aload_n hx hb dX0_startFull_16 rfl (lv_at hl 0 rfl) ?_
  refine lv_iconst (v := 0) hx hb dX0_startFull_17 (by decide) ?_
  refine va_put (D := D) (ci := 0) (v := .int (0)) (C := RX0) (T := TX0) (N := 7) hx hb hts (fun w h => List.mem_cons_of_mem _ (List.mem_append_right _ h)) tyX0 tyX0_ok nmX0 hown hK hP hD hS 0 rfl rfl 3 (by decide) (hts _ (List.mem_of_getElem? (i := 4) rfl)) (fun _ h9 => h9) rfl (tyX0_ok 3 (by decide)) rfl rfl (Nat.le_of_ble_eq_true rfl) dX0_startFull_18 (fun H locs hP hD hS => ?_)
  have hP : va_P D vwCl [(h_this, .inr (0, o0 (0, 100, 0, 0, u_this.2.2.2.2.1, u_this.2.2.2.2.2.1, u_this.2.2.2.2.2.2)))] H := hP
  have hD : va_D A [(h_this, .inr (0, o0 (0, 100, 0, 0, u_this.2.2.2.2.1, u_this.2.2.2.2.2.1, u_this.2.2.2.2.2.2)))] := hD
  refine lv_aload_n hx hb dX0_startFull_21 rfl (lv_at hl 0 rfl) ?_
  refine lv_iconst (v := 0) hx hb dX0_startFull_22 (by decide) ?_
  refine va_put (D := D) (ci := 0) (v := .int (0)) (C := RX0) (T := TX0) (N := 7) hx hb hts (fun w h => List.mem_cons_of_mem _ (List.mem_append_right _ h)) tyX0 tyX0_ok nmX0 hown hK hP hD hS 0 rfl rfl 4 (by decide) (hts _ (List.mem_of_getElem? (i := 5) rfl)) (fun _ h9 => h9) rfl (tyX0_ok 4 (by decide)) rfl rfl (Nat.le_of_ble_eq_true rfl) dX0_startFull_23 (fun H locs hP hD hS => ?_)
  have hP : va_P D vwCl [(h_this, .inr (0, o0 (0, 100, 0, 0, 0, u_this.2.2.2.2.2.1, u_this.2.2.2.2.2.2)))] H := hP
  have hD : va_D A [(h_this, .inr (0, o0 (0, 100, 0, 0, 0, u_this.2.2.2.2.2.1, u_this.2.2.2.2.2.2)))] := hD
  refine lv_aload_n hx hb dX0_startFull_26 rfl (lv_at hl 0 rfl) ?_
  refine lv_iconst (v := 0) hx hb dX0_startFull_27 (by decide) ?_
  refine va_put (D := D) (ci := 0) (v := .int (0)) (C := RX0) (T := TX0) (N := 7) hx hb hts (fun w h => List.mem_cons_of_mem _ (List.mem_append_right _ h)) tyX0 tyX0_ok nmX0 hown hK hP hD hS 0 rfl rfl 5 (by decide) (hts _ (List.mem_of_getElem? (i := 6) rfl)) (fun _ h9 => h9) rfl (tyX0_ok 5 (by decide)) rfl rfl (Nat.le_of_ble_eq_true rfl) dX0_startFull_28 (fun H locs hP hD hS => ?_)
  have hP : va_P D vwCl [(h_this, .inr (0, o0 (0, 100, 0, 0, 0, 0, u_this.2.2.2.2.2.2)))] H := hP
  have hD : va_D A [(h_this, .inr (0, o0 (0, 100, 0, 0, 0, 0, u_this.2.2.2.2.2.2)))] := hD
  refine lv_aload_n hx hb dX0_startFull_31 rfl (lv_at hl 0 rfl) ?_
  refine lv_iconst (v := 0) hx hb dX0_startFull_32 (by decide) ?_
  refine va_put (D := D) (ci := 0) (v := .int (0)) (C := RX0) (T := TX0) (N := 7) hx hb hts (fun w h => List.mem_cons_of_mem _ (List.mem_append_right _ h)) tyX0 tyX0_ok nmX0 hown hK hP hD hS 0 rfl rfl 6 (by decide) (hts _ (List.mem_of_getElem? (i := 7) rfl)) (fun _ h9 => h9) rfl (tyX0_ok 6 (by decide)) rfl rfl (Nat.le_of_ble_eq_true rfl) dX0_startFull_33 (fun H locs hP hD hS => ?_)
  have hP : va_P D vwCl [(h_this, .inr (0, o0 (0, 100, 0, 0, 0, 0, 0)))] H := hP
  have hD : va_D A [(h_this, .inr (0, o0 (0, 100, 0, 0, 0, 0, 0)))] := hD
  obtain rfl := hM
  exact xretv hx hb hr hlocks hP hK hD hS dX0_startFull_36
def f_X0_startEmpty (u_this : K0) (u_a1 : K4) : Option (K0) :=
  (some (f_X0_startFull u_this) : Option (K0)).bind fun r1 =>
  (f_X4_depth u_a1 (0)).bind fun r2 =>
  some (r2, u_a1.2.2.2.2.2.2.2.2.1, r1.2.2.1, r1.2.2.2.1, r1.2.2.2.2.1, r1.2.2.2.2.2.1, r1.2.2.2.2.2.2)
set_option maxHeartbeats 4000000 in
set_option maxRecDepth 100000 in
theorem c_X0_startEmpty (l : Launch) (D : va_G) (T : xT) (h_this h_a1 : Nat) {sz : Nat} (u_this : K0) (u_a1 : K4) {rv : K0} (hM : f_X0_startEmpty u_this u_a1 = some rv) : Met l yX0_startEmpty wsX0_startEmpty ({ frames := 1, cells := 0, slots := 0, locals := 22 } : Room) (va_Pc [.ref h_this, .ref h_a1] (xPre D T [(h_this, .inr (0, o0 u_this)), (h_a1, .inr (4, o4 u_a1))] sz xE0)) (va_Qv (fun (_ : Unit) => True) (fun _ => xPost D T [(h_this, .inr (0, o0 rv)), (h_a1, .inr (4, o4 u_a1))] (va_A [(h_this, .inr (0, o0 u_this)), (h_a1, .inr (4, o4 u_a1))] sz)) (va_A [(h_this, .inr (0, o0 u_this)), (h_a1, .inr (4, o4 u_a1))] sz)) 0 0 (va_A [(h_this, .inr (0, o0 u_this)), (h_a1, .inr (4, o4 u_a1))] sz) := by
  refine xMet (av := [.ref h_this, .ref h_a1]) (Wd := [(h_this, .inr (0, o0 u_this)), (h_a1, .inr (4, o4 u_a1))]) (E := xE0) (Qc := fun A => (va_Qv (fun (_ : Unit) => True) (fun _ => xPost D T [(h_this, .inr (0, o0 rv)), (h_a1, .inr (4, o4 u_a1))] A) A)) (cc := cX0_startEmpty) (maxL := 2) (ret := none) (by decide) rfl (Nat.le_of_ble_eq_true rfl) ?_
  intro p e s m below meth c A ls hx hb hr hml hts hown hlocks hnm hP hK hD hS hA hE hl
  have hown : s.vm.findClass RX0 = some m.cls := hown
  have hl : lv_has ls 2 [(0, .ref h_this), (1, .ref h_a1)] := hl
  unfold f_X0_startEmpty at hM
  refine lv_aload_n hx hb dX0_startEmpty_0 rfl (lv_at hl 0 rfl) ?_
  obtain ⟨r1, er1, hM⟩ := xbd hM
  refine xaftv (W2 := [(h_this, .inr (0, o0 r1)), (h_a1, .inr (4, o4 u_a1))]) (va_runV (As := []) (rest := []) ⟨hx, hb, hml, hown, hts⟩ (c_X0_startFull l D T h_this u_this (Option.some.inj er1)) (cwV 0 hts gX0_startEmpty_X0_startFull rfl rfl rfl (by decide +kernel) ⟨Nat.le_of_ble_eq_true rfl, Nat.le_of_ble_eq_true rfl⟩) (xpvv hP hD hK [0] (by decide) rfl 0 0 rfl rfl (fun _ _ _ => trivial) (fun _ _ _ _ _ _ => trivial)) rfl rfl hl.1 rfl (lv_room (Nat.le_of_ble_eq_true rfl)) dX0_startEmpty_1 ⟨Nat.le_of_ble_eq_true rfl, Nat.le_of_ble_eq_true rfl⟩) hP hD hS hA [0] rfl rfl rfl rfl (fun H locs hP hD hS => ?_)
  refine lv_aload_n hx hb dX0_startEmpty_4 rfl (lv_at hl 0 rfl) ?_
  refine lv_aload_n hx hb dX0_startEmpty_5 rfl (lv_at hl 1 rfl) ?_
  refine lv_iconst (v := 0) hx hb dX0_startEmpty_6 (by decide) ?_
  obtain ⟨r2, er2, hM⟩ := xbd hM
  refine xafti (rv := r2) (W2 := [(h_this, .inr (0, o0 r1)), (h_a1, .inr (4, o4 u_a1))]) (va_runV (As := [.int (0)]) (rest := [.ref h_this]) ⟨hx, hb, hml, hown, hts⟩ (c_X4_depth l D T h_a1 u_a1 (0) er2) (cwV 1 hts gX0_startEmpty_X4_depth rfl rfl rfl (by decide +kernel) ⟨Nat.le_of_ble_eq_true rfl, Nat.le_of_ble_eq_true rfl⟩) (xpvv hP hD hK [1] (by decide) rfl 0 4 rfl rfl (fun _ _ _ => trivial) (fun _ _ _ _ _ _ => trivial)) rfl rfl hl.1 rfl (lv_room (Nat.le_of_ble_eq_true rfl)) dX0_startEmpty_7 ⟨Nat.le_of_ble_eq_true rfl, Nat.le_of_ble_eq_true rfl⟩) hP hD hS hA [1] rfl rfl rfl rfl (fun H locs hP hD hS => ?_)
  refine va_put (D := D) (ci := 0) (v := .int r2) (C := RX0) (T := TX0) (N := 7) hx hb hts (fun w h => List.mem_cons_of_mem _ (List.mem_append_left _ (List.mem_append_right _ h))) tyX0 tyX0_ok nmX0 hown hK hP hD hS 0 rfl rfl 0 (by decide) (hts _ (List.mem_of_getElem? (i := 1) rfl)) (fun _ h9 => h9) rfl (tyX0_ok 0 (by decide)) rfl rfl (Nat.le_of_ble_eq_true rfl) dX0_startEmpty_10 (fun H locs hP hD hS => ?_)
  have hP : va_P D vwCl [(h_this, .inr (0, o0 (r2, r1.2.1, r1.2.2.1, r1.2.2.2.1, r1.2.2.2.2.1, r1.2.2.2.2.2.1, r1.2.2.2.2.2.2))), (h_a1, .inr (4, o4 u_a1))] H := hP
  have hD : va_D A [(h_this, .inr (0, o0 (r2, r1.2.1, r1.2.2.1, r1.2.2.2.1, r1.2.2.2.2.1, r1.2.2.2.2.2.1, r1.2.2.2.2.2.2))), (h_a1, .inr (4, o4 u_a1))] := hD
  refine lv_aload_n hx hb dX0_startEmpty_13 rfl (lv_at hl 0 rfl) ?_
  refine lv_aload_n hx hb dX0_startEmpty_14 rfl (lv_at hl 1 rfl) ?_
  refine va_get (D := D) (ci := 4) (v := .int u_a1.2.2.2.2.2.2.2.2.1) (C := RX4) (T := TX4) (N := 11) hx hb hts (fun w h => List.mem_cons_of_mem _ (List.mem_append_right _ h)) hown hK hP 1 rfl rfl 8 (by decide) (hts _ (List.mem_of_getElem? (i := 2) rfl)) (fun _ h9 => h9) rfl dX0_startEmpty_15 ?_
  refine va_put (D := D) (ci := 0) (v := .int u_a1.2.2.2.2.2.2.2.2.1) (C := RX0) (T := TX0) (N := 7) hx hb hts (fun w h => List.mem_cons_of_mem _ (List.mem_append_left _ (List.mem_append_right _ h))) tyX0 tyX0_ok nmX0 hown hK hP hD hS 0 rfl rfl 1 (by decide) (hts _ (List.mem_of_getElem? (i := 3) rfl)) (fun _ h9 => h9) rfl (tyX0_ok 1 (by decide)) rfl rfl (Nat.le_of_ble_eq_true rfl) dX0_startEmpty_18 (fun H locs hP hD hS => ?_)
  have hP : va_P D vwCl [(h_this, .inr (0, o0 (r2, u_a1.2.2.2.2.2.2.2.2.1, r1.2.2.1, r1.2.2.2.1, r1.2.2.2.2.1, r1.2.2.2.2.2.1, r1.2.2.2.2.2.2))), (h_a1, .inr (4, o4 u_a1))] H := hP
  have hD : va_D A [(h_this, .inr (0, o0 (r2, u_a1.2.2.2.2.2.2.2.2.1, r1.2.2.1, r1.2.2.2.1, r1.2.2.2.2.1, r1.2.2.2.2.2.1, r1.2.2.2.2.2.2))), (h_a1, .inr (4, o4 u_a1))] := hD
  obtain rfl := Option.some.inj hM
  exact xretv hx hb hr hlocks hP hK hD hS dX0_startEmpty_21
def f_X0_beLike (u_this : K0) (u_a1 : K0) : K0 :=
  (u_a1.1, u_a1.2.1, u_a1.2.2.1, u_a1.2.2.2.1, u_a1.2.2.2.2.1, u_a1.2.2.2.2.2.1, u_a1.2.2.2.2.2.2)
set_option maxHeartbeats 4000000 in
set_option maxRecDepth 100000 in
theorem c_X0_beLike (l : Launch) (D : va_G) (T : xT) (h_this h_a1 : Nat) {sz : Nat} (u_this : K0) (u_a1 : K0) {rv : K0} (hM : f_X0_beLike u_this u_a1 = rv) : Met l yX0_beLike wsX0_beLike ({ frames := 0, cells := 0, slots := 0, locals := 0 } : Room) (va_Pc [.ref h_this, .ref h_a1] (xPre D T [(h_this, .inr (0, o0 u_this)), (h_a1, .inr (0, o0 u_a1))] sz xE0)) (va_Qv (fun (_ : Unit) => True) (fun _ => xPost D T [(h_this, .inr (0, o0 rv)), (h_a1, .inr (0, o0 u_a1))] (va_A [(h_this, .inr (0, o0 u_this)), (h_a1, .inr (0, o0 u_a1))] sz)) (va_A [(h_this, .inr (0, o0 u_this)), (h_a1, .inr (0, o0 u_a1))] sz)) 0 0 (va_A [(h_this, .inr (0, o0 u_this)), (h_a1, .inr (0, o0 u_a1))] sz) := by
  refine xMet (av := [.ref h_this, .ref h_a1]) (Wd := [(h_this, .inr (0, o0 u_this)), (h_a1, .inr (0, o0 u_a1))]) (E := xE0) (Qc := fun A => (va_Qv (fun (_ : Unit) => True) (fun _ => xPost D T [(h_this, .inr (0, o0 rv)), (h_a1, .inr (0, o0 u_a1))] A) A)) (cc := cX0_beLike) (maxL := 2) (ret := none) (by decide) rfl (Nat.le_of_ble_eq_true rfl) ?_
  intro p e s m below meth c A ls hx hb hr hml hts hown hlocks hnm hP hK hD hS hA hE hl
  have hown : s.vm.findClass RX0 = some m.cls := hown
  have hl : lv_has ls 2 [(0, .ref h_this), (1, .ref h_a1)] := hl
  unfold f_X0_beLike at hM
  refine lv_aload_n hx hb dX0_beLike_0 rfl (lv_at hl 0 rfl) ?_
  refine lv_aload_n hx hb dX0_beLike_1 rfl (lv_at hl 1 rfl) ?_
  refine va_get (D := D) (ci := 0) (v := .int u_a1.1) (C := RX0) (T := TX0) (N := 7) hx hb hts (fun w h => List.mem_cons_of_mem _ (List.mem_append_right _ h)) hown hK hP 1 rfl rfl 0 (by decide) (hts _ (List.mem_of_getElem? (i := 1) rfl)) (fun _ h9 => h9) rfl dX0_beLike_2 ?_
  refine va_put (D := D) (ci := 0) (v := .int u_a1.1) (C := RX0) (T := TX0) (N := 7) hx hb hts (fun w h => List.mem_cons_of_mem _ (List.mem_append_right _ h)) tyX0 tyX0_ok nmX0 hown hK hP hD hS 0 rfl rfl 0 (by decide) (hts _ (List.mem_of_getElem? (i := 1) rfl)) (fun _ h9 => h9) rfl (tyX0_ok 0 (by decide)) rfl rfl (Nat.le_of_ble_eq_true rfl) dX0_beLike_5 (fun H locs hP hD hS => ?_)
  have hP : va_P D vwCl [(h_this, .inr (0, o0 (u_a1.1, u_this.2.1, u_this.2.2.1, u_this.2.2.2.1, u_this.2.2.2.2.1, u_this.2.2.2.2.2.1, u_this.2.2.2.2.2.2))), (h_a1, .inr (0, o0 u_a1))] H := hP
  have hD : va_D A [(h_this, .inr (0, o0 (u_a1.1, u_this.2.1, u_this.2.2.1, u_this.2.2.2.1, u_this.2.2.2.2.1, u_this.2.2.2.2.2.1, u_this.2.2.2.2.2.2))), (h_a1, .inr (0, o0 u_a1))] := hD
  refine lv_aload_n hx hb dX0_beLike_8 rfl (lv_at hl 0 rfl) ?_
  refine lv_aload_n hx hb dX0_beLike_9 rfl (lv_at hl 1 rfl) ?_
  refine va_get (D := D) (ci := 0) (v := .int u_a1.2.1) (C := RX0) (T := TX0) (N := 7) hx hb hts (fun w h => List.mem_cons_of_mem _ (List.mem_append_right _ h)) hown hK hP 1 rfl rfl 1 (by decide) (hts _ (List.mem_of_getElem? (i := 2) rfl)) (fun _ h9 => h9) rfl dX0_beLike_10 ?_
  refine va_put (D := D) (ci := 0) (v := .int u_a1.2.1) (C := RX0) (T := TX0) (N := 7) hx hb hts (fun w h => List.mem_cons_of_mem _ (List.mem_append_right _ h)) tyX0 tyX0_ok nmX0 hown hK hP hD hS 0 rfl rfl 1 (by decide) (hts _ (List.mem_of_getElem? (i := 2) rfl)) (fun _ h9 => h9) rfl (tyX0_ok 1 (by decide)) rfl rfl (Nat.le_of_ble_eq_true rfl) dX0_beLike_13 (fun H locs hP hD hS => ?_)
  have hP : va_P D vwCl [(h_this, .inr (0, o0 (u_a1.1, u_a1.2.1, u_this.2.2.1, u_this.2.2.2.1, u_this.2.2.2.2.1, u_this.2.2.2.2.2.1, u_this.2.2.2.2.2.2))), (h_a1, .inr (0, o0 u_a1))] H := hP
  have hD : va_D A [(h_this, .inr (0, o0 (u_a1.1, u_a1.2.1, u_this.2.2.1, u_this.2.2.2.1, u_this.2.2.2.2.1, u_this.2.2.2.2.2.1, u_this.2.2.2.2.2.2))), (h_a1, .inr (0, o0 u_a1))] := hD
  refine lv_aload_n hx hb dX0_beLike_16 rfl (lv_at hl 0 rfl) ?_
  refine lv_aload_n hx hb dX0_beLike_17 rfl (lv_at hl 1 rfl) ?_
  refine va_get (D := D) (ci := 0) (v := .int u_a1.2.2.1) (C := RX0) (T := TX0) (N := 7) hx hb hts (fun w h => List.mem_cons_of_mem _ (List.mem_append_right _ h)) hown hK hP 1 rfl rfl 2 (by decide) (hts _ (List.mem_of_getElem? (i := 3) rfl)) (fun _ h9 => h9) rfl dX0_beLike_18 ?_
  refine va_put (D := D) (ci := 0) (v := .int u_a1.2.2.1) (C := RX0) (T := TX0) (N := 7) hx hb hts (fun w h => List.mem_cons_of_mem _ (List.mem_append_right _ h)) tyX0 tyX0_ok nmX0 hown hK hP hD hS 0 rfl rfl 2 (by decide) (hts _ (List.mem_of_getElem? (i := 3) rfl)) (fun _ h9 => h9) rfl (tyX0_ok 2 (by decide)) rfl rfl (Nat.le_of_ble_eq_true rfl) dX0_beLike_21 (fun H locs hP hD hS => ?_)
  have hP : va_P D vwCl [(h_this, .inr (0, o0 (u_a1.1, u_a1.2.1, u_a1.2.2.1, u_this.2.2.2.1, u_this.2.2.2.2.1, u_this.2.2.2.2.2.1, u_this.2.2.2.2.2.2))), (h_a1, .inr (0, o0 u_a1))] H := hP
  have hD : va_D A [(h_this, .inr (0, o0 (u_a1.1, u_a1.2.1, u_a1.2.2.1, u_this.2.2.2.1, u_this.2.2.2.2.1, u_this.2.2.2.2.2.1, u_this.2.2.2.2.2.2))), (h_a1, .inr (0, o0 u_a1))] := hD
  refine lv_aload_n hx hb dX0_beLike_24 rfl (lv_at hl 0 rfl) ?_
  refine lv_aload_n hx hb dX0_beLike_25 rfl (lv_at hl 1 rfl) ?_
  refine va_get (D := D) (ci := 0) (v := .int u_a1.2.2.2.1) (C := RX0) (T := TX0) (N := 7) hx hb hts (fun w h => List.mem_cons_of_mem _ (List.mem_append_right _ h)) hown hK hP 1 rfl rfl 3 (by decide) (hts _ (List.mem_of_getElem? (i := 4) rfl)) (fun _ h9 => h9) rfl dX0_beLike_26 ?_
  refine va_put (D := D) (ci := 0) (v := .int u_a1.2.2.2.1) (C := RX0) (T := TX0) (N := 7) hx hb hts (fun w h => List.mem_cons_of_mem _ (List.mem_append_right _ h)) tyX0 tyX0_ok nmX0 hown hK hP hD hS 0 rfl rfl 3 (by decide) (hts _ (List.mem_of_getElem? (i := 4) rfl)) (fun _ h9 => h9) rfl (tyX0_ok 3 (by decide)) rfl rfl (Nat.le_of_ble_eq_true rfl) dX0_beLike_29 (fun H locs hP hD hS => ?_)
  have hP : va_P D vwCl [(h_this, .inr (0, o0 (u_a1.1, u_a1.2.1, u_a1.2.2.1, u_a1.2.2.2.1, u_this.2.2.2.2.1, u_this.2.2.2.2.2.1, u_this.2.2.2.2.2.2))), (h_a1, .inr (0, o0 u_a1))] H := hP
  have hD : va_D A [(h_this, .inr (0, o0 (u_a1.1, u_a1.2.1, u_a1.2.2.1, u_a1.2.2.2.1, u_this.2.2.2.2.1, u_this.2.2.2.2.2.1, u_this.2.2.2.2.2.2))), (h_a1, .inr (0, o0 u_a1))] := hD
  refine lv_aload_n hx hb dX0_beLike_32 rfl (lv_at hl 0 rfl) ?_
  refine lv_aload_n hx hb dX0_beLike_33 rfl (lv_at hl 1 rfl) ?_
  refine va_get (D := D) (ci := 0) (v := .int u_a1.2.2.2.2.1) (C := RX0) (T := TX0) (N := 7) hx hb hts (fun w h => List.mem_cons_of_mem _ (List.mem_append_right _ h)) hown hK hP 1 rfl rfl 4 (by decide) (hts _ (List.mem_of_getElem? (i := 5) rfl)) (fun _ h9 => h9) rfl dX0_beLike_34 ?_
  refine va_put (D := D) (ci := 0) (v := .int u_a1.2.2.2.2.1) (C := RX0) (T := TX0) (N := 7) hx hb hts (fun w h => List.mem_cons_of_mem _ (List.mem_append_right _ h)) tyX0 tyX0_ok nmX0 hown hK hP hD hS 0 rfl rfl 4 (by decide) (hts _ (List.mem_of_getElem? (i := 5) rfl)) (fun _ h9 => h9) rfl (tyX0_ok 4 (by decide)) rfl rfl (Nat.le_of_ble_eq_true rfl) dX0_beLike_37 (fun H locs hP hD hS => ?_)
  have hP : va_P D vwCl [(h_this, .inr (0, o0 (u_a1.1, u_a1.2.1, u_a1.2.2.1, u_a1.2.2.2.1, u_a1.2.2.2.2.1, u_this.2.2.2.2.2.1, u_this.2.2.2.2.2.2))), (h_a1, .inr (0, o0 u_a1))] H := hP
  have hD : va_D A [(h_this, .inr (0, o0 (u_a1.1, u_a1.2.1, u_a1.2.2.1, u_a1.2.2.2.1, u_a1.2.2.2.2.1, u_this.2.2.2.2.2.1, u_this.2.2.2.2.2.2))), (h_a1, .inr (0, o0 u_a1))] := hD
  refine lv_aload_n hx hb dX0_beLike_40 rfl (lv_at hl 0 rfl) ?_
  refine lv_aload_n hx hb dX0_beLike_41 rfl (lv_at hl 1 rfl) ?_
  refine va_get (D := D) (ci := 0) (v := .int u_a1.2.2.2.2.2.1) (C := RX0) (T := TX0) (N := 7) hx hb hts (fun w h => List.mem_cons_of_mem _ (List.mem_append_right _ h)) hown hK hP 1 rfl rfl 5 (by decide) (hts _ (List.mem_of_getElem? (i := 6) rfl)) (fun _ h9 => h9) rfl dX0_beLike_42 ?_
  refine va_put (D := D) (ci := 0) (v := .int u_a1.2.2.2.2.2.1) (C := RX0) (T := TX0) (N := 7) hx hb hts (fun w h => List.mem_cons_of_mem _ (List.mem_append_right _ h)) tyX0 tyX0_ok nmX0 hown hK hP hD hS 0 rfl rfl 5 (by decide) (hts _ (List.mem_of_getElem? (i := 6) rfl)) (fun _ h9 => h9) rfl (tyX0_ok 5 (by decide)) rfl rfl (Nat.le_of_ble_eq_true rfl) dX0_beLike_45 (fun H locs hP hD hS => ?_)
  have hP : va_P D vwCl [(h_this, .inr (0, o0 (u_a1.1, u_a1.2.1, u_a1.2.2.1, u_a1.2.2.2.1, u_a1.2.2.2.2.1, u_a1.2.2.2.2.2.1, u_this.2.2.2.2.2.2))), (h_a1, .inr (0, o0 u_a1))] H := hP
  have hD : va_D A [(h_this, .inr (0, o0 (u_a1.1, u_a1.2.1, u_a1.2.2.1, u_a1.2.2.2.1, u_a1.2.2.2.2.1, u_a1.2.2.2.2.2.1, u_this.2.2.2.2.2.2))), (h_a1, .inr (0, o0 u_a1))] := hD
  refine lv_aload_n hx hb dX0_beLike_48 rfl (lv_at hl 0 rfl) ?_
  refine lv_aload_n hx hb dX0_beLike_49 rfl (lv_at hl 1 rfl) ?_
  refine va_get (D := D) (ci := 0) (v := .int u_a1.2.2.2.2.2.2) (C := RX0) (T := TX0) (N := 7) hx hb hts (fun w h => List.mem_cons_of_mem _ (List.mem_append_right _ h)) hown hK hP 1 rfl rfl 6 (by decide) (hts _ (List.mem_of_getElem? (i := 7) rfl)) (fun _ h9 => h9) rfl dX0_beLike_50 ?_
  refine va_put (D := D) (ci := 0) (v := .int u_a1.2.2.2.2.2.2) (C := RX0) (T := TX0) (N := 7) hx hb hts (fun w h => List.mem_cons_of_mem _ (List.mem_append_right _ h)) tyX0 tyX0_ok nmX0 hown hK hP hD hS 0 rfl rfl 6 (by decide) (hts _ (List.mem_of_getElem? (i := 7) rfl)) (fun _ h9 => h9) rfl (tyX0_ok 6 (by decide)) rfl rfl (Nat.le_of_ble_eq_true rfl) dX0_beLike_53 (fun H locs hP hD hS => ?_)
  have hP : va_P D vwCl [(h_this, .inr (0, o0 (u_a1.1, u_a1.2.1, u_a1.2.2.1, u_a1.2.2.2.1, u_a1.2.2.2.2.1, u_a1.2.2.2.2.2.1, u_a1.2.2.2.2.2.2))), (h_a1, .inr (0, o0 u_a1))] H := hP
  have hD : va_D A [(h_this, .inr (0, o0 (u_a1.1, u_a1.2.1, u_a1.2.2.1, u_a1.2.2.2.1, u_a1.2.2.2.2.1, u_a1.2.2.2.2.2.1, u_a1.2.2.2.2.2.2))), (h_a1, .inr (0, o0 u_a1))] := hD
  obtain rfl := hM
  exact xretv hx hb hr hlocks hP hK hD hS dX0_beLike_56
def f_X0_pullOnce (u_this : K0) (u_a1 : K4) : Option (Int32 × K0) :=
  (f_X4_depth u_a1 u_this.2.2.1).bind fun r1 =>
  ((if (f_X4_gain u_a1 u_this.2.1 r1) ≤ (0) then
     (some (0))
    else
     (some ((r1 - u_this.1) / (10))) : Option (Int32))).bind fun v3 =>
  if (r1 - (f_X4_lift u_a1)) ≤ (0) then
   (if u_this.1 < (f_X4_gain u_a1 u_this.2.1 r1) then
     (some (((f_X4_gain u_a1 u_this.2.1 r1) - u_this.1), (0, 100, (u_this.2.2.1 + ((f_X4_gain u_a1 u_this.2.1 r1) - u_this.1)), (u_this.2.2.2.1 + ((f_X4_gain u_a1 u_this.2.1 r1) - u_this.1)), u_this.2.2.2.2.1, u_this.2.2.2.2.2.1, v3)))
    else
     (some (0, ((u_this.1 - (f_X4_gain u_a1 u_this.2.1 r1)), u_this.2.1, u_this.2.2.1, u_this.2.2.2.1, u_this.2.2.2.2.1, u_this.2.2.2.2.2.1, v3))))
  else
   (some (0, ((xmin u_this.1 (xmax (r1 - (f_X4_lift u_a1)) (u_this.1 - (f_X4_gain u_a1 u_this.2.1 r1)))), u_this.2.1, u_this.2.2.1, u_this.2.2.2.1, u_this.2.2.2.2.1, u_this.2.2.2.2.2.1, v3)))
set_option maxHeartbeats 4000000 in
set_option maxRecDepth 100000 in
theorem c_X0_pullOnce (l : Launch) (D : va_G) (T : xT) (h_this h_a1 : Nat) {sz : Nat} (u_this : K0) (u_a1 : K4) {rv : Int32 × K0} (hM : f_X0_pullOnce u_this u_a1 = some rv) : Met l yX0_pullOnce wsX0_pullOnce ({ frames := 2, cells := 0, slots := 0, locals := 43 } : Room) (va_Pc [.ref h_this, .ref h_a1] (xPre D T [(h_this, .inr (0, o0 u_this)), (h_a1, .inr (4, o4 u_a1))] sz xE0)) (va_Qi (fun (r : Int32) (_ : Unit) => r = rv.1) (fun _ => xPost D T [(h_this, .inr (0, o0 rv.2)), (h_a1, .inr (4, o4 u_a1))] (va_A [(h_this, .inr (0, o0 u_this)), (h_a1, .inr (4, o4 u_a1))] sz)) (va_A [(h_this, .inr (0, o0 u_this)), (h_a1, .inr (4, o4 u_a1))] sz)) 0 0 (va_A [(h_this, .inr (0, o0 u_this)), (h_a1, .inr (4, o4 u_a1))] sz) := by
  refine xMet (av := [.ref h_this, .ref h_a1]) (Wd := [(h_this, .inr (0, o0 u_this)), (h_a1, .inr (4, o4 u_a1))]) (E := xE0) (Qc := fun A => (va_Qi (fun (r : Int32) (_ : Unit) => r = rv.1) (fun _ => xPost D T [(h_this, .inr (0, o0 rv.2)), (h_a1, .inr (4, o4 u_a1))] A) A)) (cc := cX0_pullOnce) (maxL := 6) (ret := (some .int)) (by decide) rfl (Nat.le_of_ble_eq_true rfl) ?_
  intro p e s m below meth c A ls hx hb hr hml hts hown hlocks hnm hP hK hD hS hA hE hl
  have hown : s.vm.findClass RX0 = some m.cls := hown
  have hl : lv_has ls 6 [(0, .ref h_this), (1, .ref h_a1)] := hl
  unfold f_X0_pullOnce at hM
  refine lv_aload_n hx hb dX0_pullOnce_0 rfl (lv_at hl 1 rfl) ?_
  refine lv_aload_n hx hb dX0_pullOnce_1 rfl (lv_at hl 0 rfl) ?_
  refine va_get (D := D) (ci := 0) (v := .int u_this.2.2.1) (C := RX0) (T := TX0) (N := 7) hx hb hts (fun w h => List.mem_cons_of_mem _ (List.mem_append_left _ (List.mem_append_right _ h))) hown hK hP 0 rfl rfl 2 (by decide) (hts _ (List.mem_of_getElem? (i := 1) rfl)) (fun _ h9 => h9) rfl dX0_pullOnce_2 ?_
  obtain ⟨r1, er1, hM⟩ := xbd hM
  refine xafti (rv := r1) (W2 := [(h_this, .inr (0, o0 u_this)), (h_a1, .inr (4, o4 u_a1))]) (va_runV (As := [.int u_this.2.2.1]) (rest := []) ⟨hx, hb, hml, hown, hts⟩ (c_X4_depth l D T h_a1 u_a1 u_this.2.2.1 er1) (cwV 1 hts gX0_pullOnce_X4_depth rfl rfl rfl (by decide +kernel) ⟨Nat.le_of_ble_eq_true rfl, Nat.le_of_ble_eq_true rfl⟩) (xpvv hP hD hK [1] (by decide) rfl 0 4 rfl rfl (fun _ _ _ => trivial) (fun _ _ _ _ _ _ => trivial)) rfl rfl hl.1 rfl (lv_room (Nat.le_of_ble_eq_true rfl)) dX0_pullOnce_5 ⟨Nat.le_of_ble_eq_true rfl, Nat.le_of_ble_eq_true rfl⟩) hP hD hS hA [1] rfl rfl rfl rfl (fun H locs hP hD hS => ?_)
  refine lv_istore_n (lv' := [(2, .int r1), (0, .ref h_this), (1, .ref h_a1)]) hx hb dX0_pullOnce_8 rfl hl (by decide) rfl (fun ls hl => ?_)
  refine lv_aload_n hx hb dX0_pullOnce_9 rfl (lv_at hl 2 rfl) ?_
  refine lv_aload_n hx hb dX0_pullOnce_10 rfl (lv_at hl 1 rfl) ?_
  refine va_get (D := D) (ci := 0) (v := .int u_this.2.1) (C := RX0) (T := TX0) (N := 7) hx hb hts (fun w h => List.mem_cons_of_mem _ (List.mem_append_left _ (List.mem_append_right _ h))) hown hK hP 0 rfl rfl 1 (by decide) (hts _ (List.mem_of_getElem? (i := 2) rfl)) (fun _ h9 => h9) rfl dX0_pullOnce_11 ?_
  refine lv_iload_n hx hb dX0_pullOnce_14 rfl (lv_at hl 0 rfl) ?_
  refine xafti (rv := (f_X4_gain u_a1 u_this.2.1 r1)) (W2 := [(h_this, .inr (0, o0 u_this)), (h_a1, .inr (4, o4 u_a1))]) (va_runV (As := [.int u_this.2.1, .int r1]) (rest := []) ⟨hx, hb, hml, hown, hts⟩ (c_X4_gain (rv := (f_X4_gain u_a1 u_this.2.1 r1)) l D T h_a1 u_a1 u_this.2.1 r1 rfl) (cwV 2 hts gX0_pullOnce_X4_gain rfl rfl rfl (by decide +kernel) ⟨Nat.le_of_ble_eq_true rfl, Nat.le_of_ble_eq_true rfl⟩) (xpvv hP hD hK [1] (by decide) rfl 0 4 rfl rfl (fun _ _ _ => trivial) (fun _ _ _ _ _ _ => trivial)) rfl rfl hl.1 rfl (lv_room (Nat.le_of_ble_eq_true rfl)) dX0_pullOnce_15 ⟨Nat.le_of_ble_eq_true rfl, Nat.le_of_ble_eq_true rfl⟩) hP hD hS hA [1] rfl rfl rfl rfl (fun H locs hP hD hS => ?_)
  refine lv_istore_n (lv' := [(3, .int (f_X4_gain u_a1 u_this.2.1 r1)), (2, .int r1), (0, .ref h_this), (1, .ref h_a1)]) hx hb dX0_pullOnce_18 rfl hl (by decide) rfl (fun ls hl => ?_)
  refine lv_aload_n hx hb dX0_pullOnce_19 rfl (lv_at hl 2 rfl) ?_
  refine lv_iload_n hx hb dX0_pullOnce_20 rfl (lv_at hl 0 rfl) ?_
  obtain ⟨v3, hM, hNv3⟩ := xbd hM
  have Kv3 : ∀ (H : Heap) (locs : List Loc) (ls : Array Slot), va_P D vwCl [(h_this, .inr (0, o0 u_this)), (h_a1, .inr (4, o4 u_a1))] H → va_D A [(h_this, .inr (0, o0 u_this)), (h_a1, .inr (4, o4 u_a1))] → va_S A s.heap H locs → lv_has ls 6 [(0, .ref h_this), (1, .ref h_a1), (2, .int r1), (3, .int (f_X4_gain u_a1 u_this.2.1 r1))] → W p l e ({ frames := 2, cells := 0, slots := 0, locals := 43 } : Room) s m ([.ref h_this, .ref h_a1] : List Value).toArray below meth c H locs 0 0 (MQ below (va_Qi (fun (r : Int32) (_ : Unit) => r = rv.1) (fun _ => xPost D T [(h_this, .inr (0, o0 rv.2)), (h_a1, .inr (4, o4 u_a1))] A) A) ([.ref h_this, .ref h_a1] : List Value).toArray s 0 0 A) (F0 m 37 ls [.int v3, .ref h_this]) := by
    intro H locs ls hP hD hS hl
    have hM := hNv3
    refine va_put (D := D) (ci := 0) (v := .int v3) (C := RX0) (T := TX0) (N := 7) hx hb hts (fun w h => List.mem_cons_of_mem _ (List.mem_append_left _ (List.mem_append_right _ h))) tyX0 tyX0_ok nmX0 hown hK hP hD hS 0 rfl rfl 6 (by decide) (hts _ (List.mem_of_getElem? (i := 4) rfl)) (fun _ h9 => h9) rfl (tyX0_ok 6 (by decide)) rfl rfl (Nat.le_of_ble_eq_true rfl) dX0_pullOnce_37 (fun H locs hP hD hS => ?_)
    have hP : va_P D vwCl [(h_this, .inr (0, o0 (u_this.1, u_this.2.1, u_this.2.2.1, u_this.2.2.2.1, u_this.2.2.2.2.1, u_this.2.2.2.2.2.1, v3))), (h_a1, .inr (4, o4 u_a1))] H := hP
    have hD : va_D A [(h_this, .inr (0, o0 (u_this.1, u_this.2.1, u_this.2.2.1, u_this.2.2.2.1, u_this.2.2.2.2.1, u_this.2.2.2.2.2.1, v3))), (h_a1, .inr (4, o4 u_a1))] := hD
    refine lv_iload_n hx hb dX0_pullOnce_40 rfl (lv_at hl 2 rfl) ?_
    refine lv_aload_n hx hb dX0_pullOnce_41 rfl (lv_at hl 1 rfl) ?_
    refine xafti (rv := (f_X4_lift u_a1)) (W2 := [(h_this, .inr (0, o0 (u_this.1, u_this.2.1, u_this.2.2.1, u_this.2.2.2.1, u_this.2.2.2.2.1, u_this.2.2.2.2.2.1, v3))), (h_a1, .inr (4, o4 u_a1))]) (va_runV (As := []) (rest := [.int r1]) ⟨hx, hb, hml, hown, hts⟩ (c_X4_lift (rv := (f_X4_lift u_a1)) l D T h_a1 u_a1 rfl) (cwV 0 hts gX0_pullOnce_X4_lift rfl rfl rfl (by decide +kernel) ⟨Nat.le_of_ble_eq_true rfl, Nat.le_of_ble_eq_true rfl⟩) (xpvv hP hD hK [1] (by decide) rfl 0 4 rfl rfl (fun _ _ _ => trivial) (fun _ _ _ _ _ _ => trivial)) rfl rfl hl.1 rfl (lv_room (Nat.le_of_ble_eq_true rfl)) dX0_pullOnce_42 ⟨Nat.le_of_ble_eq_true rfl, Nat.le_of_ble_eq_true rfl⟩) hP hD hS hA [1] rfl rfl rfl rfl (fun H locs hP hD hS => ?_)
    refine lv_isub hx hb dX0_pullOnce_45 ?_
    refine lv_istore (lv' := [(4, .int (r1 - (f_X4_lift u_a1))), (0, .ref h_this), (1, .ref h_a1), (2, .int r1), (3, .int (f_X4_gain u_a1 u_this.2.1 r1))]) hx hb dX0_pullOnce_46 hl (by decide) rfl (fun ls hl => ?_)
    refine lv_iload hx hb dX0_pullOnce_48 (lv_at hl 0 rfl) ?_
    refine lv_if_le (tgt := 77) hx hb dX0_pullOnce_50 (by decide) (fun c4 => ?_) (fun c4 => ?_)
    · have hM := xit c4 hM
      refine lv_iload_n hx hb dX0_pullOnce_77 rfl (lv_at hl 4 rfl) ?_
      refine lv_aload_n hx hb dX0_pullOnce_78 rfl (lv_at hl 1 rfl) ?_
      refine va_get (D := D) (ci := 0) (v := .int u_this.1) (C := RX0) (T := TX0) (N := 7) hx hb hts (fun w h => List.mem_cons_of_mem _ (List.mem_append_left _ (List.mem_append_right _ h))) hown hK hP 0 rfl rfl 0 (by decide) (hts _ (List.mem_of_getElem? (i := 3) rfl)) (fun _ h9 => h9) rfl dX0_pullOnce_79 ?_
      refine lv_icmp_gt (tgt := 97) hx hb dX0_pullOnce_82 (by decide) (fun c5 => ?_) (fun c5 => ?_)
      · have hM := xit c5 hM
        refine lv_iload_n hx hb dX0_pullOnce_97 rfl (lv_at hl 4 rfl) ?_
        refine lv_aload_n hx hb dX0_pullOnce_98 rfl (lv_at hl 1 rfl) ?_
        refine va_get (D := D) (ci := 0) (v := .int u_this.1) (C := RX0) (T := TX0) (N := 7) hx hb hts (fun w h => List.mem_cons_of_mem _ (List.mem_append_left _ (List.mem_append_right _ h))) hown hK hP 0 rfl rfl 0 (by decide) (hts _ (List.mem_of_getElem? (i := 3) rfl)) (fun _ h9 => h9) rfl dX0_pullOnce_99 ?_
        refine lv_isub hx hb dX0_pullOnce_102 ?_
        refine lv_istore (lv' := [(5, .int ((f_X4_gain u_a1 u_this.2.1 r1) - u_this.1)), (4, .int (r1 - (f_X4_lift u_a1))), (0, .ref h_this), (1, .ref h_a1), (2, .int r1), (3, .int (f_X4_gain u_a1 u_this.2.1 r1))]) hx hb dX0_pullOnce_103 hl (by decide) rfl (fun ls hl => ?_)
        refine lv_aload_n hx hb dX0_pullOnce_105 rfl (lv_at hl 2 rfl) ?_
        refine lv_iconst (v := 0) hx hb dX0_pullOnce_106 (by decide) ?_
        refine va_put (D := D) (ci := 0) (v := .int (0)) (C := RX0) (T := TX0) (N := 7) hx hb hts (fun w h => List.mem_cons_of_mem _ (List.mem_append_left _ (List.mem_append_right _ h))) tyX0 tyX0_ok nmX0 hown hK hP hD hS 0 rfl rfl 0 (by decide) (hts _ (List.mem_of_getElem? (i := 3) rfl)) (fun _ h9 => h9) rfl (tyX0_ok 0 (by decide)) rfl rfl (Nat.le_of_ble_eq_true rfl) dX0_pullOnce_107 (fun H locs hP hD hS => ?_)
        have hP : va_P D vwCl [(h_this, .inr (0, o0 (0, u_this.2.1, u_this.2.2.1, u_this.2.2.2.1, u_this.2.2.2.2.1, u_this.2.2.2.2.2.1, v3))), (h_a1, .inr (4, o4 u_a1))] H := hP
        have hD : va_D A [(h_this, .inr (0, o0 (0, u_this.2.1, u_this.2.2.1, u_this.2.2.2.1, u_this.2.2.2.2.1, u_this.2.2.2.2.2.1, v3))), (h_a1, .inr (4, o4 u_a1))] := hD
        refine lv_aload_n hx hb dX0_pullOnce_110 rfl (lv_at hl 2 rfl) ?_
        refine lv_bipush (v := 100) hx hb dX0_pullOnce_111 (by decide) ?_
        refine va_put (D := D) (ci := 0) (v := .int (100)) (C := RX0) (T := TX0) (N := 7) hx hb hts (fun w h => List.mem_cons_of_mem _ (List.mem_append_left _ (List.mem_append_right _ h))) tyX0 tyX0_ok nmX0 hown hK hP hD hS 0 rfl rfl 1 (by decide) (hts _ (List.mem_of_getElem? (i := 2) rfl)) (fun _ h9 => h9) rfl (tyX0_ok 1 (by decide)) rfl rfl (Nat.le_of_ble_eq_true rfl) dX0_pullOnce_113 (fun H locs hP hD hS => ?_)
        have hP : va_P D vwCl [(h_this, .inr (0, o0 (0, 100, u_this.2.2.1, u_this.2.2.2.1, u_this.2.2.2.2.1, u_this.2.2.2.2.2.1, v3))), (h_a1, .inr (4, o4 u_a1))] H := hP
        have hD : va_D A [(h_this, .inr (0, o0 (0, 100, u_this.2.2.1, u_this.2.2.2.1, u_this.2.2.2.2.1, u_this.2.2.2.2.2.1, v3))), (h_a1, .inr (4, o4 u_a1))] := hD
        refine lv_aload_n hx hb dX0_pullOnce_116 rfl (lv_at hl 2 rfl) ?_
        refine lv_dup hx hb dX0_pullOnce_117 rfl ?_
        refine va_get (D := D) (ci := 0) (v := .int u_this.2.2.1) (C := RX0) (T := TX0) (N := 7) hx hb hts (fun w h => List.mem_cons_of_mem _ (List.mem_append_left _ (List.mem_append_right _ h))) hown hK hP 0 rfl rfl 2 (by decide) (hts _ (List.mem_of_getElem? (i := 1) rfl)) (fun _ h9 => h9) rfl dX0_pullOnce_118 ?_
        refine lv_iload hx hb dX0_pullOnce_121 (lv_at hl 0 rfl) ?_
        refine lv_iadd hx hb dX0_pullOnce_123 ?_
        refine va_put (D := D) (ci := 0) (v := .int (u_this.2.2.1 + ((f_X4_gain u_a1 u_this.2.1 r1) - u_this.1))) (C := RX0) (T := TX0) (N := 7) hx hb hts (fun w h => List.mem_cons_of_mem _ (List.mem_append_left _ (List.mem_append_right _ h))) tyX0 tyX0_ok nmX0 hown hK hP hD hS 0 rfl rfl 2 (by decide) (hts _ (List.mem_of_getElem? (i := 1) rfl)) (fun _ h9 => h9) rfl (tyX0_ok 2 (by decide)) rfl rfl (Nat.le_of_ble_eq_true rfl) dX0_pullOnce_124 (fun H locs hP hD hS => ?_)
        have hP : va_P D vwCl [(h_this, .inr (0, o0 (0, 100, (u_this.2.2.1 + ((f_X4_gain u_a1 u_this.2.1 r1) - u_this.1)), u_this.2.2.2.1, u_this.2.2.2.2.1, u_this.2.2.2.2.2.1, v3))), (h_a1, .inr (4, o4 u_a1))] H := hP
        have hD : va_D A [(h_this, .inr (0, o0 (0, 100, (u_this.2.2.1 + ((f_X4_gain u_a1 u_this.2.1 r1) - u_this.1)), u_this.2.2.2.1, u_this.2.2.2.2.1, u_this.2.2.2.2.2.1, v3))), (h_a1, .inr (4, o4 u_a1))] := hD
        refine lv_aload_n hx hb dX0_pullOnce_127 rfl (lv_at hl 2 rfl) ?_
        refine lv_dup hx hb dX0_pullOnce_128 rfl ?_
        refine va_get (D := D) (ci := 0) (v := .int u_this.2.2.2.1) (C := RX0) (T := TX0) (N := 7) hx hb hts (fun w h => List.mem_cons_of_mem _ (List.mem_append_left _ (List.mem_append_right _ h))) hown hK hP 0 rfl rfl 3 (by decide) (hts _ (List.mem_of_getElem? (i := 12) rfl)) (fun _ h9 => h9) rfl dX0_pullOnce_129 ?_
        refine lv_iload hx hb dX0_pullOnce_132 (lv_at hl 0 rfl) ?_
        refine lv_iadd hx hb dX0_pullOnce_134 ?_
        refine va_put (D := D) (ci := 0) (v := .int (u_this.2.2.2.1 + ((f_X4_gain u_a1 u_this.2.1 r1) - u_this.1))) (C := RX0) (T := TX0) (N := 7) hx hb hts (fun w h => List.mem_cons_of_mem _ (List.mem_append_left _ (List.mem_append_right _ h))) tyX0 tyX0_ok nmX0 hown hK hP hD hS 0 rfl rfl 3 (by decide) (hts _ (List.mem_of_getElem? (i := 12) rfl)) (fun _ h9 => h9) rfl (tyX0_ok 3 (by decide)) rfl rfl (Nat.le_of_ble_eq_true rfl) dX0_pullOnce_135 (fun H locs hP hD hS => ?_)
        have hP : va_P D vwCl [(h_this, .inr (0, o0 (0, 100, (u_this.2.2.1 + ((f_X4_gain u_a1 u_this.2.1 r1) - u_this.1)), (u_this.2.2.2.1 + ((f_X4_gain u_a1 u_this.2.1 r1) - u_this.1)), u_this.2.2.2.2.1, u_this.2.2.2.2.2.1, v3))), (h_a1, .inr (4, o4 u_a1))] H := hP
        have hD : va_D A [(h_this, .inr (0, o0 (0, 100, (u_this.2.2.1 + ((f_X4_gain u_a1 u_this.2.1 r1) - u_this.1)), (u_this.2.2.2.1 + ((f_X4_gain u_a1 u_this.2.1 r1) - u_this.1)), u_this.2.2.2.2.1, u_this.2.2.2.2.2.1, v3))), (h_a1, .inr (4, o4 u_a1))] := hD
        refine lv_iload hx hb dX0_pullOnce_138 (lv_at hl 0 rfl) ?_
        obtain rfl := Option.some.inj hM
        exact xreti hx hb hr hlocks hP hK hD hS dX0_pullOnce_140 rfl
      · have hM := xif c5 hM
        refine lv_aload_n hx hb dX0_pullOnce_85 rfl (lv_at hl 1 rfl) ?_
        refine lv_dup hx hb dX0_pullOnce_86 rfl ?_
        refine va_get (D := D) (ci := 0) (v := .int u_this.1) (C := RX0) (T := TX0) (N := 7) hx hb hts (fun w h => List.mem_cons_of_mem _ (List.mem_append_left _ (List.mem_append_right _ h))) hown hK hP 0 rfl rfl 0 (by decide) (hts _ (List.mem_of_getElem? (i := 3) rfl)) (fun _ h9 => h9) rfl dX0_pullOnce_87 ?_
        refine lv_iload_n hx hb dX0_pullOnce_90 rfl (lv_at hl 4 rfl) ?_
        refine lv_isub hx hb dX0_pullOnce_91 ?_
        refine va_put (D := D) (ci := 0) (v := .int (u_this.1 - (f_X4_gain u_a1 u_this.2.1 r1))) (C := RX0) (T := TX0) (N := 7) hx hb hts (fun w h => List.mem_cons_of_mem _ (List.mem_append_left _ (List.mem_append_right _ h))) tyX0 tyX0_ok nmX0 hown hK hP hD hS 0 rfl rfl 0 (by decide) (hts _ (List.mem_of_getElem? (i := 3) rfl)) (fun _ h9 => h9) rfl (tyX0_ok 0 (by decide)) rfl rfl (Nat.le_of_ble_eq_true rfl) dX0_pullOnce_92 (fun H locs hP hD hS => ?_)
        have hP : va_P D vwCl [(h_this, .inr (0, o0 ((u_this.1 - (f_X4_gain u_a1 u_this.2.1 r1)), u_this.2.1, u_this.2.2.1, u_this.2.2.2.1, u_this.2.2.2.2.1, u_this.2.2.2.2.2.1, v3))), (h_a1, .inr (4, o4 u_a1))] H := hP
        have hD : va_D A [(h_this, .inr (0, o0 ((u_this.1 - (f_X4_gain u_a1 u_this.2.1 r1)), u_this.2.1, u_this.2.2.1, u_this.2.2.2.1, u_this.2.2.2.2.1, u_this.2.2.2.2.2.1, v3))), (h_a1, .inr (4, o4 u_a1))] := hD
        refine lv_iconst (v := 0) hx hb dX0_pullOnce_95 (by decide) ?_
        obtain rfl := Option.some.inj hM
        exact xreti hx hb hr hlocks hP hK hD hS dX0_pullOnce_96 rfl
    · have hM := xif c4 hM
      refine lv_aload_n hx hb dX0_pullOnce_53 rfl (lv_at hl 1 rfl) ?_
      refine lv_aload_n hx hb dX0_pullOnce_54 rfl (lv_at hl 1 rfl) ?_
      refine va_get (D := D) (ci := 0) (v := .int u_this.1) (C := RX0) (T := TX0) (N := 7) hx hb hts (fun w h => List.mem_cons_of_mem _ (List.mem_append_left _ (List.mem_append_right _ h))) hown hK hP 0 rfl rfl 0 (by decide) (hts _ (List.mem_of_getElem? (i := 3) rfl)) (fun _ h9 => h9) rfl dX0_pullOnce_55 ?_
      refine lv_iload hx hb dX0_pullOnce_58 (lv_at hl 0 rfl) ?_
      refine lv_aload_n hx hb dX0_pullOnce_60 rfl (lv_at hl 1 rfl) ?_
      refine va_get (D := D) (ci := 0) (v := .int u_this.1) (C := RX0) (T := TX0) (N := 7) hx hb hts (fun w h => List.mem_cons_of_mem _ (List.mem_append_left _ (List.mem_append_right _ h))) hown hK hP 0 rfl rfl 0 (by decide) (hts _ (List.mem_of_getElem? (i := 3) rfl)) (fun _ h9 => h9) rfl dX0_pullOnce_61 ?_
      refine lv_iload_n hx hb dX0_pullOnce_64 rfl (lv_at hl 4 rfl) ?_
      refine lv_isub hx hb dX0_pullOnce_65 ?_
      refine va_mmax hx hb (hml.trans hl.1.symm) hown (hts _ (List.mem_of_getElem? (i := 5) rfl)) (hts _ (List.mem_of_getElem? (i := 6) rfl)) (hts _ (List.mem_of_getElem? (i := 7) rfl)) (hts _ (List.mem_of_getElem? (i := 8) rfl)) (Nat.le_of_ble_eq_true rfl) (Nat.le_of_ble_eq_true rfl) (Nat.zero_le _) (Nat.zero_le _) dX0_pullOnce_66 ?_
      refine va_mmin hx hb (hml.trans hl.1.symm) hown (hts _ (List.mem_of_getElem? (i := 9) rfl)) (hts _ (List.mem_of_getElem? (i := 10) rfl)) (hts _ (List.mem_of_getElem? (i := 7) rfl)) (hts _ (List.mem_of_getElem? (i := 11) rfl)) (Nat.le_of_ble_eq_true rfl) (Nat.le_of_ble_eq_true rfl) (Nat.zero_le _) (Nat.zero_le _) dX0_pullOnce_69 ?_
      refine va_put (D := D) (ci := 0) (v := .int (xmin u_this.1 (xmax (r1 - (f_X4_lift u_a1)) (u_this.1 - (f_X4_gain u_a1 u_this.2.1 r1))))) (C := RX0) (T := TX0) (N := 7) hx hb hts (fun w h => List.mem_cons_of_mem _ (List.mem_append_left _ (List.mem_append_right _ h))) tyX0 tyX0_ok nmX0 hown hK hP hD hS 0 rfl rfl 0 (by decide) (hts _ (List.mem_of_getElem? (i := 3) rfl)) (fun _ h9 => h9) rfl (tyX0_ok 0 (by decide)) rfl rfl (Nat.le_of_ble_eq_true rfl) dX0_pullOnce_72 (fun H locs hP hD hS => ?_)
      have hP : va_P D vwCl [(h_this, .inr (0, o0 ((xmin u_this.1 (xmax (r1 - (f_X4_lift u_a1)) (u_this.1 - (f_X4_gain u_a1 u_this.2.1 r1)))), u_this.2.1, u_this.2.2.1, u_this.2.2.2.1, u_this.2.2.2.2.1, u_this.2.2.2.2.2.1, v3))), (h_a1, .inr (4, o4 u_a1))] H := hP
      have hD : va_D A [(h_this, .inr (0, o0 ((xmin u_this.1 (xmax (r1 - (f_X4_lift u_a1)) (u_this.1 - (f_X4_gain u_a1 u_this.2.1 r1)))), u_this.2.1, u_this.2.2.1, u_this.2.2.2.1, u_this.2.2.2.2.1, u_this.2.2.2.2.2.1, v3))), (h_a1, .inr (4, o4 u_a1))] := hD
      refine lv_iconst (v := 0) hx hb dX0_pullOnce_75 (by decide) ?_
      obtain rfl := Option.some.inj hM
      exact xreti hx hb hr hlocks hP hK hD hS dX0_pullOnce_76 rfl
  refine lv_if_le (tgt := 36) hx hb dX0_pullOnce_21 (by decide) (fun c2 => ?_) (fun c2 => ?_)
  · have hM := xit c2 hM
    refine lv_iconst (v := 0) hx hb dX0_pullOnce_36 (by decide) ?_
    obtain rfl := Option.some.inj hM
    exact Kv3 _ _ _ hP hD hS (lv_sub hl [2, 3, 1, 0] rfl)
  · have hM := xif c2 hM
    refine lv_iload_n hx hb dX0_pullOnce_24 rfl (lv_at hl 1 rfl) ?_
    refine lv_aload_n hx hb dX0_pullOnce_25 rfl (lv_at hl 2 rfl) ?_
    refine va_get (D := D) (ci := 0) (v := .int u_this.1) (C := RX0) (T := TX0) (N := 7) hx hb hts (fun w h => List.mem_cons_of_mem _ (List.mem_append_left _ (List.mem_append_right _ h))) hown hK hP 0 rfl rfl 0 (by decide) (hts _ (List.mem_of_getElem? (i := 3) rfl)) (fun _ h9 => h9) rfl dX0_pullOnce_26 ?_
    refine lv_isub hx hb dX0_pullOnce_29 ?_
    refine lv_bipush (v := 10) hx hb dX0_pullOnce_30 (by decide) ?_
    refine lv_idiv hx hb dX0_pullOnce_32 (by decide) ?_
    refine lv_goto (tgt := 37) hx hb dX0_pullOnce_33 (by decide) ?_
    obtain rfl := Option.some.inj hM
    exact Kv3 _ _ _ hP hD hS (lv_sub hl [2, 3, 1, 0] rfl)
def s_X0_pull_5 (u_a1 : K4) (p2 : Int32) (v1 : Int32 × Int32 × K0) : Option ((Int32 × Int32 × K0) ⊕ (Int32 × K0)) :=
  if p2 ≤ v1.2.1 then
   (some (.inr (v1.1, (v1.2.2.1, v1.2.2.2.1, v1.2.2.2.2.1, v1.2.2.2.2.2.1, (v1.2.2.2.2.2.2.1 + p2), v1.2.2.2.2.2.2.2.1, v1.2.2.2.2.2.2.2.2))))
  else
   ((f_X0_pullOnce v1.2.2 u_a1).bind fun r3 =>
    if r3.1 = (0) then
     (if r3.2.1 = v1.2.2.1 then
       (some (.inr ((v1.1 + r3.1), (r3.2.1, r3.2.2.1, r3.2.2.2.1, r3.2.2.2.2.1, (r3.2.2.2.2.2.1 + p2), r3.2.2.2.2.2.2.1, r3.2.2.2.2.2.2.2))))
      else
       (some (.inl ((v1.1 + r3.1), v1.2.1 + 1, r3.2))))
    else
     (some (.inl ((v1.1 + r3.1), v1.2.1 + 1, r3.2))))
def f_X0_pull (N : Nat) (u_this : K0) (u_a1 : K4) (p2 : Int32) : Option (Int32 × K0) :=
  xlp (s_X0_pull_5 u_a1 p2) N (0, 0, u_this)
set_option maxHeartbeats 4000000 in
set_option maxRecDepth 100000 in
theorem c_X0_pull (l : Launch) (D : va_G) (T : xT) (h_this h_a1 : Nat) {sz : Nat} {N : Nat} (u_this : K0) (u_a1 : K4) (p2 : Int32) {rv : Int32 × K0} (hM : f_X0_pull N u_this u_a1 p2 = some rv) : Met l yX0_pull wsX0_pull ({ frames := 3, cells := 0, slots := 0, locals := 68 } : Room) (va_Pc [.ref h_this, .ref h_a1, .int p2] (xPre D T [(h_this, .inr (0, o0 u_this)), (h_a1, .inr (4, o4 u_a1))] sz xE0)) (va_Qi (fun (r : Int32) (_ : Unit) => r = rv.1) (fun _ => xPost D T [(h_this, .inr (0, o0 rv.2)), (h_a1, .inr (4, o4 u_a1))] (va_A [(h_this, .inr (0, o0 u_this)), (h_a1, .inr (4, o4 u_a1))] sz)) (va_A [(h_this, .inr (0, o0 u_this)), (h_a1, .inr (4, o4 u_a1))] sz)) 0 0 (va_A [(h_this, .inr (0, o0 u_this)), (h_a1, .inr (4, o4 u_a1))] sz) := by
  refine xMet (av := [.ref h_this, .ref h_a1, .int p2]) (Wd := [(h_this, .inr (0, o0 u_this)), (h_a1, .inr (4, o4 u_a1))]) (E := xE0) (Qc := fun A => (va_Qi (fun (r : Int32) (_ : Unit) => r = rv.1) (fun _ => xPost D T [(h_this, .inr (0, o0 rv.2)), (h_a1, .inr (4, o4 u_a1))] A) A)) (cc := cX0_pull) (maxL := 7) (ret := (some .int)) (by decide) rfl (Nat.le_of_ble_eq_true rfl) ?_
  intro p e s m below meth c A ls hx hb hr hml hts hown hlocks hnm hP hK hD hS hA hE hl
  have hown : s.vm.findClass RX0 = some m.cls := hown
  have hl : lv_has ls 7 [(0, .ref h_this), (1, .ref h_a1), (2, .int p2)] := hl
  unfold f_X0_pull at hM
  refine lv_iconst (v := 0) hx hb dX0_pull_0 (by decide) ?_
  refine lv_istore_n (lv' := [(3, .int (0)), (0, .ref h_this), (1, .ref h_a1), (2, .int p2)]) hx hb dX0_pull_1 rfl hl (by decide) rfl (fun ls hl => ?_)
  refine lv_iconst (v := 0) hx hb dX0_pull_2 (by decide) ?_
  refine lv_istore (lv' := [(4, .int (0)), (3, .int (0)), (0, .ref h_this), (1, .ref h_a1), (2, .int p2)]) hx hb dX0_pull_3 hl (by decide) rfl (fun ls hl => ?_)
  have Lv1 : ∀ (n : Nat) (v1 : Int32 × Int32 × K0), xlp (s_X0_pull_5 u_a1 p2) n v1 = some rv → ∀ (H : Heap) (locs : List Loc) (ls : Array Slot), va_P D vwCl [(h_this, .inr (0, o0 v1.2.2)), (h_a1, .inr (4, o4 u_a1))] H → va_D A [(h_this, .inr (0, o0 v1.2.2)), (h_a1, .inr (4, o4 u_a1))] → va_S A s.heap H locs → lv_has ls 7 [(0, .ref h_this), (1, .ref h_a1), (2, .int p2), (3, .int v1.1), (4, .int v1.2.1)] → W p l e ({ frames := 3, cells := 0, slots := 0, locals := 68 } : Room) s m ([.ref h_this, .ref h_a1, .int p2] : List Value).toArray below meth c H locs 0 0 (MQ below (va_Qi (fun (r : Int32) (_ : Unit) => r = rv.1) (fun _ => xPost D T [(h_this, .inr (0, o0 rv.2)), (h_a1, .inr (4, o4 u_a1))] A) A) ([.ref h_this, .ref h_a1, .int p2] : List Value).toArray s 0 0 A) (F0 m 5 ls []) := by
    intro n
    induction n with
    | zero => exact fun _ h => (xlp_0 h).elim
    | succ n ih =>
      intro v1 hM H locs ls hP hD hS hl
      obtain ⟨z, hM, hz1, hz2⟩ := xlp_s hM
      unfold s_X0_pull_5 at hM
      refine lv_iload hx hb dX0_pull_5 (lv_at hl 4 rfl) ?_
      refine lv_iload_n hx hb dX0_pull_7 rfl (lv_at hl 2 rfl) ?_
      refine lv_icmp_ge (tgt := 52) hx hb dX0_pull_8 (by decide) (fun c2 => ?_) (fun c2 => ?_)
      · have hM := xit c2 hM
        refine lv_aload_n hx hb dX0_pull_52 rfl (lv_at hl 0 rfl) ?_
        refine lv_dup hx hb dX0_pull_53 rfl ?_
        refine va_get (D := D) (ci := 0) (v := .int v1.2.2.2.2.2.2.1) (C := RX0) (T := TX0) (N := 7) hx hb hts (fun w h => List.mem_cons_of_mem _ (List.mem_append_left _ (List.mem_append_right _ h))) hown hK hP 0 rfl rfl 4 (by decide) (hts _ (List.mem_of_getElem? (i := 2) rfl)) (fun _ h9 => h9) rfl dX0_pull_54 ?_
        refine lv_iload_n hx hb dX0_pull_57 rfl (lv_at hl 2 rfl) ?_
        refine lv_iadd hx hb dX0_pull_58 ?_
        refine va_put (D := D) (ci := 0) (v := .int (v1.2.2.2.2.2.2.1 + p2)) (C := RX0) (T := TX0) (N := 7) hx hb hts (fun w h => List.mem_cons_of_mem _ (List.mem_append_left _ (List.mem_append_right _ h))) tyX0 tyX0_ok nmX0 hown hK hP hD hS 0 rfl rfl 4 (by decide) (hts _ (List.mem_of_getElem? (i := 2) rfl)) (fun _ h9 => h9) rfl (tyX0_ok 4 (by decide)) rfl rfl (Nat.le_of_ble_eq_true rfl) dX0_pull_59 (fun H locs hP hD hS => ?_)
        have hP : va_P D vwCl [(h_this, .inr (0, o0 (v1.2.2.1, v1.2.2.2.1, v1.2.2.2.2.1, v1.2.2.2.2.2.1, (v1.2.2.2.2.2.2.1 + p2), v1.2.2.2.2.2.2.2.1, v1.2.2.2.2.2.2.2.2))), (h_a1, .inr (4, o4 u_a1))] H := hP
        have hD : va_D A [(h_this, .inr (0, o0 (v1.2.2.1, v1.2.2.2.1, v1.2.2.2.2.1, v1.2.2.2.2.2.1, (v1.2.2.2.2.2.2.1 + p2), v1.2.2.2.2.2.2.2.1, v1.2.2.2.2.2.2.2.2))), (h_a1, .inr (4, o4 u_a1))] := hD
        refine lv_iload_n hx hb dX0_pull_62 rfl (lv_at hl 3 rfl) ?_
        obtain rfl := hz2 _ (Option.some.inj hM).symm
        exact xreti hx hb hr hlocks hP hK hD hS dX0_pull_63 rfl
      · have hM := xif c2 hM
        refine lv_aload_n hx hb dX0_pull_11 rfl (lv_at hl 0 rfl) ?_
        refine va_get (D := D) (ci := 0) (v := .int v1.2.2.1) (C := RX0) (T := TX0) (N := 7) hx hb hts (fun w h => List.mem_cons_of_mem _ (List.mem_append_left _ (List.mem_append_right _ h))) hown hK hP 0 rfl rfl 0 (by decide) (hts _ (List.mem_of_getElem? (i := 1) rfl)) (fun _ h9 => h9) rfl dX0_pull_12 ?_
        refine lv_istore (lv' := [(5, .int v1.2.2.1), (0, .ref h_this), (1, .ref h_a1), (2, .int p2), (3, .int v1.1), (4, .int v1.2.1)]) hx hb dX0_pull_15 hl (by decide) rfl (fun ls hl => ?_)
        refine lv_aload_n hx hb dX0_pull_17 rfl (lv_at hl 1 rfl) ?_
        refine lv_aload_n hx hb dX0_pull_18 rfl (lv_at hl 2 rfl) ?_
        obtain ⟨r3, er3, hM⟩ := xbd hM
        refine xafti (rv := r3.1) (W2 := [(h_this, .inr (0, o0 r3.2)), (h_a1, .inr (4, o4 u_a1))]) (va_runV (As := [.ref h_a1]) (rest := []) ⟨hx, hb, hml, hown, hts⟩ (c_X0_pullOnce l D T h_this h_a1 v1.2.2 u_a1 er3) (cwV 1 hts gX0_pull_X0_pullOnce rfl rfl rfl (by decide +kernel) ⟨Nat.le_of_ble_eq_true rfl, Nat.le_of_ble_eq_true rfl⟩) (xpvv hP hD hK [0, 1] (by decide) rfl 0 0 rfl rfl (fun _ _ _ => trivial) (fun _ _ _ _ _ _ => trivial)) rfl rfl hl.1 rfl (lv_room (Nat.le_of_ble_eq_true rfl)) dX0_pull_19 ⟨Nat.le_of_ble_eq_true rfl, Nat.le_of_ble_eq_true rfl⟩) hP hD hS hA [0, 1] rfl rfl rfl rfl (fun H locs hP hD hS => ?_)
        refine lv_istore (lv' := [(6, .int r3.1), (5, .int v1.2.2.1), (0, .ref h_this), (1, .ref h_a1), (2, .int p2), (3, .int v1.1), (4, .int v1.2.1)]) hx hb dX0_pull_22 hl (by decide) rfl (fun ls hl => ?_)
        refine lv_iload_n hx hb dX0_pull_24 rfl (lv_at hl 5 rfl) ?_
        refine lv_iload hx hb dX0_pull_25 (lv_at hl 0 rfl) ?_
        refine lv_iadd hx hb dX0_pull_27 ?_
        refine lv_istore_n (lv' := [(3, .int (v1.1 + r3.1)), (6, .int r3.1), (5, .int v1.2.2.1), (0, .ref h_this), (1, .ref h_a1), (2, .int p2), (4, .int v1.2.1)]) hx hb dX0_pull_28 rfl hl (by decide) rfl (fun ls hl => ?_)
        refine lv_iload hx hb dX0_pull_29 (lv_at hl 1 rfl) ?_
        refine lv_if_ne (tgt := 46) hx hb dX0_pull_31 (by decide) (fun c4 => ?_) (fun c4 => ?_)
        · have hM := xif c4 hM
          refine lv_iinc (v := v1.2.1 + 1) (lv' := [(4, .int (v1.2.1 + 1)), (3, .int (v1.1 + r3.1)), (6, .int r3.1), (5, .int v1.2.2.1), (0, .ref h_this), (1, .ref h_a1), (2, .int p2)]) hx hb dX0_pull_46 hl (k := 6) rfl rfl (by decide) rfl (fun ls hl => ?_)
          refine lv_goto (tgt := 5) hx hb dX0_pull_49 (by decide) ?_
          exact ih _ (hz1 _ (Option.some.inj hM).symm) _ _ _ hP hD hS (lv_sub hl [4, 5, 6, 1, 0] rfl)
        · have hM := xit c4 hM
          refine lv_aload_n hx hb dX0_pull_34 rfl (lv_at hl 3 rfl) ?_
          refine va_get (D := D) (ci := 0) (v := .int r3.2.1) (C := RX0) (T := TX0) (N := 7) hx hb hts (fun w h => List.mem_cons_of_mem _ (List.mem_append_left _ (List.mem_append_right _ h))) hown hK hP 0 rfl rfl 0 (by decide) (hts _ (List.mem_of_getElem? (i := 1) rfl)) (fun _ h9 => h9) rfl dX0_pull_35 ?_
          refine lv_iload hx hb dX0_pull_38 (lv_at hl 2 rfl) ?_
          refine lv_icmp_ne (tgt := 46) hx hb dX0_pull_40 (by decide) (fun c5 => ?_) (fun c5 => ?_)
          · have hM := xif c5 hM
            refine lv_iinc (v := v1.2.1 + 1) (lv' := [(4, .int (v1.2.1 + 1)), (3, .int (v1.1 + r3.1)), (6, .int r3.1), (5, .int v1.2.2.1), (0, .ref h_this), (1, .ref h_a1), (2, .int p2)]) hx hb dX0_pull_46 hl (k := 6) rfl rfl (by decide) rfl (fun ls hl => ?_)
            refine lv_goto (tgt := 5) hx hb dX0_pull_49 (by decide) ?_
            exact ih _ (hz1 _ (Option.some.inj hM).symm) _ _ _ hP hD hS (lv_sub hl [4, 5, 6, 1, 0] rfl)
          · have hM := xit c5 hM
            refine lv_goto (tgt := 52) hx hb dX0_pull_43 (by decide) ?_
            refine lv_aload_n hx hb dX0_pull_52 rfl (lv_at hl 3 rfl) ?_
            refine lv_dup hx hb dX0_pull_53 rfl ?_
            refine va_get (D := D) (ci := 0) (v := .int r3.2.2.2.2.2.1) (C := RX0) (T := TX0) (N := 7) hx hb hts (fun w h => List.mem_cons_of_mem _ (List.mem_append_left _ (List.mem_append_right _ h))) hown hK hP 0 rfl rfl 4 (by decide) (hts _ (List.mem_of_getElem? (i := 2) rfl)) (fun _ h9 => h9) rfl dX0_pull_54 ?_
            refine lv_iload_n hx hb dX0_pull_57 rfl (lv_at hl 5 rfl) ?_
            refine lv_iadd hx hb dX0_pull_58 ?_
            refine va_put (D := D) (ci := 0) (v := .int (r3.2.2.2.2.2.1 + p2)) (C := RX0) (T := TX0) (N := 7) hx hb hts (fun w h => List.mem_cons_of_mem _ (List.mem_append_left _ (List.mem_append_right _ h))) tyX0 tyX0_ok nmX0 hown hK hP hD hS 0 rfl rfl 4 (by decide) (hts _ (List.mem_of_getElem? (i := 2) rfl)) (fun _ h9 => h9) rfl (tyX0_ok 4 (by decide)) rfl rfl (Nat.le_of_ble_eq_true rfl) dX0_pull_59 (fun H locs hP hD hS => ?_)
            have hP : va_P D vwCl [(h_this, .inr (0, o0 (r3.2.1, r3.2.2.1, r3.2.2.2.1, r3.2.2.2.2.1, (r3.2.2.2.2.2.1 + p2), r3.2.2.2.2.2.2.1, r3.2.2.2.2.2.2.2))), (h_a1, .inr (4, o4 u_a1))] H := hP
            have hD : va_D A [(h_this, .inr (0, o0 (r3.2.1, r3.2.2.1, r3.2.2.2.1, r3.2.2.2.2.1, (r3.2.2.2.2.2.1 + p2), r3.2.2.2.2.2.2.1, r3.2.2.2.2.2.2.2))), (h_a1, .inr (4, o4 u_a1))] := hD
            refine lv_iload_n hx hb dX0_pull_62 rfl (lv_at hl 0 rfl) ?_
            obtain rfl := hz2 _ (Option.some.inj hM).symm
            exact xreti hx hb hr hlocks hP hK hD hS dX0_pull_63 rfl
  exact Lv1 _ _ hM _ _ _ hP hD hS (lv_sub hl [2, 3, 4, 1, 0] rfl)
def f_X0_pullsToWater (u_this : K0) (u_a1 : K4) : Option (Int32) :=
  (f_X4_depth u_a1 u_this.2.2.1).bind fun r1 =>
  if (f_X4_gain u_a1 u_this.2.1 r1) ≤ (0) then
   (some (0))
  else
   (if r1 ≤ (f_X4_lift u_a1) then
     (if (200) < ((u_this.1 / (f_X4_gain u_a1 u_this.2.1 r1)) + (1)) then
       (some (0))
      else
       (some ((u_this.1 / (f_X4_gain u_a1 u_this.2.1 r1)) + (1))))
    else
     (some (0)))
set_option maxHeartbeats 4000000 in
set_option maxRecDepth 100000 in
theorem c_X0_pullsToWater (l : Launch) (D : va_G) (T : xT) (h_this h_a1 : Nat) {sz : Nat} (u_this : K0) (u_a1 : K4) {rv : Int32} (hM : f_X0_pullsToWater u_this u_a1 = some rv) : Met l yX0_pullsToWater wsX0_pullsToWater ({ frames := 2, cells := 0, slots := 0, locals := 43 } : Room) (va_Pc [.ref h_this, .ref h_a1] (xPre D T [(h_this, .inr (0, o0 u_this)), (h_a1, .inr (4, o4 u_a1))] sz xE0)) (va_Qi (fun (r : Int32) (_ : Unit) => r = rv) (fun _ => xPost D T [(h_this, .inr (0, o0 u_this)), (h_a1, .inr (4, o4 u_a1))] (va_A [(h_this, .inr (0, o0 u_this)), (h_a1, .inr (4, o4 u_a1))] sz)) (va_A [(h_this, .inr (0, o0 u_this)), (h_a1, .inr (4, o4 u_a1))] sz)) 0 0 (va_A [(h_this, .inr (0, o0 u_this)), (h_a1, .inr (4, o4 u_a1))] sz) := by
  refine xMet (av := [.ref h_this, .ref h_a1]) (Wd := [(h_this, .inr (0, o0 u_this)), (h_a1, .inr (4, o4 u_a1))]) (E := xE0) (Qc := fun A => (va_Qi (fun (r : Int32) (_ : Unit) => r = rv) (fun _ => xPost D T [(h_this, .inr (0, o0 u_this)), (h_a1, .inr (4, o4 u_a1))] A) A)) (cc := cX0_pullsToWater) (maxL := 5) (ret := (some .int)) (by decide) rfl (Nat.le_of_ble_eq_true rfl) ?_
  intro p e s m below meth c A ls hx hb hr hml hts hown hlocks hnm hP hK hD hS hA hE hl
  have hown : s.vm.findClass RX0 = some m.cls := hown
  have hl : lv_has ls 5 [(0, .ref h_this), (1, .ref h_a1)] := hl
  unfold f_X0_pullsToWater at hM
  refine lv_aload_n hx hb dX0_pullsToWater_0 rfl (lv_at hl 1 rfl) ?_
  refine lv_aload_n hx hb dX0_pullsToWater_1 rfl (lv_at hl 0 rfl) ?_
  refine va_get (D := D) (ci := 0) (v := .int u_this.2.2.1) (C := RX0) (T := TX0) (N := 7) hx hb hts (fun w h => List.mem_cons_of_mem _ (List.mem_append_left _ (List.mem_append_right _ h))) hown hK hP 0 rfl rfl 2 (by decide) (hts _ (List.mem_of_getElem? (i := 1) rfl)) (fun _ h9 => h9) rfl dX0_pullsToWater_2 ?_
  obtain ⟨r1, er1, hM⟩ := xbd hM
  refine xafti (rv := r1) (W2 := [(h_this, .inr (0, o0 u_this)), (h_a1, .inr (4, o4 u_a1))]) (va_runV (As := [.int u_this.2.2.1]) (rest := []) ⟨hx, hb, hml, hown, hts⟩ (c_X4_depth l D T h_a1 u_a1 u_this.2.2.1 er1) (cwV 1 hts gX0_pullsToWater_X4_depth rfl rfl rfl (by decide +kernel) ⟨Nat.le_of_ble_eq_true rfl, Nat.le_of_ble_eq_true rfl⟩) (xpvv hP hD hK [1] (by decide) rfl 0 4 rfl rfl (fun _ _ _ => trivial) (fun _ _ _ _ _ _ => trivial)) rfl rfl hl.1 rfl (lv_room (Nat.le_of_ble_eq_true rfl)) dX0_pullsToWater_5 ⟨Nat.le_of_ble_eq_true rfl, Nat.le_of_ble_eq_true rfl⟩) hP hD hS hA [1] rfl rfl rfl rfl (fun H locs hP hD hS => ?_)
  refine lv_istore_n (lv' := [(2, .int r1), (0, .ref h_this), (1, .ref h_a1)]) hx hb dX0_pullsToWater_8 rfl hl (by decide) rfl (fun ls hl => ?_)
  refine lv_aload_n hx hb dX0_pullsToWater_9 rfl (lv_at hl 2 rfl) ?_
  refine lv_aload_n hx hb dX0_pullsToWater_10 rfl (lv_at hl 1 rfl) ?_
  refine va_get (D := D) (ci := 0) (v := .int u_this.2.1) (C := RX0) (T := TX0) (N := 7) hx hb hts (fun w h => List.mem_cons_of_mem _ (List.mem_append_left _ (List.mem_append_right _ h))) hown hK hP 0 rfl rfl 1 (by decide) (hts _ (List.mem_of_getElem? (i := 2) rfl)) (fun _ h9 => h9) rfl dX0_pullsToWater_11 ?_
  refine lv_iload_n hx hb dX0_pullsToWater_14 rfl (lv_at hl 0 rfl) ?_
  refine xafti (rv := (f_X4_gain u_a1 u_this.2.1 r1)) (W2 := [(h_this, .inr (0, o0 u_this)), (h_a1, .inr (4, o4 u_a1))]) (va_runV (As := [.int u_this.2.1, .int r1]) (rest := []) ⟨hx, hb, hml, hown, hts⟩ (c_X4_gain (rv := (f_X4_gain u_a1 u_this.2.1 r1)) l D T h_a1 u_a1 u_this.2.1 r1 rfl) (cwV 2 hts gX0_pullsToWater_X4_gain rfl rfl rfl (by decide +kernel) ⟨Nat.le_of_ble_eq_true rfl, Nat.le_of_ble_eq_true rfl⟩) (xpvv hP hD hK [1] (by decide) rfl 0 4 rfl rfl (fun _ _ _ => trivial) (fun _ _ _ _ _ _ => trivial)) rfl rfl hl.1 rfl (lv_room (Nat.le_of_ble_eq_true rfl)) dX0_pullsToWater_15 ⟨Nat.le_of_ble_eq_true rfl, Nat.le_of_ble_eq_true rfl⟩) hP hD hS hA [1] rfl rfl rfl rfl (fun H locs hP hD hS => ?_)
  refine lv_istore_n (lv' := [(3, .int (f_X4_gain u_a1 u_this.2.1 r1)), (2, .int r1), (0, .ref h_this), (1, .ref h_a1)]) hx hb dX0_pullsToWater_18 rfl hl (by decide) rfl (fun ls hl => ?_)
  refine lv_iload_n hx hb dX0_pullsToWater_19 rfl (lv_at hl 0 rfl) ?_
  refine lv_if_le (tgt := 31) hx hb dX0_pullsToWater_20 (by decide) (fun c2 => ?_) (fun c2 => ?_)
  · have hM := xit c2 hM
    refine lv_iconst (v := 0) hx hb dX0_pullsToWater_31 (by decide) ?_
    obtain rfl := Option.some.inj hM
    exact xreti hx hb hr hlocks hP hK hD hS dX0_pullsToWater_32 rfl
  · have hM := xif c2 hM
    refine lv_iload_n hx hb dX0_pullsToWater_23 rfl (lv_at hl 1 rfl) ?_
    refine lv_aload_n hx hb dX0_pullsToWater_24 rfl (lv_at hl 3 rfl) ?_
    refine xafti (rv := (f_X4_lift u_a1)) (W2 := [(h_this, .inr (0, o0 u_this)), (h_a1, .inr (4, o4 u_a1))]) (va_runV (As := []) (rest := [.int r1]) ⟨hx, hb, hml, hown, hts⟩ (c_X4_lift (rv := (f_X4_lift u_a1)) l D T h_a1 u_a1 rfl) (cwV 0 hts gX0_pullsToWater_X4_lift rfl rfl rfl (by decide +kernel) ⟨Nat.le_of_ble_eq_true rfl, Nat.le_of_ble_eq_true rfl⟩) (xpvv hP hD hK [1] (by decide) rfl 0 4 rfl rfl (fun _ _ _ => trivial) (fun _ _ _ _ _ _ => trivial)) rfl rfl hl.1 rfl (lv_room (Nat.le_of_ble_eq_true rfl)) dX0_pullsToWater_25 ⟨Nat.le_of_ble_eq_true rfl, Nat.le_of_ble_eq_true rfl⟩) hP hD hS hA [1] rfl rfl rfl rfl (fun H locs hP hD hS => ?_)
    refine lv_icmp_le (tgt := 33) hx hb dX0_pullsToWater_28 (by decide) (fun c3 => ?_) (fun c3 => ?_)
    · have hM := xit c3 hM
      refine lv_aload_n hx hb dX0_pullsToWater_33 rfl (lv_at hl 2 rfl) ?_
      refine va_get (D := D) (ci := 0) (v := .int u_this.1) (C := RX0) (T := TX0) (N := 7) hx hb hts (fun w h => List.mem_cons_of_mem _ (List.mem_append_left _ (List.mem_append_right _ h))) hown hK hP 0 rfl rfl 0 (by decide) (hts _ (List.mem_of_getElem? (i := 3) rfl)) (fun _ h9 => h9) rfl dX0_pullsToWater_34 ?_
      refine lv_iload_n hx hb dX0_pullsToWater_37 rfl (lv_at hl 0 rfl) ?_
      refine lv_idiv hx hb dX0_pullsToWater_38 (xnle c2) ?_
      refine lv_iconst (v := 1) hx hb dX0_pullsToWater_39 (by decide) ?_
      refine lv_iadd hx hb dX0_pullsToWater_40 ?_
      refine lv_istore (lv' := [(4, .int ((u_this.1 / (f_X4_gain u_a1 u_this.2.1 r1)) + (1))), (3, .int (f_X4_gain u_a1 u_this.2.1 r1)), (2, .int r1), (0, .ref h_this), (1, .ref h_a1)]) hx hb dX0_pullsToWater_41 hl (by decide) rfl (fun ls hl => ?_)
      refine lv_iload hx hb dX0_pullsToWater_43 (lv_at hl 0 rfl) ?_
      refine lv_sipush (v := 200) hx hb dX0_pullsToWater_45 (by decide) ?_
      refine lv_icmp_gt (tgt := 56) hx hb dX0_pullsToWater_48 (by decide) (fun c4 => ?_) (fun c4 => ?_)
      · have hM := xit c4 hM
        refine lv_iconst (v := 0) hx hb dX0_pullsToWater_56 (by decide) ?_
        obtain rfl := Option.some.inj hM
        exact xreti hx hb hr hlocks hP hK hD hS dX0_pullsToWater_57 rfl
      · have hM := xif c4 hM
        refine lv_iload hx hb dX0_pullsToWater_51 (lv_at hl 0 rfl) ?_
        refine lv_goto (tgt := 57) hx hb dX0_pullsToWater_53 (by decide) ?_
        obtain rfl := Option.some.inj hM
        exact xreti hx hb hr hlocks hP hK hD hS dX0_pullsToWater_57 rfl
    · have hM := xif c3 hM
      refine lv_iconst (v := 0) hx hb dX0_pullsToWater_31 (by decide) ?_
      obtain rfl := Option.some.inj hM
      exact xreti hx hb hr hlocks hP hK hD hS dX0_pullsToWater_32 rfl
def f_X0_pour (u_this : K0) (p1 : Int32) : Int32 × K0 :=
  ((xmax (0) (p1 - u_this.1)), ((xmax (0) (u_this.1 - p1)), (xmin (100) (u_this.2.1 + ((5) * p1))), u_this.2.2.1, u_this.2.2.2.1, u_this.2.2.2.2.1, u_this.2.2.2.2.2.1, u_this.2.2.2.2.2.2))
set_option maxHeartbeats 4000000 in
set_option maxRecDepth 100000 in
theorem c_X0_pour (l : Launch) (D : va_G) (T : xT) (h_this : Nat) {sz : Nat} (u_this : K0) (p1 : Int32) {rv : Int32 × K0} (hM : f_X0_pour u_this p1 = rv) : Met l yX0_pour wsX0_pour ({ frames := 1, cells := 0, slots := 0, locals := 14 } : Room) (va_Pc [.ref h_this, .int p1] (xPre D T [(h_this, .inr (0, o0 u_this))] sz xE0)) (va_Qi (fun (r : Int32) (_ : Unit) => r = rv.1) (fun _ => xPost D T [(h_this, .inr (0, o0 rv.2))] (va_A [(h_this, .inr (0, o0 u_this))] sz)) (va_A [(h_this, .inr (0, o0 u_this))] sz)) 0 0 (va_A [(h_this, .inr (0, o0 u_this))] sz) := by
  refine xMet (av := [.ref h_this, .int p1]) (Wd := [(h_this, .inr (0, o0 u_this))]) (E := xE0) (Qc := fun A => (va_Qi (fun (r : Int32) (_ : Unit) => r = rv.1) (fun _ => xPost D T [(h_this, .inr (0, o0 rv.2))] A) A)) (cc := cX0_pour) (maxL := 3) (ret := (some .int)) (by decide) rfl (Nat.le_of_ble_eq_true rfl) ?_
  intro p e s m below meth c A ls hx hb hr hml hts hown hlocks hnm hP hK hD hS hA hE hl
  have hown : s.vm.findClass RX0 = some m.cls := hown
  have hl : lv_has ls 3 [(0, .ref h_this), (1, .int p1)] := hl
  unfold f_X0_pour at hM
  refine lv_iconst (v := 0) hx hb dX0_pour_0 (by decide) ?_
  refine lv_iload_n hx hb dX0_pour_1 rfl (lv_at hl 1 rfl) ?_
  refine lv_aload_n hx hb dX0_pour_2 rfl (lv_at hl 0 rfl) ?_
  refine va_get (D := D) (ci := 0) (v := .int u_this.1) (C := RX0) (T := TX0) (N := 7) hx hb hts (fun w h => List.mem_cons_of_mem _ (List.mem_append_right _ h)) hown hK hP 0 rfl rfl 0 (by decide) (hts _ (List.mem_of_getElem? (i := 1) rfl)) (fun _ h9 => h9) rfl dX0_pour_3 ?_
  refine lv_isub hx hb dX0_pour_6 ?_
  refine va_mmax hx hb (hml.trans hl.1.symm) hown (hts _ (List.mem_of_getElem? (i := 2) rfl)) (hts _ (List.mem_of_getElem? (i := 3) rfl)) (hts _ (List.mem_of_getElem? (i := 4) rfl)) (hts _ (List.mem_of_getElem? (i := 5) rfl)) (Nat.le_of_ble_eq_true rfl) (Nat.le_of_ble_eq_true rfl) (Nat.zero_le _) (Nat.zero_le _) dX0_pour_7 ?_
  refine lv_istore_n (lv' := [(2, .int (xmax (0) (p1 - u_this.1))), (0, .ref h_this), (1, .int p1)]) hx hb dX0_pour_10 rfl hl (by decide) rfl (fun ls hl => ?_)
  refine lv_aload_n hx hb dX0_pour_11 rfl (lv_at hl 1 rfl) ?_
  refine lv_iconst (v := 0) hx hb dX0_pour_12 (by decide) ?_
  refine lv_aload_n hx hb dX0_pour_13 rfl (lv_at hl 1 rfl) ?_
  refine va_get (D := D) (ci := 0) (v := .int u_this.1) (C := RX0) (T := TX0) (N := 7) hx hb hts (fun w h => List.mem_cons_of_mem _ (List.mem_append_right _ h)) hown hK hP 0 rfl rfl 0 (by decide) (hts _ (List.mem_of_getElem? (i := 1) rfl)) (fun _ h9 => h9) rfl dX0_pour_14 ?_
  refine lv_iload_n hx hb dX0_pour_17 rfl (lv_at hl 2 rfl) ?_
  refine lv_isub hx hb dX0_pour_18 ?_
  refine va_mmax hx hb (hml.trans hl.1.symm) hown (hts _ (List.mem_of_getElem? (i := 2) rfl)) (hts _ (List.mem_of_getElem? (i := 3) rfl)) (hts _ (List.mem_of_getElem? (i := 4) rfl)) (hts _ (List.mem_of_getElem? (i := 5) rfl)) (Nat.le_of_ble_eq_true rfl) (Nat.le_of_ble_eq_true rfl) (Nat.zero_le _) (Nat.zero_le _) dX0_pour_19 ?_
  refine va_put (D := D) (ci := 0) (v := .int (xmax (0) (u_this.1 - p1))) (C := RX0) (T := TX0) (N := 7) hx hb hts (fun w h => List.mem_cons_of_mem _ (List.mem_append_right _ h)) tyX0 tyX0_ok nmX0 hown hK hP hD hS 0 rfl rfl 0 (by decide) (hts _ (List.mem_of_getElem? (i := 1) rfl)) (fun _ h9 => h9) rfl (tyX0_ok 0 (by decide)) rfl rfl (Nat.le_of_ble_eq_true rfl) dX0_pour_22 (fun H locs hP hD hS => ?_)
  have hP : va_P D vwCl [(h_this, .inr (0, o0 ((xmax (0) (u_this.1 - p1)), u_this.2.1, u_this.2.2.1, u_this.2.2.2.1, u_this.2.2.2.2.1, u_this.2.2.2.2.2.1, u_this.2.2.2.2.2.2)))] H := hP
  have hD : va_D A [(h_this, .inr (0, o0 ((xmax (0) (u_this.1 - p1)), u_this.2.1, u_this.2.2.1, u_this.2.2.2.1, u_this.2.2.2.2.1, u_this.2.2.2.2.2.1, u_this.2.2.2.2.2.2)))] := hD
  refine lv_aload_n hx hb dX0_pour_25 rfl (lv_at hl 1 rfl) ?_
  refine lv_bipush (v := 100) hx hb dX0_pour_26 (by decide) ?_
  refine lv_aload_n hx hb dX0_pour_28 rfl (lv_at hl 1 rfl) ?_
  refine va_get (D := D) (ci := 0) (v := .int u_this.2.1) (C := RX0) (T := TX0) (N := 7) hx hb hts (fun w h => List.mem_cons_of_mem _ (List.mem_append_right _ h)) hown hK hP 0 rfl rfl 1 (by decide) (hts _ (List.mem_of_getElem? (i := 6) rfl)) (fun _ h9 => h9) rfl dX0_pour_29 ?_
  refine lv_iconst (v := 5) hx hb dX0_pour_32 (by decide) ?_
  refine lv_iload_n hx hb dX0_pour_33 rfl (lv_at hl 2 rfl) ?_
  refine lv_imul hx hb dX0_pour_34 ?_
  refine lv_iadd hx hb dX0_pour_35 ?_
  refine va_mmin hx hb (hml.trans hl.1.symm) hown (hts _ (List.mem_of_getElem? (i := 7) rfl)) (hts _ (List.mem_of_getElem? (i := 8) rfl)) (hts _ (List.mem_of_getElem? (i := 4) rfl)) (hts _ (List.mem_of_getElem? (i := 9) rfl)) (Nat.le_of_ble_eq_true rfl) (Nat.le_of_ble_eq_true rfl) (Nat.zero_le _) (Nat.zero_le _) dX0_pour_36 ?_
  refine va_put (D := D) (ci := 0) (v := .int (xmin (100) (u_this.2.1 + ((5) * p1)))) (C := RX0) (T := TX0) (N := 7) hx hb hts (fun w h => List.mem_cons_of_mem _ (List.mem_append_right _ h)) tyX0 tyX0_ok nmX0 hown hK hP hD hS 0 rfl rfl 1 (by decide) (hts _ (List.mem_of_getElem? (i := 6) rfl)) (fun _ h9 => h9) rfl (tyX0_ok 1 (by decide)) rfl rfl (Nat.le_of_ble_eq_true rfl) dX0_pour_39 (fun H locs hP hD hS => ?_)
  have hP : va_P D vwCl [(h_this, .inr (0, o0 ((xmax (0) (u_this.1 - p1)), (xmin (100) (u_this.2.1 + ((5) * p1))), u_this.2.2.1, u_this.2.2.2.1, u_this.2.2.2.2.1, u_this.2.2.2.2.2.1, u_this.2.2.2.2.2.2)))] H := hP
  have hD : va_D A [(h_this, .inr (0, o0 ((xmax (0) (u_this.1 - p1)), (xmin (100) (u_this.2.1 + ((5) * p1))), u_this.2.2.1, u_this.2.2.2.1, u_this.2.2.2.2.1, u_this.2.2.2.2.2.1, u_this.2.2.2.2.2.2)))] := hD
  refine lv_iload_n hx hb dX0_pour_42 rfl (lv_at hl 0 rfl) ?_
  obtain rfl := hM
  exact xreti hx hb hr hlocks hP hK hD hS dX0_pour_43 rfl
def f_X0_standAnHour (u_this : K0) (u_a1 : K4) : Option (K0) :=
  (f_X4_depth u_a1 u_this.2.2.1).bind fun r1 =>
  ((if (xmin r1 ((u_this.1 + u_a1.2.2.2.2.2.1) + (f_X4_airAbove u_a1 r1))) ≤ (0) then
     (some u_this.2.1)
    else
     (some (xmax (0) (u_this.2.1 - (10)))) : Option (Int32))).bind fun v3 =>
  (f_X4_depth u_a1 (xmax (0) (u_this.2.2.1 - u_a1.2.2.2.1))).bind fun r4 =>
  some ((xmin (xmin r1 ((u_this.1 + u_a1.2.2.2.2.2.1) + (f_X4_airAbove u_a1 r1))) r4), v3, (xmax (0) (u_this.2.2.1 - u_a1.2.2.2.1)), u_this.2.2.2.1, u_this.2.2.2.2.1, u_this.2.2.2.2.2.1, u_this.2.2.2.2.2.2)
set_option maxHeartbeats 4000000 in
set_option maxRecDepth 100000 in
theorem c_X0_standAnHour (l : Launch) (D : va_G) (T : xT) (h_this h_a1 : Nat) {sz : Nat} (u_this : K0) (u_a1 : K4) {rv : K0} (hM : f_X0_standAnHour u_this u_a1 = some rv) : Met l yX0_standAnHour wsX0_standAnHour ({ frames := 1, cells := 0, slots := 0, locals := 22 } : Room) (va_Pc [.ref h_this, .ref h_a1] (xPre D T [(h_this, .inr (0, o0 u_this)), (h_a1, .inr (4, o4 u_a1))] sz xE0)) (va_Qv (fun (_ : Unit) => True) (fun _ => xPost D T [(h_this, .inr (0, o0 rv)), (h_a1, .inr (4, o4 u_a1))] (va_A [(h_this, .inr (0, o0 u_this)), (h_a1, .inr (4, o4 u_a1))] sz)) (va_A [(h_this, .inr (0, o0 u_this)), (h_a1, .inr (4, o4 u_a1))] sz)) 0 0 (va_A [(h_this, .inr (0, o0 u_this)), (h_a1, .inr (4, o4 u_a1))] sz) := by
  refine xMet (av := [.ref h_this, .ref h_a1]) (Wd := [(h_this, .inr (0, o0 u_this)), (h_a1, .inr (4, o4 u_a1))]) (E := xE0) (Qc := fun A => (va_Qv (fun (_ : Unit) => True) (fun _ => xPost D T [(h_this, .inr (0, o0 rv)), (h_a1, .inr (4, o4 u_a1))] A) A)) (cc := cX0_standAnHour) (maxL := 3) (ret := none) (by decide) rfl (Nat.le_of_ble_eq_true rfl) ?_
  intro p e s m below meth c A ls hx hb hr hml hts hown hlocks hnm hP hK hD hS hA hE hl
  have hown : s.vm.findClass RX0 = some m.cls := hown
  have hl : lv_has ls 3 [(0, .ref h_this), (1, .ref h_a1)] := hl
  unfold f_X0_standAnHour at hM
  refine lv_aload_n hx hb dX0_standAnHour_0 rfl (lv_at hl 1 rfl) ?_
  refine lv_aload_n hx hb dX0_standAnHour_1 rfl (lv_at hl 0 rfl) ?_
  refine va_get (D := D) (ci := 0) (v := .int u_this.2.2.1) (C := RX0) (T := TX0) (N := 7) hx hb hts (fun w h => List.mem_cons_of_mem _ (List.mem_append_left _ (List.mem_append_right _ h))) hown hK hP 0 rfl rfl 2 (by decide) (hts _ (List.mem_of_getElem? (i := 1) rfl)) (fun _ h9 => h9) rfl dX0_standAnHour_2 ?_
  obtain ⟨r1, er1, hM⟩ := xbd hM
  refine xafti (rv := r1) (W2 := [(h_this, .inr (0, o0 u_this)), (h_a1, .inr (4, o4 u_a1))]) (va_runV (As := [.int u_this.2.2.1]) (rest := []) ⟨hx, hb, hml, hown, hts⟩ (c_X4_depth l D T h_a1 u_a1 u_this.2.2.1 er1) (cwV 1 hts gX0_standAnHour_X4_depth rfl rfl rfl (by decide +kernel) ⟨Nat.le_of_ble_eq_true rfl, Nat.le_of_ble_eq_true rfl⟩) (xpvv hP hD hK [1] (by decide) rfl 0 4 rfl rfl (fun _ _ _ => trivial) (fun _ _ _ _ _ _ => trivial)) rfl rfl hl.1 rfl (lv_room (Nat.le_of_ble_eq_true rfl)) dX0_standAnHour_5 ⟨Nat.le_of_ble_eq_true rfl, Nat.le_of_ble_eq_true rfl⟩) hP hD hS hA [1] rfl rfl rfl rfl (fun H locs hP hD hS => ?_)
  refine lv_istore_n (lv' := [(2, .int r1), (0, .ref h_this), (1, .ref h_a1)]) hx hb dX0_standAnHour_8 rfl hl (by decide) rfl (fun ls hl => ?_)
  refine lv_aload_n hx hb dX0_standAnHour_9 rfl (lv_at hl 1 rfl) ?_
  refine lv_iload_n hx hb dX0_standAnHour_10 rfl (lv_at hl 0 rfl) ?_
  refine lv_aload_n hx hb dX0_standAnHour_11 rfl (lv_at hl 1 rfl) ?_
  refine va_get (D := D) (ci := 0) (v := .int u_this.1) (C := RX0) (T := TX0) (N := 7) hx hb hts (fun w h => List.mem_cons_of_mem _ (List.mem_append_left _ (List.mem_append_right _ h))) hown hK hP 0 rfl rfl 0 (by decide) (hts _ (List.mem_of_getElem? (i := 2) rfl)) (fun _ h9 => h9) rfl dX0_standAnHour_12 ?_
  refine lv_aload_n hx hb dX0_standAnHour_15 rfl (lv_at hl 2 rfl) ?_
  refine va_get (D := D) (ci := 4) (v := .int u_a1.2.2.2.2.2.1) (C := RX4) (T := TX4) (N := 11) hx hb hts (fun w h => List.mem_cons_of_mem _ (List.mem_append_right _ h)) hown hK hP 1 rfl rfl 5 (by decide) (hts _ (List.mem_of_getElem? (i := 3) rfl)) (fun _ h9 => h9) rfl dX0_standAnHour_16 ?_
  refine lv_iadd hx hb dX0_standAnHour_19 ?_
  refine lv_aload_n hx hb dX0_standAnHour_20 rfl (lv_at hl 2 rfl) ?_
  refine lv_iload_n hx hb dX0_standAnHour_21 rfl (lv_at hl 0 rfl) ?_
  refine xafti (rv := (f_X4_airAbove u_a1 r1)) (W2 := [(h_this, .inr (0, o0 u_this)), (h_a1, .inr (4, o4 u_a1))]) (va_runV (As := [.int r1]) (rest := [.int (u_this.1 + u_a1.2.2.2.2.2.1), .int r1, .ref h_this]) ⟨hx, hb, hml, hown, hts⟩ (c_X4_airAbove (rv := (f_X4_airAbove u_a1 r1)) l D T h_a1 u_a1 r1 rfl) (cwV 1 hts gX0_standAnHour_X4_airAbove rfl rfl rfl (by decide +kernel) ⟨Nat.le_of_ble_eq_true rfl, Nat.le_of_ble_eq_true rfl⟩) (xpvv hP hD hK [1] (by decide) rfl 0 4 rfl rfl (fun _ _ _ => trivial) (fun _ _ _ _ _ _ => trivial)) rfl rfl hl.1 rfl (lv_room (Nat.le_of_ble_eq_true rfl)) dX0_standAnHour_22 ⟨Nat.le_of_ble_eq_true rfl, Nat.le_of_ble_eq_true rfl⟩) hP hD hS hA [1] rfl rfl rfl rfl (fun H locs hP hD hS => ?_)
  refine lv_iadd hx hb dX0_standAnHour_25 ?_
  refine va_mmin hx hb (hml.trans hl.1.symm) hown (hts _ (List.mem_of_getElem? (i := 4) rfl)) (hts _ (List.mem_of_getElem? (i := 5) rfl)) (hts _ (List.mem_of_getElem? (i := 6) rfl)) (hts _ (List.mem_of_getElem? (i := 7) rfl)) (Nat.le_of_ble_eq_true rfl) (Nat.le_of_ble_eq_true rfl) (Nat.zero_le _) (Nat.zero_le _) dX0_standAnHour_26 ?_
  refine va_put (D := D) (ci := 0) (v := .int (xmin r1 ((u_this.1 + u_a1.2.2.2.2.2.1) + (f_X4_airAbove u_a1 r1)))) (C := RX0) (T := TX0) (N := 7) hx hb hts (fun w h => List.mem_cons_of_mem _ (List.mem_append_left _ (List.mem_append_right _ h))) tyX0 tyX0_ok nmX0 hown hK hP hD hS 0 rfl rfl 0 (by decide) (hts _ (List.mem_of_getElem? (i := 2) rfl)) (fun _ h9 => h9) rfl (tyX0_ok 0 (by decide)) rfl rfl (Nat.le_of_ble_eq_true rfl) dX0_standAnHour_29 (fun H locs hP hD hS => ?_)
  have hP : va_P D vwCl [(h_this, .inr (0, o0 ((xmin r1 ((u_this.1 + u_a1.2.2.2.2.2.1) + (f_X4_airAbove u_a1 r1))), u_this.2.1, u_this.2.2.1, u_this.2.2.2.1, u_this.2.2.2.2.1, u_this.2.2.2.2.2.1, u_this.2.2.2.2.2.2))), (h_a1, .inr (4, o4 u_a1))] H := hP
  have hD : va_D A [(h_this, .inr (0, o0 ((xmin r1 ((u_this.1 + u_a1.2.2.2.2.2.1) + (f_X4_airAbove u_a1 r1))), u_this.2.1, u_this.2.2.1, u_this.2.2.2.1, u_this.2.2.2.2.1, u_this.2.2.2.2.2.1, u_this.2.2.2.2.2.2))), (h_a1, .inr (4, o4 u_a1))] := hD
  refine lv_aload_n hx hb dX0_standAnHour_32 rfl (lv_at hl 1 rfl) ?_
  refine va_get (D := D) (ci := 0) (v := .int (xmin r1 ((u_this.1 + u_a1.2.2.2.2.2.1) + (f_X4_airAbove u_a1 r1)))) (C := RX0) (T := TX0) (N := 7) hx hb hts (fun w h => List.mem_cons_of_mem _ (List.mem_append_left _ (List.mem_append_right _ h))) hown hK hP 0 rfl rfl 0 (by decide) (hts _ (List.mem_of_getElem? (i := 2) rfl)) (fun _ h9 => h9) rfl dX0_standAnHour_33 ?_
  obtain ⟨v3, hM, hNv3⟩ := xbd hM
  have Kv3 : ∀ (H : Heap) (locs : List Loc) (ls : Array Slot), va_P D vwCl [(h_this, .inr (0, o0 ((xmin r1 ((u_this.1 + u_a1.2.2.2.2.2.1) + (f_X4_airAbove u_a1 r1))), v3, u_this.2.2.1, u_this.2.2.2.1, u_this.2.2.2.2.1, u_this.2.2.2.2.2.1, u_this.2.2.2.2.2.2))), (h_a1, .inr (4, o4 u_a1))] H → va_D A [(h_this, .inr (0, o0 ((xmin r1 ((u_this.1 + u_a1.2.2.2.2.2.1) + (f_X4_airAbove u_a1 r1))), v3, u_this.2.2.1, u_this.2.2.2.1, u_this.2.2.2.2.1, u_this.2.2.2.2.2.1, u_this.2.2.2.2.2.2))), (h_a1, .inr (4, o4 u_a1))] → va_S A s.heap H locs → lv_has ls 3 [(0, .ref h_this), (1, .ref h_a1)] → W p l e ({ frames := 1, cells := 0, slots := 0, locals := 22 } : Room) s m ([.ref h_this, .ref h_a1] : List Value).toArray below meth c H locs 0 0 (MQ below (va_Qv (fun (_ : Unit) => True) (fun _ => xPost D T [(h_this, .inr (0, o0 rv)), (h_a1, .inr (4, o4 u_a1))] A) A) ([.ref h_this, .ref h_a1] : List Value).toArray s 0 0 A) (F0 m 54 ls []) := by
    intro H locs ls hP hD hS hl
    have hM := hNv3
    refine lv_aload_n hx hb dX0_standAnHour_54 rfl (lv_at hl 0 rfl) ?_
    refine lv_iconst (v := 0) hx hb dX0_standAnHour_55 (by decide) ?_
    refine lv_aload_n hx hb dX0_standAnHour_56 rfl (lv_at hl 0 rfl) ?_
    refine va_get (D := D) (ci := 0) (v := .int u_this.2.2.1) (C := RX0) (T := TX0) (N := 7) hx hb hts (fun w h => List.mem_cons_of_mem _ (List.mem_append_left _ (List.mem_append_right _ h))) hown hK hP 0 rfl rfl 2 (by decide) (hts _ (List.mem_of_getElem? (i := 1) rfl)) (fun _ h9 => h9) rfl dX0_standAnHour_57 ?_
    refine lv_aload_n hx hb dX0_standAnHour_60 rfl (lv_at hl 1 rfl) ?_
    refine va_get (D := D) (ci := 4) (v := .int u_a1.2.2.2.1) (C := RX4) (T := TX4) (N := 11) hx hb hts (fun w h => List.mem_cons_of_mem _ (List.mem_append_right _ h)) hown hK hP 1 rfl rfl 3 (by decide) (hts _ (List.mem_of_getElem? (i := 12) rfl)) (fun _ h9 => h9) rfl dX0_standAnHour_61 ?_
    refine lv_isub hx hb dX0_standAnHour_64 ?_
    refine va_mmax hx hb (hml.trans hl.1.symm) hown (hts _ (List.mem_of_getElem? (i := 9) rfl)) (hts _ (List.mem_of_getElem? (i := 10) rfl)) (hts _ (List.mem_of_getElem? (i := 6) rfl)) (hts _ (List.mem_of_getElem? (i := 11) rfl)) (Nat.le_of_ble_eq_true rfl) (Nat.le_of_ble_eq_true rfl) (Nat.zero_le _) (Nat.zero_le _) dX0_standAnHour_65 ?_
    refine va_put (D := D) (ci := 0) (v := .int (xmax (0) (u_this.2.2.1 - u_a1.2.2.2.1))) (C := RX0) (T := TX0) (N := 7) hx hb hts (fun w h => List.mem_cons_of_mem _ (List.mem_append_left _ (List.mem_append_right _ h))) tyX0 tyX0_ok nmX0 hown hK hP hD hS 0 rfl rfl 2 (by decide) (hts _ (List.mem_of_getElem? (i := 1) rfl)) (fun _ h9 => h9) rfl (tyX0_ok 2 (by decide)) rfl rfl (Nat.le_of_ble_eq_true rfl) dX0_standAnHour_68 (fun H locs hP hD hS => ?_)
    have hP : va_P D vwCl [(h_this, .inr (0, o0 ((xmin r1 ((u_this.1 + u_a1.2.2.2.2.2.1) + (f_X4_airAbove u_a1 r1))), v3, (xmax (0) (u_this.2.2.1 - u_a1.2.2.2.1)), u_this.2.2.2.1, u_this.2.2.2.2.1, u_this.2.2.2.2.2.1, u_this.2.2.2.2.2.2))), (h_a1, .inr (4, o4 u_a1))] H := hP
    have hD : va_D A [(h_this, .inr (0, o0 ((xmin r1 ((u_this.1 + u_a1.2.2.2.2.2.1) + (f_X4_airAbove u_a1 r1))), v3, (xmax (0) (u_this.2.2.1 - u_a1.2.2.2.1)), u_this.2.2.2.1, u_this.2.2.2.2.1, u_this.2.2.2.2.2.1, u_this.2.2.2.2.2.2))), (h_a1, .inr (4, o4 u_a1))] := hD
    refine lv_aload_n hx hb dX0_standAnHour_71 rfl (lv_at hl 0 rfl) ?_
    refine lv_aload_n hx hb dX0_standAnHour_72 rfl (lv_at hl 0 rfl) ?_
    refine va_get (D := D) (ci := 0) (v := .int (xmin r1 ((u_this.1 + u_a1.2.2.2.2.2.1) + (f_X4_airAbove u_a1 r1)))) (C := RX0) (T := TX0) (N := 7) hx hb hts (fun w h => List.mem_cons_of_mem _ (List.mem_append_left _ (List.mem_append_right _ h))) hown hK hP 0 rfl rfl 0 (by decide) (hts _ (List.mem_of_getElem? (i := 2) rfl)) (fun _ h9 => h9) rfl dX0_standAnHour_73 ?_
    refine lv_aload_n hx hb dX0_standAnHour_76 rfl (lv_at hl 1 rfl) ?_
    refine lv_aload_n hx hb dX0_standAnHour_77 rfl (lv_at hl 0 rfl) ?_
    refine va_get (D := D) (ci := 0) (v := .int (xmax (0) (u_this.2.2.1 - u_a1.2.2.2.1))) (C := RX0) (T := TX0) (N := 7) hx hb hts (fun w h => List.mem_cons_of_mem _ (List.mem_append_left _ (List.mem_append_right _ h))) hown hK hP 0 rfl rfl 2 (by decide) (hts _ (List.mem_of_getElem? (i := 1) rfl)) (fun _ h9 => h9) rfl dX0_standAnHour_78 ?_
    obtain ⟨r4, er4, hM⟩ := xbd hM
    refine xafti (rv := r4) (W2 := [(h_this, .inr (0, o0 ((xmin r1 ((u_this.1 + u_a1.2.2.2.2.2.1) + (f_X4_airAbove u_a1 r1))), v3, (xmax (0) (u_this.2.2.1 - u_a1.2.2.2.1)), u_this.2.2.2.1, u_this.2.2.2.2.1, u_this.2.2.2.2.2.1, u_this.2.2.2.2.2.2))), (h_a1, .inr (4, o4 u_a1))]) (va_runV (As := [.int (xmax (0) (u_this.2.2.1 - u_a1.2.2.2.1))]) (rest := [.int (xmin r1 ((u_this.1 + u_a1.2.2.2.2.2.1) + (f_X4_airAbove u_a1 r1))), .ref h_this]) ⟨hx, hb, hml, hown, hts⟩ (c_X4_depth l D T h_a1 u_a1 (xmax (0) (u_this.2.2.1 - u_a1.2.2.2.1)) er4) (cwV 1 hts gX0_standAnHour_X4_depth rfl rfl rfl (by decide +kernel) ⟨Nat.le_of_ble_eq_true rfl, Nat.le_of_ble_eq_true rfl⟩) (xpvv hP hD hK [1] (by decide) rfl 0 4 rfl rfl (fun _ _ _ => trivial) (fun _ _ _ _ _ _ => trivial)) rfl rfl hl.1 rfl (lv_room (Nat.le_of_ble_eq_true rfl)) dX0_standAnHour_81 ⟨Nat.le_of_ble_eq_true rfl, Nat.le_of_ble_eq_true rfl⟩) hP hD hS hA [1] rfl rfl rfl rfl (fun H locs hP hD hS => ?_)
    refine va_mmin hx hb (hml.trans hl.1.symm) hown (hts _ (List.mem_of_getElem? (i := 4) rfl)) (hts _ (List.mem_of_getElem? (i := 5) rfl)) (hts _ (List.mem_of_getElem? (i := 6) rfl)) (hts _ (List.mem_of_getElem? (i := 7) rfl)) (Nat.le_of_ble_eq_true rfl) (Nat.le_of_ble_eq_true rfl) (Nat.zero_le _) (Nat.zero_le _) dX0_standAnHour_84 ?_
    refine va_put (D := D) (ci := 0) (v := .int (xmin (xmin r1 ((u_this.1 + u_a1.2.2.2.2.2.1) + (f_X4_airAbove u_a1 r1))) r4)) (C := RX0) (T := TX0) (N := 7) hx hb hts (fun w h => List.mem_cons_of_mem _ (List.mem_append_left _ (List.mem_append_right _ h))) tyX0 tyX0_ok nmX0 hown hK hP hD hS 0 rfl rfl 0 (by decide) (hts _ (List.mem_of_getElem? (i := 2) rfl)) (fun _ h9 => h9) rfl (tyX0_ok 0 (by decide)) rfl rfl (Nat.le_of_ble_eq_true rfl) dX0_standAnHour_87 (fun H locs hP hD hS => ?_)
    have hP : va_P D vwCl [(h_this, .inr (0, o0 ((xmin (xmin r1 ((u_this.1 + u_a1.2.2.2.2.2.1) + (f_X4_airAbove u_a1 r1))) r4), v3, (xmax (0) (u_this.2.2.1 - u_a1.2.2.2.1)), u_this.2.2.2.1, u_this.2.2.2.2.1, u_this.2.2.2.2.2.1, u_this.2.2.2.2.2.2))), (h_a1, .inr (4, o4 u_a1))] H := hP
    have hD : va_D A [(h_this, .inr (0, o0 ((xmin (xmin r1 ((u_this.1 + u_a1.2.2.2.2.2.1) + (f_X4_airAbove u_a1 r1))) r4), v3, (xmax (0) (u_this.2.2.1 - u_a1.2.2.2.1)), u_this.2.2.2.1, u_this.2.2.2.2.1, u_this.2.2.2.2.2.1, u_this.2.2.2.2.2.2))), (h_a1, .inr (4, o4 u_a1))] := hD
    obtain rfl := Option.some.inj hM
    exact xretv hx hb hr hlocks hP hK hD hS dX0_standAnHour_90
  refine lv_if_le (tgt := 54) hx hb dX0_standAnHour_36 (by decide) (fun c2 => ?_) (fun c2 => ?_)
  · have hM := xit c2 hM
    obtain rfl := Option.some.inj hM
    exact Kv3 _ _ _ hP hD hS (lv_sub hl [1, 2] rfl)
  · have hM := xif c2 hM
    refine lv_aload_n hx hb dX0_standAnHour_39 rfl (lv_at hl 1 rfl) ?_
    refine lv_iconst (v := 0) hx hb dX0_standAnHour_40 (by decide) ?_
    refine lv_aload_n hx hb dX0_standAnHour_41 rfl (lv_at hl 1 rfl) ?_
    refine va_get (D := D) (ci := 0) (v := .int u_this.2.1) (C := RX0) (T := TX0) (N := 7) hx hb hts (fun w h => List.mem_cons_of_mem _ (List.mem_append_left _ (List.mem_append_right _ h))) hown hK hP 0 rfl rfl 1 (by decide) (hts _ (List.mem_of_getElem? (i := 8) rfl)) (fun _ h9 => h9) rfl dX0_standAnHour_42 ?_
    refine lv_bipush (v := 10) hx hb dX0_standAnHour_45 (by decide) ?_
    refine lv_isub hx hb dX0_standAnHour_47 ?_
    refine va_mmax hx hb (hml.trans hl.1.symm) hown (hts _ (List.mem_of_getElem? (i := 9) rfl)) (hts _ (List.mem_of_getElem? (i := 10) rfl)) (hts _ (List.mem_of_getElem? (i := 6) rfl)) (hts _ (List.mem_of_getElem? (i := 11) rfl)) (Nat.le_of_ble_eq_true rfl) (Nat.le_of_ble_eq_true rfl) (Nat.zero_le _) (Nat.zero_le _) dX0_standAnHour_48 ?_
    refine va_put (D := D) (ci := 0) (v := .int (xmax (0) (u_this.2.1 - (10)))) (C := RX0) (T := TX0) (N := 7) hx hb hts (fun w h => List.mem_cons_of_mem _ (List.mem_append_left _ (List.mem_append_right _ h))) tyX0 tyX0_ok nmX0 hown hK hP hD hS 0 rfl rfl 1 (by decide) (hts _ (List.mem_of_getElem? (i := 8) rfl)) (fun _ h9 => h9) rfl (tyX0_ok 1 (by decide)) rfl rfl (Nat.le_of_ble_eq_true rfl) dX0_standAnHour_51 (fun H locs hP hD hS => ?_)
    have hP : va_P D vwCl [(h_this, .inr (0, o0 ((xmin r1 ((u_this.1 + u_a1.2.2.2.2.2.1) + (f_X4_airAbove u_a1 r1))), (xmax (0) (u_this.2.1 - (10))), u_this.2.2.1, u_this.2.2.2.1, u_this.2.2.2.2.1, u_this.2.2.2.2.2.1, u_this.2.2.2.2.2.2))), (h_a1, .inr (4, o4 u_a1))] H := hP
    have hD : va_D A [(h_this, .inr (0, o0 ((xmin r1 ((u_this.1 + u_a1.2.2.2.2.2.1) + (f_X4_airAbove u_a1 r1))), (xmax (0) (u_this.2.1 - (10))), u_this.2.2.1, u_this.2.2.2.1, u_this.2.2.2.2.1, u_this.2.2.2.2.2.1, u_this.2.2.2.2.2.2))), (h_a1, .inr (4, o4 u_a1))] := hD
    obtain rfl := Option.some.inj hM
    exact Kv3 _ _ _ hP hD hS (lv_sub hl [1, 2] rfl)
def s_X0_stand_2 (u_a1 : K4) (p2 : Int32) (v1 : Int32 × K0) : Option ((Int32 × K0) ⊕ (Int32 × K0)) :=
  if p2 ≤ v1.1 then
   (some (.inr (v1.1, v1.2)))
  else
   ((f_X0_standAnHour v1.2 u_a1).bind fun r3 =>
    some (.inl (v1.1 + 1, r3)))
def f_X0_stand (N : Nat) (u_this : K0) (u_a1 : K4) (p2 : Int32) : Option (Int32 × K0) :=
  (xlp (s_X0_stand_2 u_a1 p2) N (0, u_this)).bind fun v4 =>
  some (v4.2.1, (v4.2.1, v4.2.2.1, v4.2.2.2.1, v4.2.2.2.2.1, v4.2.2.2.2.2.1, (v4.2.2.2.2.2.2.1 + p2), v4.2.2.2.2.2.2.2))
set_option maxHeartbeats 4000000 in
set_option maxRecDepth 100000 in
theorem c_X0_stand (l : Launch) (D : va_G) (T : xT) (h_this h_a1 : Nat) {sz : Nat} {N : Nat} (u_this : K0) (u_a1 : K4) (p2 : Int32) {rv : Int32 × K0} (hM : f_X0_stand N u_this u_a1 p2 = some rv) : Met l yX0_stand wsX0_stand ({ frames := 2, cells := 0, slots := 0, locals := 44 } : Room) (va_Pc [.ref h_this, .ref h_a1, .int p2] (xPre D T [(h_this, .inr (0, o0 u_this)), (h_a1, .inr (4, o4 u_a1))] sz xE0)) (va_Qi (fun (r : Int32) (_ : Unit) => r = rv.1) (fun _ => xPost D T [(h_this, .inr (0, o0 rv.2)), (h_a1, .inr (4, o4 u_a1))] (va_A [(h_this, .inr (0, o0 u_this)), (h_a1, .inr (4, o4 u_a1))] sz)) (va_A [(h_this, .inr (0, o0 u_this)), (h_a1, .inr (4, o4 u_a1))] sz)) 0 0 (va_A [(h_this, .inr (0, o0 u_this)), (h_a1, .inr (4, o4 u_a1))] sz) := by
  refine xMet (av := [.ref h_this, .ref h_a1, .int p2]) (Wd := [(h_this, .inr (0, o0 u_this)), (h_a1, .inr (4, o4 u_a1))]) (E := xE0) (Qc := fun A => (va_Qi (fun (r : Int32) (_ : Unit) => r = rv.1) (fun _ => xPost D T [(h_this, .inr (0, o0 rv.2)), (h_a1, .inr (4, o4 u_a1))] A) A)) (cc := cX0_stand) (maxL := 4) (ret := (some .int)) (by decide) rfl (Nat.le_of_ble_eq_true rfl) ?_
  intro p e s m below meth c A ls hx hb hr hml hts hown hlocks hnm hP hK hD hS hA hE hl
  have hown : s.vm.findClass RX0 = some m.cls := hown
  have hl : lv_has ls 4 [(0, .ref h_this), (1, .ref h_a1), (2, .int p2)] := hl
  unfold f_X0_stand at hM
  refine lv_iconst (v := 0) hx hb dX0_stand_0 (by decide) ?_
  refine lv_istore_n (lv' := [(3, .int (0)), (0, .ref h_this), (1, .ref h_a1), (2, .int p2)]) hx hb dX0_stand_1 rfl hl (by decide) rfl (fun ls hl => ?_)
  obtain ⟨v4, hM, hNv4⟩ := xbd hM
  have hQv4 := hM
  have Kv4 : ∀ (H : Heap) (locs : List Loc) (ls : Array Slot), va_P D vwCl [(h_this, .inr (0, o0 v4.2)), (h_a1, .inr (4, o4 u_a1))] H → va_D A [(h_this, .inr (0, o0 v4.2)), (h_a1, .inr (4, o4 u_a1))] → va_S A s.heap H locs → lv_has ls 4 [(0, .ref h_this), (2, .int p2)] → W p l e ({ frames := 2, cells := 0, slots := 0, locals := 44 } : Room) s m ([.ref h_this, .ref h_a1, .int p2] : List Value).toArray below meth c H locs 0 0 (MQ below (va_Qi (fun (r : Int32) (_ : Unit) => r = rv.1) (fun _ => xPost D T [(h_this, .inr (0, o0 rv.2)), (h_a1, .inr (4, o4 u_a1))] A) A) ([.ref h_this, .ref h_a1, .int p2] : List Value).toArray s 0 0 A) (F0 m 18 ls []) := by
    intro H locs ls hP hD hS hl
    have hM := hNv4
    refine lv_aload_n hx hb dX0_stand_18 rfl (lv_at hl 0 rfl) ?_
    refine lv_dup hx hb dX0_stand_19 rfl ?_
    refine va_get (D := D) (ci := 0) (v := .int v4.2.2.2.2.2.2.1) (C := RX0) (T := TX0) (N := 7) hx hb hts (fun w h => List.mem_cons_of_mem _ (List.mem_append_left _ (List.mem_append_right _ h))) hown hK hP 0 rfl rfl 5 (by decide) (hts _ (List.mem_of_getElem? (i := 1) rfl)) (fun _ h9 => h9) rfl dX0_stand_20 ?_
    refine lv_iload_n hx hb dX0_stand_23 rfl (lv_at hl 1 rfl) ?_
    refine lv_iadd hx hb dX0_stand_24 ?_
    refine va_put (D := D) (ci := 0) (v := .int (v4.2.2.2.2.2.2.1 + p2)) (C := RX0) (T := TX0) (N := 7) hx hb hts (fun w h => List.mem_cons_of_mem _ (List.mem_append_left _ (List.mem_append_right _ h))) tyX0 tyX0_ok nmX0 hown hK hP hD hS 0 rfl rfl 5 (by decide) (hts _ (List.mem_of_getElem? (i := 1) rfl)) (fun _ h9 => h9) rfl (tyX0_ok 5 (by decide)) rfl rfl (Nat.le_of_ble_eq_true rfl) dX0_stand_25 (fun H locs hP hD hS => ?_)
    have hP : va_P D vwCl [(h_this, .inr (0, o0 (v4.2.1, v4.2.2.1, v4.2.2.2.1, v4.2.2.2.2.1, v4.2.2.2.2.2.1, (v4.2.2.2.2.2.2.1 + p2), v4.2.2.2.2.2.2.2))), (h_a1, .inr (4, o4 u_a1))] H := hP
    have hD : va_D A [(h_this, .inr (0, o0 (v4.2.1, v4.2.2.1, v4.2.2.2.1, v4.2.2.2.2.1, v4.2.2.2.2.2.1, (v4.2.2.2.2.2.2.1 + p2), v4.2.2.2.2.2.2.2))), (h_a1, .inr (4, o4 u_a1))] := hD
    refine lv_aload_n hx hb dX0_stand_28 rfl (lv_at hl 0 rfl) ?_
    refine va_get (D := D) (ci := 0) (v := .int v4.2.1) (C := RX0) (T := TX0) (N := 7) hx hb hts (fun w h => List.mem_cons_of_mem _ (List.mem_append_left _ (List.mem_append_right _ h))) hown hK hP 0 rfl rfl 0 (by decide) (hts _ (List.mem_of_getElem? (i := 2) rfl)) (fun _ h9 => h9) rfl dX0_stand_29 ?_
    obtain rfl := Option.some.inj hM
    exact xreti hx hb hr hlocks hP hK hD hS dX0_stand_32 rfl
  have Lv1 : ∀ (n : Nat) (v1 : Int32 × K0), xlp (s_X0_stand_2 u_a1 p2) n v1 = some v4 → ∀ (H : Heap) (locs : List Loc) (ls : Array Slot), va_P D vwCl [(h_this, .inr (0, o0 v1.2)), (h_a1, .inr (4, o4 u_a1))] H → va_D A [(h_this, .inr (0, o0 v1.2)), (h_a1, .inr (4, o4 u_a1))] → va_S A s.heap H locs → lv_has ls 4 [(0, .ref h_this), (1, .ref h_a1), (2, .int p2), (3, .int v1.1)] → W p l e ({ frames := 2, cells := 0, slots := 0, locals := 44 } : Room) s m ([.ref h_this, .ref h_a1, .int p2] : List Value).toArray below meth c H locs 0 0 (MQ below (va_Qi (fun (r : Int32) (_ : Unit) => r = rv.1) (fun _ => xPost D T [(h_this, .inr (0, o0 rv.2)), (h_a1, .inr (4, o4 u_a1))] A) A) ([.ref h_this, .ref h_a1, .int p2] : List Value).toArray s 0 0 A) (F0 m 2 ls []) := by
    intro n
    induction n with
    | zero => exact fun _ h => (xlp_0 h).elim
    | succ n ih =>
      intro v1 hM H locs ls hP hD hS hl
      obtain ⟨z, hM, hz1, hz2⟩ := xlp_s hM
      unfold s_X0_stand_2 at hM
      refine lv_iload_n hx hb dX0_stand_2 rfl (lv_at hl 3 rfl) ?_
      refine lv_iload_n hx hb dX0_stand_3 rfl (lv_at hl 2 rfl) ?_
      refine lv_icmp_ge (tgt := 18) hx hb dX0_stand_4 (by decide) (fun c2 => ?_) (fun c2 => ?_)
      · have hM := xit c2 hM
        obtain rfl := hz2 _ (Option.some.inj hM).symm
        exact Kv4 _ _ _ hP hD hS (lv_sub hl [0, 2] rfl)
      · have hM := xif c2 hM
        refine lv_aload_n hx hb dX0_stand_7 rfl (lv_at hl 0 rfl) ?_
        refine lv_aload_n hx hb dX0_stand_8 rfl (lv_at hl 1 rfl) ?_
        obtain ⟨r3, er3, hM⟩ := xbd hM
        refine xaftv (W2 := [(h_this, .inr (0, o0 r3)), (h_a1, .inr (4, o4 u_a1))]) (va_runV (As := [.ref h_a1]) (rest := []) ⟨hx, hb, hml, hown, hts⟩ (c_X0_standAnHour l D T h_this h_a1 v1.2 u_a1 er3) (cwV 1 hts gX0_stand_X0_standAnHour rfl rfl rfl (by decide +kernel) ⟨Nat.le_of_ble_eq_true rfl, Nat.le_of_ble_eq_true rfl⟩) (xpvv hP hD hK [0, 1] (by decide) rfl 0 0 rfl rfl (fun _ _ _ => trivial) (fun _ _ _ _ _ _ => trivial)) rfl rfl hl.1 rfl (lv_room (Nat.le_of_ble_eq_true rfl)) dX0_stand_9 ⟨Nat.le_of_ble_eq_true rfl, Nat.le_of_ble_eq_true rfl⟩) hP hD hS hA [0, 1] rfl rfl rfl rfl (fun H locs hP hD hS => ?_)
        refine lv_iinc (v := v1.1 + 1) (lv' := [(3, .int (v1.1 + 1)), (0, .ref h_this), (1, .ref h_a1), (2, .int p2)]) hx hb dX0_stand_12 hl (k := 3) rfl rfl (by decide) rfl (fun ls hl => ?_)
        refine lv_goto (tgt := 2) hx hb dX0_stand_15 (by decide) ?_
        exact ih _ (hz1 _ (Option.some.inj hM).symm) _ _ _ hP hD hS (lv_sub hl [1, 2, 3, 0] rfl)
  exact Lv1 _ _ hM _ _ _ hP hD hS (lv_sub hl [1, 2, 3, 0] rfl)
