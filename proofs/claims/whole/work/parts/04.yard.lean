/-! laid by wip/whole/gen.py out of the decode rows: functional readings and contracts -/
def f_X4_depth (u_this : K4) (p1 : Int32) : Option (Int32) :=
  ((if u_this.2.2.2.2.1 ≤ (0) then
     (some (0))
    else
     (some (p1 / u_this.2.2.2.2.1)) : Option (Int32))).bind fun v2 =>
  some (((10) * u_this.2.2.1) + v2)
set_option maxHeartbeats 4000000 in
set_option maxRecDepth 100000 in
theorem c_X4_depth (l : Launch) (D : va_G) (T : xT) (h_this : Nat) {sz : Nat} (u_this : K4) (p1 : Int32) {rv : Int32} (hM : f_X4_depth u_this p1 = some rv) : Met l yX4_depth wsX4_depth ({ frames := 0, cells := 0, slots := 0, locals := 0 } : Room) (va_Pc [.ref h_this, .int p1] (xPre D T [(h_this, .inr (4, o4 u_this))] sz xE0)) (va_Qi (fun (r : Int32) (_ : Unit) => r = rv) (fun _ => xPost D T [(h_this, .inr (4, o4 u_this))] (va_A [(h_this, .inr (4, o4 u_this))] sz)) (va_A [(h_this, .inr (4, o4 u_this))] sz)) 0 0 (va_A [(h_this, .inr (4, o4 u_this))] sz) := by
  refine xMet (av := [.ref h_this, .int p1]) (Wd := [(h_this, .inr (4, o4 u_this))]) (E := xE0) (Qc := fun A => (va_Qi (fun (r : Int32) (_ : Unit) => r = rv) (fun _ => xPost D T [(h_this, .inr (4, o4 u_this))] A) A)) (cc := cX4_depth) (maxL := 3) (ret := (some .int)) (by decide) rfl (Nat.le_of_ble_eq_true rfl) ?_
  intro p e s m below meth c A ls hx hb hr hml hts hown hlocks hnm hP hK hD hS hA hE hl
  have hown : s.vm.findClass RX4 = some m.cls := hown
  have hl : lv_has ls 3 [(0, .ref h_this), (1, .int p1)] := hl
  unfold f_X4_depth at hM
  refine lv_aload_n hx hb dX4_depth_0 rfl (lv_at hl 0 rfl) ?_
  refine va_get (D := D) (ci := 4) (v := .int u_this.2.2.2.2.1) (C := RX4) (T := TX4) (N := 11) hx hb hts (fun w h => List.mem_cons_of_mem _ (List.mem_append_right _ h)) hown hK hP 0 rfl rfl 4 (by decide) (hts _ (List.mem_of_getElem? (i := 1) rfl)) (fun _ h9 => h9) rfl dX4_depth_1 ?_
  obtain ⟨v2, hM, hNv2⟩ := xbd hM
  have Kv2 : ∀ (H : Heap) (locs : List Loc) (ls : Array Slot), va_P D vwCl [(h_this, .inr (4, o4 u_this))] H → va_D A [(h_this, .inr (4, o4 u_this))] → va_S A s.heap H locs → lv_has ls 3 [(0, .ref h_this)] → W p l e ({ frames := 0, cells := 0, slots := 0, locals := 0 } : Room) s m ([.ref h_this, .int p1] : List Value).toArray below meth c H locs 0 0 (MQ below (va_Qi (fun (r : Int32) (_ : Unit) => r = rv) (fun _ => xPost D T [(h_this, .inr (4, o4 u_this))] A) A) ([.ref h_this, .int p1] : List Value).toArray s 0 0 A) (F0 m 17 ls [.int v2]) := by
    intro H locs ls hP hD hS hl
    have hM := hNv2
    refine lv_istore_n (lv' := [(2, .int v2), (0, .ref h_this)]) hx hb dX4_depth_17 rfl hl (by decide) rfl (fun ls hl => ?_)
    refine lv_bipush (v := 10) hx hb dX4_depth_18 (by decide) ?_
    refine lv_aload_n hx hb dX4_depth_20 rfl (lv_at hl 1 rfl) ?_
    refine va_get (D := D) (ci := 4) (v := .int u_this.2.2.1) (C := RX4) (T := TX4) (N := 11) hx hb hts (fun w h => List.mem_cons_of_mem _ (List.mem_append_right _ h)) hown hK hP 0 rfl rfl 2 (by decide) (hts _ (List.mem_of_getElem? (i := 2) rfl)) (fun _ h9 => h9) rfl dX4_depth_21 ?_
    refine lv_imul hx hb dX4_depth_24 ?_
    refine lv_iload_n hx hb dX4_depth_25 rfl (lv_at hl 0 rfl) ?_
    refine lv_iadd hx hb dX4_depth_26 ?_
    obtain rfl := Option.some.inj hM
    exact xreti hx hb hr hlocks hP hK hD hS dX4_depth_27 rfl
  refine lv_if_le (tgt := 16) hx hb dX4_depth_4 (by decide) (fun c1 => ?_) (fun c1 => ?_)
  · have hM := xit c1 hM
    refine lv_iconst (v := 0) hx hb dX4_depth_16 (by decide) ?_
    obtain rfl := Option.some.inj hM
    exact Kv2 _ _ _ hP hD hS (lv_sub hl [0] rfl)
  · have hM := xif c1 hM
    refine lv_iload_n hx hb dX4_depth_7 rfl (lv_at hl 1 rfl) ?_
    refine lv_aload_n hx hb dX4_depth_8 rfl (lv_at hl 0 rfl) ?_
    refine va_get (D := D) (ci := 4) (v := .int u_this.2.2.2.2.1) (C := RX4) (T := TX4) (N := 11) hx hb hts (fun w h => List.mem_cons_of_mem _ (List.mem_append_right _ h)) hown hK hP 0 rfl rfl 4 (by decide) (hts _ (List.mem_of_getElem? (i := 1) rfl)) (fun _ h9 => h9) rfl dX4_depth_9 ?_
    refine lv_idiv hx hb dX4_depth_12 (xnle c1) ?_
    refine lv_goto (tgt := 17) hx hb dX4_depth_13 (by decide) ?_
    obtain rfl := Option.some.inj hM
    exact Kv2 _ _ _ hP hD hS (lv_sub hl [0] rfl)
def f_X4_airAbove (u_this : K4) (p1 : Int32) : Int32 :=
  if p1 ≤ ((10) * u_this.2.2.2.2.2.2.1) then
   (0)
  else
   (u_this.2.2.2.2.2.2.2.1)
set_option maxHeartbeats 4000000 in
set_option maxRecDepth 100000 in
theorem c_X4_airAbove (l : Launch) (D : va_G) (T : xT) (h_this : Nat) {sz : Nat} (u_this : K4) (p1 : Int32) {rv : Int32} (hM : f_X4_airAbove u_this p1 = rv) : Met l yX4_airAbove wsX4_airAbove ({ frames := 0, cells := 0, slots := 0, locals := 0 } : Room) (va_Pc [.ref h_this, .int p1] (xPre D T [(h_this, .inr (4, o4 u_this))] sz xE0)) (va_Qi (fun (r : Int32) (_ : Unit) => r = rv) (fun _ => xPost D T [(h_this, .inr (4, o4 u_this))] (va_A [(h_this, .inr (4, o4 u_this))] sz)) (va_A [(h_this, .inr (4, o4 u_this))] sz)) 0 0 (va_A [(h_this, .inr (4, o4 u_this))] sz) := by
  refine xMet (av := [.ref h_this, .int p1]) (Wd := [(h_this, .inr (4, o4 u_this))]) (E := xE0) (Qc := fun A => (va_Qi (fun (r : Int32) (_ : Unit) => r = rv) (fun _ => xPost D T [(h_this, .inr (4, o4 u_this))] A) A)) (cc := cX4_airAbove) (maxL := 2) (ret := (some .int)) (by decide) rfl (Nat.le_of_ble_eq_true rfl) ?_
  intro p e s m below meth c A ls hx hb hr hml hts hown hlocks hnm hP hK hD hS hA hE hl
  have hown : s.vm.findClass RX4 = some m.cls := hown
  have hl : lv_has ls 2 [(0, .ref h_this), (1, .int p1)] := hl
  unfold f_X4_airAbove at hM
  refine lv_bipush (v := 10) hx hb dX4_airAbove_0 (by decide) ?_
  refine lv_aload_n hx hb dX4_airAbove_2 rfl (lv_at hl 0 rfl) ?_
  refine va_get (D := D) (ci := 4) (v := .int u_this.2.2.2.2.2.2.1) (C := RX4) (T := TX4) (N := 11) hx hb hts (fun w h => List.mem_cons_of_mem _ (List.mem_append_right _ h)) hown hK hP 0 rfl rfl 6 (by decide) (hts _ (List.mem_of_getElem? (i := 1) rfl)) (fun _ h9 => h9) rfl dX4_airAbove_3 ?_
  refine lv_imul hx hb dX4_airAbove_6 ?_
  refine lv_iload_n hx hb dX4_airAbove_7 rfl (lv_at hl 1 rfl) ?_
  refine lv_icmp_ge (tgt := 18) hx hb dX4_airAbove_8 (by decide) (fun c1 => ?_) (fun c1 => ?_)
  · have hM := xit c1 hM
    refine lv_iconst (v := 0) hx hb dX4_airAbove_18 (by decide) ?_
    obtain rfl := hM
    exact xreti hx hb hr hlocks hP hK hD hS dX4_airAbove_19 rfl
  · have hM := xif c1 hM
    refine lv_aload_n hx hb dX4_airAbove_11 rfl (lv_at hl 0 rfl) ?_
    refine va_get (D := D) (ci := 4) (v := .int u_this.2.2.2.2.2.2.2.1) (C := RX4) (T := TX4) (N := 11) hx hb hts (fun w h => List.mem_cons_of_mem _ (List.mem_append_right _ h)) hown hK hP 0 rfl rfl 7 (by decide) (hts _ (List.mem_of_getElem? (i := 2) rfl)) (fun _ h9 => h9) rfl dX4_airAbove_12 ?_
    refine lv_goto (tgt := 19) hx hb dX4_airAbove_15 (by decide) ?_
    obtain rfl := hM
    exact xreti hx hb hr hlocks hP hK hD hS dX4_airAbove_19 rfl
def f_X4_gain (u_this : K4) (p1 : Int32) (p2 : Int32) : Int32 :=
  if p2 ≤ ((10) * u_this.1) then
   ((xmax (0) (((u_this.2.1 * p1) / (100)) - (f_X4_airAbove u_this p2))))
  else
   (0)
set_option maxHeartbeats 4000000 in
set_option maxRecDepth 100000 in
theorem c_X4_gain (l : Launch) (D : va_G) (T : xT) (h_this : Nat) {sz : Nat} (u_this : K4) (p1 : Int32) (p2 : Int32) {rv : Int32} (hM : f_X4_gain u_this p1 p2 = rv) : Met l yX4_gain wsX4_gain ({ frames := 1, cells := 0, slots := 0, locals := 21 } : Room) (va_Pc [.ref h_this, .int p1, .int p2] (xPre D T [(h_this, .inr (4, o4 u_this))] sz xE0)) (va_Qi (fun (r : Int32) (_ : Unit) => r = rv) (fun _ => xPost D T [(h_this, .inr (4, o4 u_this))] (va_A [(h_this, .inr (4, o4 u_this))] sz)) (va_A [(h_this, .inr (4, o4 u_this))] sz)) 0 0 (va_A [(h_this, .inr (4, o4 u_this))] sz) := by
  refine xMet (av := [.ref h_this, .int p1, .int p2]) (Wd := [(h_this, .inr (4, o4 u_this))]) (E := xE0) (Qc := fun A => (va_Qi (fun (r : Int32) (_ : Unit) => r = rv) (fun _ => xPost D T [(h_this, .inr (4, o4 u_this))] A) A)) (cc := cX4_gain) (maxL := 3) (ret := (some .int)) (by decide) rfl (Nat.le_of_ble_eq_true rfl) ?_
  intro p e s m below meth c A ls hx hb hr hml hts hown hlocks hnm hP hK hD hS hA hE hl
  have hown : s.vm.findClass RX4 = some m.cls := hown
  have hl : lv_has ls 3 [(0, .ref h_this), (1, .int p1), (2, .int p2)] := hl
  unfold f_X4_gain at hM
  refine lv_iload_n hx hb dX4_gain_0 rfl (lv_at hl 2 rfl) ?_
  refine lv_bipush (v := 10) hx hb dX4_gain_1 (by decide) ?_
  refine lv_aload_n hx hb dX4_gain_3 rfl (lv_at hl 0 rfl) ?_
  refine va_get (D := D) (ci := 4) (v := .int u_this.1) (C := RX4) (T := TX4) (N := 11) hx hb hts (fun w h => List.mem_cons_of_mem _ (List.mem_append_right _ h)) hown hK hP 0 rfl rfl 0 (by decide) (hts _ (List.mem_of_getElem? (i := 1) rfl)) (fun _ h9 => h9) rfl dX4_gain_4 ?_
  refine lv_imul hx hb dX4_gain_7 ?_
  refine lv_icmp_le (tgt := 13) hx hb dX4_gain_8 (by decide) (fun c1 => ?_) (fun c1 => ?_)
  · have hM := xit c1 hM
    refine lv_iconst (v := 0) hx hb dX4_gain_13 (by decide) ?_
    refine lv_aload_n hx hb dX4_gain_14 rfl (lv_at hl 0 rfl) ?_
    refine va_get (D := D) (ci := 4) (v := .int u_this.2.1) (C := RX4) (T := TX4) (N := 11) hx hb hts (fun w h => List.mem_cons_of_mem _ (List.mem_append_right _ h)) hown hK hP 0 rfl rfl 1 (by decide) (hts _ (List.mem_of_getElem? (i := 2) rfl)) (fun _ h9 => h9) rfl dX4_gain_15 ?_
    refine lv_iload_n hx hb dX4_gain_18 rfl (lv_at hl 1 rfl) ?_
    refine lv_imul hx hb dX4_gain_19 ?_
    refine lv_bipush (v := 100) hx hb dX4_gain_20 (by decide) ?_
    refine lv_idiv hx hb dX4_gain_22 (by decide) ?_
    refine lv_aload_n hx hb dX4_gain_23 rfl (lv_at hl 0 rfl) ?_
    refine lv_iload_n hx hb dX4_gain_24 rfl (lv_at hl 2 rfl) ?_
    refine xafti (rv := (f_X4_airAbove u_this p2)) (W2 := [(h_this, .inr (4, o4 u_this))]) (va_runV (As := [.int p2]) (rest := [.int ((u_this.2.1 * p1) / (100)), .int (0)]) ⟨hx, hb, hml, hown, hts⟩ (c_X4_airAbove (rv := (f_X4_airAbove u_this p2)) l D T h_this u_this p2 rfl) (cwV 1 hts gX4_gain_X4_airAbove rfl rfl rfl (by decide +kernel) ⟨Nat.le_of_ble_eq_true rfl, Nat.le_of_ble_eq_true rfl⟩) (xpvv hP hD hK [0] (by decide) rfl 0 4 rfl rfl (fun _ _ _ => trivial) (fun _ _ _ _ _ _ => trivial)) rfl rfl hl.1 rfl (lv_room (Nat.le_of_ble_eq_true rfl)) dX4_gain_25 ⟨Nat.le_of_ble_eq_true rfl, Nat.le_of_ble_eq_true rfl⟩) hP hD hS hA [0] rfl rfl rfl rfl (fun H locs hP hD hS => ?_)
    refine lv_isub hx hb dX4_gain_28 ?_
    refine va_mmax hx hb (hml.trans hl.1.symm) hown (hts _ (List.mem_of_getElem? (i := 3) rfl)) (hts _ (List.mem_of_getElem? (i := 4) rfl)) (hts _ (List.mem_of_getElem? (i := 5) rfl)) (hts _ (List.mem_of_getElem? (i := 6) rfl)) (Nat.le_of_ble_eq_true rfl) (Nat.le_of_ble_eq_true rfl) (Nat.zero_le _) (Nat.zero_le _) dX4_gain_29 ?_
    obtain rfl := hM
    exact xreti hx hb hr hlocks hP hK hD hS dX4_gain_32 rfl
  · have hM := xif c1 hM
    refine lv_iconst (v := 0) hx hb dX4_gain_11 (by decide) ?_
    obtain rfl := hM
    exact xreti hx hb hr hlocks hP hK hD hS dX4_gain_12 rfl
def f_X4_lift (u_this : K4) : Int32 :=
  (((340) - u_this.2.2.2.2.2.2.2.2.2.1) - u_this.2.2.2.2.2.2.2.2.2.2)
set_option maxHeartbeats 4000000 in
set_option maxRecDepth 100000 in
theorem c_X4_lift (l : Launch) (D : va_G) (T : xT) (h_this : Nat) {sz : Nat} (u_this : K4) {rv : Int32} (hM : f_X4_lift u_this = rv) : Met l yX4_lift wsX4_lift ({ frames := 0, cells := 0, slots := 0, locals := 0 } : Room) (va_Pc [.ref h_this] (xPre D T [(h_this, .inr (4, o4 u_this))] sz xE0)) (va_Qi (fun (r : Int32) (_ : Unit) => r = rv) (fun _ => xPost D T [(h_this, .inr (4, o4 u_this))] (va_A [(h_this, .inr (4, o4 u_this))] sz)) (va_A [(h_this, .inr (4, o4 u_this))] sz)) 0 0 (va_A [(h_this, .inr (4, o4 u_this))] sz) := by
  refine xMet (av := [.ref h_this]) (Wd := [(h_this, .inr (4, o4 u_this))]) (E := xE0) (Qc := fun A => (va_Qi (fun (r : Int32) (_ : Unit) => r = rv) (fun _ => xPost D T [(h_this, .inr (4, o4 u_this))] A) A)) (cc := cX4_lift) (maxL := 1) (ret := (some .int)) (by decide) rfl (Nat.le_of_ble_eq_true rfl) ?_
  intro p e s m below meth c A ls hx hb hr hml hts hown hlocks hnm hP hK hD hS hA hE hl
  have hown : s.vm.findClass RX4 = some m.cls := hown
  have hl : lv_has ls 1 [(0, .ref h_this)] := hl
  unfold f_X4_lift at hM
  refine lv_sipush (v := 340) hx hb dX4_lift_0 (by decide) ?_
  refine lv_aload_n hx hb dX4_lift_3 rfl (lv_at hl 0 rfl) ?_
  refine va_get (D := D) (ci := 4) (v := .int u_this.2.2.2.2.2.2.2.2.2.1) (C := RX4) (T := TX4) (N := 11) hx hb hts (fun w h => List.mem_cons_of_mem _ (List.mem_append_right _ h)) hown hK hP 0 rfl rfl 9 (by decide) (hts _ (List.mem_of_getElem? (i := 1) rfl)) (fun _ h9 => h9) rfl dX4_lift_4 ?_
  refine lv_isub hx hb dX4_lift_7 ?_
  refine lv_aload_n hx hb dX4_lift_8 rfl (lv_at hl 0 rfl) ?_
  refine va_get (D := D) (ci := 4) (v := .int u_this.2.2.2.2.2.2.2.2.2.2) (C := RX4) (T := TX4) (N := 11) hx hb hts (fun w h => List.mem_cons_of_mem _ (List.mem_append_right _ h)) hown hK hP 0 rfl rfl 10 (by decide) (hts _ (List.mem_of_getElem? (i := 2) rfl)) (fun _ h9 => h9) rfl dX4_lift_9 ?_
  refine lv_isub hx hb dX4_lift_12 ?_
  obtain rfl := hM
  exact xreti hx hb hr hlocks hP hK hD hS dX4_lift_13 rfl
def f_X4_put (u_this : K4) (p1 : Int32) (p2 : Int32) : K4 :=
  if p1 = 0 then
   ((p2, u_this.2.1, u_this.2.2.1, u_this.2.2.2.1, u_this.2.2.2.2.1, u_this.2.2.2.2.2.1, u_this.2.2.2.2.2.2.1, u_this.2.2.2.2.2.2.2.1, u_this.2.2.2.2.2.2.2.2.1, u_this.2.2.2.2.2.2.2.2.2.1, u_this.2.2.2.2.2.2.2.2.2.2))
  else if p1 = 1 then
   ((u_this.1, p2, u_this.2.2.1, u_this.2.2.2.1, u_this.2.2.2.2.1, u_this.2.2.2.2.2.1, u_this.2.2.2.2.2.2.1, u_this.2.2.2.2.2.2.2.1, u_this.2.2.2.2.2.2.2.2.1, u_this.2.2.2.2.2.2.2.2.2.1, u_this.2.2.2.2.2.2.2.2.2.2))
  else if p1 = 2 then
   ((u_this.1, u_this.2.1, p2, u_this.2.2.2.1, u_this.2.2.2.2.1, u_this.2.2.2.2.2.1, u_this.2.2.2.2.2.2.1, u_this.2.2.2.2.2.2.2.1, u_this.2.2.2.2.2.2.2.2.1, u_this.2.2.2.2.2.2.2.2.2.1, u_this.2.2.2.2.2.2.2.2.2.2))
  else if p1 = 3 then
   ((u_this.1, u_this.2.1, u_this.2.2.1, p2, u_this.2.2.2.2.1, u_this.2.2.2.2.2.1, u_this.2.2.2.2.2.2.1, u_this.2.2.2.2.2.2.2.1, u_this.2.2.2.2.2.2.2.2.1, u_this.2.2.2.2.2.2.2.2.2.1, u_this.2.2.2.2.2.2.2.2.2.2))
  else if p1 = 4 then
   ((u_this.1, u_this.2.1, u_this.2.2.1, u_this.2.2.2.1, p2, u_this.2.2.2.2.2.1, u_this.2.2.2.2.2.2.1, u_this.2.2.2.2.2.2.2.1, u_this.2.2.2.2.2.2.2.2.1, u_this.2.2.2.2.2.2.2.2.2.1, u_this.2.2.2.2.2.2.2.2.2.2))
  else if p1 = 5 then
   ((u_this.1, u_this.2.1, u_this.2.2.1, u_this.2.2.2.1, u_this.2.2.2.2.1, p2, u_this.2.2.2.2.2.2.1, u_this.2.2.2.2.2.2.2.1, u_this.2.2.2.2.2.2.2.2.1, u_this.2.2.2.2.2.2.2.2.2.1, u_this.2.2.2.2.2.2.2.2.2.2))
  else if p1 = 6 then
   ((u_this.1, u_this.2.1, u_this.2.2.1, u_this.2.2.2.1, u_this.2.2.2.2.1, u_this.2.2.2.2.2.1, p2, u_this.2.2.2.2.2.2.2.1, u_this.2.2.2.2.2.2.2.2.1, u_this.2.2.2.2.2.2.2.2.2.1, u_this.2.2.2.2.2.2.2.2.2.2))
  else if p1 = 7 then
   ((u_this.1, u_this.2.1, u_this.2.2.1, u_this.2.2.2.1, u_this.2.2.2.2.1, u_this.2.2.2.2.2.1, u_this.2.2.2.2.2.2.1, p2, u_this.2.2.2.2.2.2.2.2.1, u_this.2.2.2.2.2.2.2.2.2.1, u_this.2.2.2.2.2.2.2.2.2.2))
  else if p1 = 8 then
   ((u_this.1, u_this.2.1, u_this.2.2.1, u_this.2.2.2.1, u_this.2.2.2.2.1, u_this.2.2.2.2.2.1, u_this.2.2.2.2.2.2.1, u_this.2.2.2.2.2.2.2.1, p2, u_this.2.2.2.2.2.2.2.2.2.1, u_this.2.2.2.2.2.2.2.2.2.2))
  else if p1 = 9 then
   ((u_this.1, u_this.2.1, u_this.2.2.1, u_this.2.2.2.1, u_this.2.2.2.2.1, u_this.2.2.2.2.2.1, u_this.2.2.2.2.2.2.1, u_this.2.2.2.2.2.2.2.1, u_this.2.2.2.2.2.2.2.2.1, p2, u_this.2.2.2.2.2.2.2.2.2.2))
  else 
   ((u_this.1, u_this.2.1, u_this.2.2.1, u_this.2.2.2.1, u_this.2.2.2.2.1, u_this.2.2.2.2.2.1, u_this.2.2.2.2.2.2.1, u_this.2.2.2.2.2.2.2.1, u_this.2.2.2.2.2.2.2.2.1, u_this.2.2.2.2.2.2.2.2.2.1, p2))
set_option maxHeartbeats 4000000 in
set_option maxRecDepth 100000 in
theorem c_X4_put (l : Launch) (D : va_G) (T : xT) (h_this : Nat) {sz : Nat} (u_this : K4) (p1 : Int32) (p2 : Int32) {rv : K4} (hM : f_X4_put u_this p1 p2 = rv) : Met l yX4_put wsX4_put ({ frames := 0, cells := 0, slots := 0, locals := 0 } : Room) (va_Pc [.ref h_this, .int p1, .int p2] (xPre D T [(h_this, .inr (4, o4 u_this))] sz xE0)) (va_Qv (fun (_ : Unit) => True) (fun _ => xPost D T [(h_this, .inr (4, o4 rv))] (va_A [(h_this, .inr (4, o4 u_this))] sz)) (va_A [(h_this, .inr (4, o4 u_this))] sz)) 0 0 (va_A [(h_this, .inr (4, o4 u_this))] sz) := by
  refine xMet (av := [.ref h_this, .int p1, .int p2]) (Wd := [(h_this, .inr (4, o4 u_this))]) (E := xE0) (Qc := fun A => (va_Qv (fun (_ : Unit) => True) (fun _ => xPost D T [(h_this, .inr (4, o4 rv))] A) A)) (cc := cX4_put) (maxL := 3) (ret := none) (by decide) rfl (Nat.le_of_ble_eq_true rfl) ?_
  intro p e s m below meth c A ls hx hb hr hml hts hown hlocks hnm hP hK hD hS hA hE hl
  have hown : s.vm.findClass RX4 = some m.cls := hown
  have hl : lv_has ls 3 [(0, .ref h_this), (1, .int p1), (2, .int p2)] := hl
  unfold f_X4_put at hM
  refine lv_iload_n hx hb dX4_put_0 rfl (lv_at hl 1 rfl) ?_
  by_cases c1 : p1 = 0
  · have hM := xit c1 hM
    refine lv_tableIn (off := 55) (tgt := 56) hx hb dX4_put_1 (by rw [c1]; decide) (by rw [c1]; decide) (by rw [c1]; rfl) (by decide) ?_
    refine lv_aload_n hx hb dX4_put_56 rfl (lv_at hl 0 rfl) ?_
    refine lv_iload_n hx hb dX4_put_57 rfl (lv_at hl 2 rfl) ?_
    refine va_put (D := D) (ci := 4) (v := .int p2) (C := RX4) (T := TX4) (N := 11) hx hb hts (fun w h => List.mem_cons_of_mem _ (List.mem_append_right _ h)) tyX4 tyX4_ok nmX4 hown hK hP hD hS 0 rfl rfl 0 (by decide) (hts _ (List.mem_of_getElem? (i := 1) rfl)) (fun _ h9 => h9) rfl (tyX4_ok 0 (by decide)) rfl rfl (Nat.le_of_ble_eq_true rfl) dX4_put_58 (fun H locs hP hD hS => ?_)
    have hP : va_P D vwCl [(h_this, .inr (4, o4 (p2, u_this.2.1, u_this.2.2.1, u_this.2.2.2.1, u_this.2.2.2.2.1, u_this.2.2.2.2.2.1, u_this.2.2.2.2.2.2.1, u_this.2.2.2.2.2.2.2.1, u_this.2.2.2.2.2.2.2.2.1, u_this.2.2.2.2.2.2.2.2.2.1, u_this.2.2.2.2.2.2.2.2.2.2)))] H := hP
    have hD : va_D A [(h_this, .inr (4, o4 (p2, u_this.2.1, u_this.2.2.1, u_this.2.2.2.1, u_this.2.2.2.2.1, u_this.2.2.2.2.2.1, u_this.2.2.2.2.2.2.1, u_this.2.2.2.2.2.2.2.1, u_this.2.2.2.2.2.2.2.2.1, u_this.2.2.2.2.2.2.2.2.2.1, u_this.2.2.2.2.2.2.2.2.2.2)))] := hD
    refine lv_goto (tgt := 141) hx hb dX4_put_61 (by decide) ?_
    obtain rfl := hM
    exact xretv hx hb hr hlocks hP hK hD hS dX4_put_141
  · have hM := xif c1 hM
    by_cases c2 : p1 = 1
    · have hM := xit c2 hM
      refine lv_tableIn (off := 63) (tgt := 64) hx hb dX4_put_1 (by rw [c2]; decide) (by rw [c2]; decide) (by rw [c2]; rfl) (by decide) ?_
      refine lv_aload_n hx hb dX4_put_64 rfl (lv_at hl 0 rfl) ?_
      refine lv_iload_n hx hb dX4_put_65 rfl (lv_at hl 2 rfl) ?_
      refine va_put (D := D) (ci := 4) (v := .int p2) (C := RX4) (T := TX4) (N := 11) hx hb hts (fun w h => List.mem_cons_of_mem _ (List.mem_append_right _ h)) tyX4 tyX4_ok nmX4 hown hK hP hD hS 0 rfl rfl 1 (by decide) (hts _ (List.mem_of_getElem? (i := 2) rfl)) (fun _ h9 => h9) rfl (tyX4_ok 1 (by decide)) rfl rfl (Nat.le_of_ble_eq_true rfl) dX4_put_66 (fun H locs hP hD hS => ?_)
      have hP : va_P D vwCl [(h_this, .inr (4, o4 (u_this.1, p2, u_this.2.2.1, u_this.2.2.2.1, u_this.2.2.2.2.1, u_this.2.2.2.2.2.1, u_this.2.2.2.2.2.2.1, u_this.2.2.2.2.2.2.2.1, u_this.2.2.2.2.2.2.2.2.1, u_this.2.2.2.2.2.2.2.2.2.1, u_this.2.2.2.2.2.2.2.2.2.2)))] H := hP
      have hD : va_D A [(h_this, .inr (4, o4 (u_this.1, p2, u_this.2.2.1, u_this.2.2.2.1, u_this.2.2.2.2.1, u_this.2.2.2.2.2.1, u_this.2.2.2.2.2.2.1, u_this.2.2.2.2.2.2.2.1, u_this.2.2.2.2.2.2.2.2.1, u_this.2.2.2.2.2.2.2.2.2.1, u_this.2.2.2.2.2.2.2.2.2.2)))] := hD
      refine lv_goto (tgt := 141) hx hb dX4_put_69 (by decide) ?_
      obtain rfl := hM
      exact xretv hx hb hr hlocks hP hK hD hS dX4_put_141
    · have hM := xif c2 hM
      by_cases c3 : p1 = 2
      · have hM := xit c3 hM
        refine lv_tableIn (off := 71) (tgt := 72) hx hb dX4_put_1 (by rw [c3]; decide) (by rw [c3]; decide) (by rw [c3]; rfl) (by decide) ?_
        refine lv_aload_n hx hb dX4_put_72 rfl (lv_at hl 0 rfl) ?_
        refine lv_iload_n hx hb dX4_put_73 rfl (lv_at hl 2 rfl) ?_
        refine va_put (D := D) (ci := 4) (v := .int p2) (C := RX4) (T := TX4) (N := 11) hx hb hts (fun w h => List.mem_cons_of_mem _ (List.mem_append_right _ h)) tyX4 tyX4_ok nmX4 hown hK hP hD hS 0 rfl rfl 2 (by decide) (hts _ (List.mem_of_getElem? (i := 3) rfl)) (fun _ h9 => h9) rfl (tyX4_ok 2 (by decide)) rfl rfl (Nat.le_of_ble_eq_true rfl) dX4_put_74 (fun H locs hP hD hS => ?_)
        have hP : va_P D vwCl [(h_this, .inr (4, o4 (u_this.1, u_this.2.1, p2, u_this.2.2.2.1, u_this.2.2.2.2.1, u_this.2.2.2.2.2.1, u_this.2.2.2.2.2.2.1, u_this.2.2.2.2.2.2.2.1, u_this.2.2.2.2.2.2.2.2.1, u_this.2.2.2.2.2.2.2.2.2.1, u_this.2.2.2.2.2.2.2.2.2.2)))] H := hP
        have hD : va_D A [(h_this, .inr (4, o4 (u_this.1, u_this.2.1, p2, u_this.2.2.2.1, u_this.2.2.2.2.1, u_this.2.2.2.2.2.1, u_this.2.2.2.2.2.2.1, u_this.2.2.2.2.2.2.2.1, u_this.2.2.2.2.2.2.2.2.1, u_this.2.2.2.2.2.2.2.2.2.1, u_this.2.2.2.2.2.2.2.2.2.2)))] := hD
        refine lv_goto (tgt := 141) hx hb dX4_put_77 (by decide) ?_
        obtain rfl := hM
        exact xretv hx hb hr hlocks hP hK hD hS dX4_put_141
      · have hM := xif c3 hM
        by_cases c4 : p1 = 3
        · have hM := xit c4 hM
          refine lv_tableIn (off := 79) (tgt := 80) hx hb dX4_put_1 (by rw [c4]; decide) (by rw [c4]; decide) (by rw [c4]; rfl) (by decide) ?_
          refine lv_aload_n hx hb dX4_put_80 rfl (lv_at hl 0 rfl) ?_
          refine lv_iload_n hx hb dX4_put_81 rfl (lv_at hl 2 rfl) ?_
          refine va_put (D := D) (ci := 4) (v := .int p2) (C := RX4) (T := TX4) (N := 11) hx hb hts (fun w h => List.mem_cons_of_mem _ (List.mem_append_right _ h)) tyX4 tyX4_ok nmX4 hown hK hP hD hS 0 rfl rfl 3 (by decide) (hts _ (List.mem_of_getElem? (i := 4) rfl)) (fun _ h9 => h9) rfl (tyX4_ok 3 (by decide)) rfl rfl (Nat.le_of_ble_eq_true rfl) dX4_put_82 (fun H locs hP hD hS => ?_)
          have hP : va_P D vwCl [(h_this, .inr (4, o4 (u_this.1, u_this.2.1, u_this.2.2.1, p2, u_this.2.2.2.2.1, u_this.2.2.2.2.2.1, u_this.2.2.2.2.2.2.1, u_this.2.2.2.2.2.2.2.1, u_this.2.2.2.2.2.2.2.2.1, u_this.2.2.2.2.2.2.2.2.2.1, u_this.2.2.2.2.2.2.2.2.2.2)))] H := hP
          have hD : va_D A [(h_this, .inr (4, o4 (u_this.1, u_this.2.1, u_this.2.2.1, p2, u_this.2.2.2.2.1, u_this.2.2.2.2.2.1, u_this.2.2.2.2.2.2.1, u_this.2.2.2.2.2.2.2.1, u_this.2.2.2.2.2.2.2.2.1, u_this.2.2.2.2.2.2.2.2.2.1, u_this.2.2.2.2.2.2.2.2.2.2)))] := hD
          refine lv_goto (tgt := 141) hx hb dX4_put_85 (by decide) ?_
          obtain rfl := hM
          exact xretv hx hb hr hlocks hP hK hD hS dX4_put_141
        · have hM := xif c4 hM
          by_cases c5 : p1 = 4
          · have hM := xit c5 hM
            refine lv_tableIn (off := 87) (tgt := 88) hx hb dX4_put_1 (by rw [c5]; decide) (by rw [c5]; decide) (by rw [c5]; rfl) (by decide) ?_
            refine lv_aload_n hx hb dX4_put_88 rfl (lv_at hl 0 rfl) ?_
            refine lv_iload_n hx hb dX4_put_89 rfl (lv_at hl 2 rfl) ?_
            refine va_put (D := D) (ci := 4) (v := .int p2) (C := RX4) (T := TX4) (N := 11) hx hb hts (fun w h => List.mem_cons_of_mem _ (List.mem_append_right _ h)) tyX4 tyX4_ok nmX4 hown hK hP hD hS 0 rfl rfl 4 (by decide) (hts _ (List.mem_of_getElem? (i := 5) rfl)) (fun _ h9 => h9) rfl (tyX4_ok 4 (by decide)) rfl rfl (Nat.le_of_ble_eq_true rfl) dX4_put_90 (fun H locs hP hD hS => ?_)
            have hP : va_P D vwCl [(h_this, .inr (4, o4 (u_this.1, u_this.2.1, u_this.2.2.1, u_this.2.2.2.1, p2, u_this.2.2.2.2.2.1, u_this.2.2.2.2.2.2.1, u_this.2.2.2.2.2.2.2.1, u_this.2.2.2.2.2.2.2.2.1, u_this.2.2.2.2.2.2.2.2.2.1, u_this.2.2.2.2.2.2.2.2.2.2)))] H := hP
            have hD : va_D A [(h_this, .inr (4, o4 (u_this.1, u_this.2.1, u_this.2.2.1, u_this.2.2.2.1, p2, u_this.2.2.2.2.2.1, u_this.2.2.2.2.2.2.1, u_this.2.2.2.2.2.2.2.1, u_this.2.2.2.2.2.2.2.2.1, u_this.2.2.2.2.2.2.2.2.2.1, u_this.2.2.2.2.2.2.2.2.2.2)))] := hD
            refine lv_goto (tgt := 141) hx hb dX4_put_93 (by decide) ?_
            obtain rfl := hM
            exact xretv hx hb hr hlocks hP hK hD hS dX4_put_141
          · have hM := xif c5 hM
            by_cases c6 : p1 = 5
            · have hM := xit c6 hM
              refine lv_tableIn (off := 95) (tgt := 96) hx hb dX4_put_1 (by rw [c6]; decide) (by rw [c6]; decide) (by rw [c6]; rfl) (by decide) ?_
              refine lv_aload_n hx hb dX4_put_96 rfl (lv_at hl 0 rfl) ?_
              refine lv_iload_n hx hb dX4_put_97 rfl (lv_at hl 2 rfl) ?_
              refine va_put (D := D) (ci := 4) (v := .int p2) (C := RX4) (T := TX4) (N := 11) hx hb hts (fun w h => List.mem_cons_of_mem _ (List.mem_append_right _ h)) tyX4 tyX4_ok nmX4 hown hK hP hD hS 0 rfl rfl 5 (by decide) (hts _ (List.mem_of_getElem? (i := 6) rfl)) (fun _ h9 => h9) rfl (tyX4_ok 5 (by decide)) rfl rfl (Nat.le_of_ble_eq_true rfl) dX4_put_98 (fun H locs hP hD hS => ?_)
              have hP : va_P D vwCl [(h_this, .inr (4, o4 (u_this.1, u_this.2.1, u_this.2.2.1, u_this.2.2.2.1, u_this.2.2.2.2.1, p2, u_this.2.2.2.2.2.2.1, u_this.2.2.2.2.2.2.2.1, u_this.2.2.2.2.2.2.2.2.1, u_this.2.2.2.2.2.2.2.2.2.1, u_this.2.2.2.2.2.2.2.2.2.2)))] H := hP
              have hD : va_D A [(h_this, .inr (4, o4 (u_this.1, u_this.2.1, u_this.2.2.1, u_this.2.2.2.1, u_this.2.2.2.2.1, p2, u_this.2.2.2.2.2.2.1, u_this.2.2.2.2.2.2.2.1, u_this.2.2.2.2.2.2.2.2.1, u_this.2.2.2.2.2.2.2.2.2.1, u_this.2.2.2.2.2.2.2.2.2.2)))] := hD
              refine lv_goto (tgt := 141) hx hb dX4_put_101 (by decide) ?_
              obtain rfl := hM
              exact xretv hx hb hr hlocks hP hK hD hS dX4_put_141
            · have hM := xif c6 hM
              by_cases c7 : p1 = 6
              · have hM := xit c7 hM
                refine lv_tableIn (off := 103) (tgt := 104) hx hb dX4_put_1 (by rw [c7]; decide) (by rw [c7]; decide) (by rw [c7]; rfl) (by decide) ?_
                refine lv_aload_n hx hb dX4_put_104 rfl (lv_at hl 0 rfl) ?_
                refine lv_iload_n hx hb dX4_put_105 rfl (lv_at hl 2 rfl) ?_
                refine va_put (D := D) (ci := 4) (v := .int p2) (C := RX4) (T := TX4) (N := 11) hx hb hts (fun w h => List.mem_cons_of_mem _ (List.mem_append_right _ h)) tyX4 tyX4_ok nmX4 hown hK hP hD hS 0 rfl rfl 6 (by decide) (hts _ (List.mem_of_getElem? (i := 7) rfl)) (fun _ h9 => h9) rfl (tyX4_ok 6 (by decide)) rfl rfl (Nat.le_of_ble_eq_true rfl) dX4_put_106 (fun H locs hP hD hS => ?_)
                have hP : va_P D vwCl [(h_this, .inr (4, o4 (u_this.1, u_this.2.1, u_this.2.2.1, u_this.2.2.2.1, u_this.2.2.2.2.1, u_this.2.2.2.2.2.1, p2, u_this.2.2.2.2.2.2.2.1, u_this.2.2.2.2.2.2.2.2.1, u_this.2.2.2.2.2.2.2.2.2.1, u_this.2.2.2.2.2.2.2.2.2.2)))] H := hP
                have hD : va_D A [(h_this, .inr (4, o4 (u_this.1, u_this.2.1, u_this.2.2.1, u_this.2.2.2.1, u_this.2.2.2.2.1, u_this.2.2.2.2.2.1, p2, u_this.2.2.2.2.2.2.2.1, u_this.2.2.2.2.2.2.2.2.1, u_this.2.2.2.2.2.2.2.2.2.1, u_this.2.2.2.2.2.2.2.2.2.2)))] := hD
                refine lv_goto (tgt := 141) hx hb dX4_put_109 (by decide) ?_
                obtain rfl := hM
                exact xretv hx hb hr hlocks hP hK hD hS dX4_put_141
              · have hM := xif c7 hM
                by_cases c8 : p1 = 7
                · have hM := xit c8 hM
                  refine lv_tableIn (off := 111) (tgt := 112) hx hb dX4_put_1 (by rw [c8]; decide) (by rw [c8]; decide) (by rw [c8]; rfl) (by decide) ?_
                  refine lv_aload_n hx hb dX4_put_112 rfl (lv_at hl 0 rfl) ?_
                  refine lv_iload_n hx hb dX4_put_113 rfl (lv_at hl 2 rfl) ?_
                  refine va_put (D := D) (ci := 4) (v := .int p2) (C := RX4) (T := TX4) (N := 11) hx hb hts (fun w h => List.mem_cons_of_mem _ (List.mem_append_right _ h)) tyX4 tyX4_ok nmX4 hown hK hP hD hS 0 rfl rfl 7 (by decide) (hts _ (List.mem_of_getElem? (i := 8) rfl)) (fun _ h9 => h9) rfl (tyX4_ok 7 (by decide)) rfl rfl (Nat.le_of_ble_eq_true rfl) dX4_put_114 (fun H locs hP hD hS => ?_)
                  have hP : va_P D vwCl [(h_this, .inr (4, o4 (u_this.1, u_this.2.1, u_this.2.2.1, u_this.2.2.2.1, u_this.2.2.2.2.1, u_this.2.2.2.2.2.1, u_this.2.2.2.2.2.2.1, p2, u_this.2.2.2.2.2.2.2.2.1, u_this.2.2.2.2.2.2.2.2.2.1, u_this.2.2.2.2.2.2.2.2.2.2)))] H := hP
                  have hD : va_D A [(h_this, .inr (4, o4 (u_this.1, u_this.2.1, u_this.2.2.1, u_this.2.2.2.1, u_this.2.2.2.2.1, u_this.2.2.2.2.2.1, u_this.2.2.2.2.2.2.1, p2, u_this.2.2.2.2.2.2.2.2.1, u_this.2.2.2.2.2.2.2.2.2.1, u_this.2.2.2.2.2.2.2.2.2.2)))] := hD
                  refine lv_goto (tgt := 141) hx hb dX4_put_117 (by decide) ?_
                  obtain rfl := hM
                  exact xretv hx hb hr hlocks hP hK hD hS dX4_put_141
                · have hM := xif c8 hM
                  by_cases c9 : p1 = 8
                  · have hM := xit c9 hM
                    refine lv_tableIn (off := 119) (tgt := 120) hx hb dX4_put_1 (by rw [c9]; decide) (by rw [c9]; decide) (by rw [c9]; rfl) (by decide) ?_
                    refine lv_aload_n hx hb dX4_put_120 rfl (lv_at hl 0 rfl) ?_
                    refine lv_iload_n hx hb dX4_put_121 rfl (lv_at hl 2 rfl) ?_
                    refine va_put (D := D) (ci := 4) (v := .int p2) (C := RX4) (T := TX4) (N := 11) hx hb hts (fun w h => List.mem_cons_of_mem _ (List.mem_append_right _ h)) tyX4 tyX4_ok nmX4 hown hK hP hD hS 0 rfl rfl 8 (by decide) (hts _ (List.mem_of_getElem? (i := 9) rfl)) (fun _ h9 => h9) rfl (tyX4_ok 8 (by decide)) rfl rfl (Nat.le_of_ble_eq_true rfl) dX4_put_122 (fun H locs hP hD hS => ?_)
                    have hP : va_P D vwCl [(h_this, .inr (4, o4 (u_this.1, u_this.2.1, u_this.2.2.1, u_this.2.2.2.1, u_this.2.2.2.2.1, u_this.2.2.2.2.2.1, u_this.2.2.2.2.2.2.1, u_this.2.2.2.2.2.2.2.1, p2, u_this.2.2.2.2.2.2.2.2.2.1, u_this.2.2.2.2.2.2.2.2.2.2)))] H := hP
                    have hD : va_D A [(h_this, .inr (4, o4 (u_this.1, u_this.2.1, u_this.2.2.1, u_this.2.2.2.1, u_this.2.2.2.2.1, u_this.2.2.2.2.2.1, u_this.2.2.2.2.2.2.1, u_this.2.2.2.2.2.2.2.1, p2, u_this.2.2.2.2.2.2.2.2.2.1, u_this.2.2.2.2.2.2.2.2.2.2)))] := hD
                    refine lv_goto (tgt := 141) hx hb dX4_put_125 (by decide) ?_
                    obtain rfl := hM
                    exact xretv hx hb hr hlocks hP hK hD hS dX4_put_141
                  · have hM := xif c9 hM
                    by_cases c10 : p1 = 9
                    · have hM := xit c10 hM
                      refine lv_tableIn (off := 127) (tgt := 128) hx hb dX4_put_1 (by rw [c10]; decide) (by rw [c10]; decide) (by rw [c10]; rfl) (by decide) ?_
                      refine lv_aload_n hx hb dX4_put_128 rfl (lv_at hl 0 rfl) ?_
                      refine lv_iload_n hx hb dX4_put_129 rfl (lv_at hl 2 rfl) ?_
                      refine va_put (D := D) (ci := 4) (v := .int p2) (C := RX4) (T := TX4) (N := 11) hx hb hts (fun w h => List.mem_cons_of_mem _ (List.mem_append_right _ h)) tyX4 tyX4_ok nmX4 hown hK hP hD hS 0 rfl rfl 9 (by decide) (hts _ (List.mem_of_getElem? (i := 10) rfl)) (fun _ h9 => h9) rfl (tyX4_ok 9 (by decide)) rfl rfl (Nat.le_of_ble_eq_true rfl) dX4_put_130 (fun H locs hP hD hS => ?_)
                      have hP : va_P D vwCl [(h_this, .inr (4, o4 (u_this.1, u_this.2.1, u_this.2.2.1, u_this.2.2.2.1, u_this.2.2.2.2.1, u_this.2.2.2.2.2.1, u_this.2.2.2.2.2.2.1, u_this.2.2.2.2.2.2.2.1, u_this.2.2.2.2.2.2.2.2.1, p2, u_this.2.2.2.2.2.2.2.2.2.2)))] H := hP
                      have hD : va_D A [(h_this, .inr (4, o4 (u_this.1, u_this.2.1, u_this.2.2.1, u_this.2.2.2.1, u_this.2.2.2.2.1, u_this.2.2.2.2.2.1, u_this.2.2.2.2.2.2.1, u_this.2.2.2.2.2.2.2.1, u_this.2.2.2.2.2.2.2.2.1, p2, u_this.2.2.2.2.2.2.2.2.2.2)))] := hD
                      refine lv_goto (tgt := 141) hx hb dX4_put_133 (by decide) ?_
                      obtain rfl := hM
                      exact xretv hx hb hr hlocks hP hK hD hS dX4_put_141
                    · have hM := xif c10 hM
                      refine lv_tableOut (tgt := 136) hx hb dX4_put_1 (by have q0 := xsw c1 (show (0 : Int32).toInt = 0 by decide); have q1 := xsw c2 (show (1 : Int32).toInt = 1 by decide); have q2 := xsw c3 (show (2 : Int32).toInt = 2 by decide); have q3 := xsw c4 (show (3 : Int32).toInt = 3 by decide); have q4 := xsw c5 (show (4 : Int32).toInt = 4 by decide); have q5 := xsw c6 (show (5 : Int32).toInt = 5 by decide); have q6 := xsw c7 (show (6 : Int32).toInt = 6 by decide); have q7 := xsw c8 (show (7 : Int32).toInt = 7 by decide); have q8 := xsw c9 (show (8 : Int32).toInt = 8 by decide); have q9 := xsw c10 (show (9 : Int32).toInt = 9 by decide); omega) (by decide) ?_
                      refine lv_aload_n hx hb dX4_put_136 rfl (lv_at hl 0 rfl) ?_
                      refine lv_iload_n hx hb dX4_put_137 rfl (lv_at hl 2 rfl) ?_
                      refine va_put (D := D) (ci := 4) (v := .int p2) (C := RX4) (T := TX4) (N := 11) hx hb hts (fun w h => List.mem_cons_of_mem _ (List.mem_append_right _ h)) tyX4 tyX4_ok nmX4 hown hK hP hD hS 0 rfl rfl 10 (by decide) (hts _ (List.mem_of_getElem? (i := 11) rfl)) (fun _ h9 => h9) rfl (tyX4_ok 10 (by decide)) rfl rfl (Nat.le_of_ble_eq_true rfl) dX4_put_138 (fun H locs hP hD hS => ?_)
                      have hP : va_P D vwCl [(h_this, .inr (4, o4 (u_this.1, u_this.2.1, u_this.2.2.1, u_this.2.2.2.1, u_this.2.2.2.2.1, u_this.2.2.2.2.2.1, u_this.2.2.2.2.2.2.1, u_this.2.2.2.2.2.2.2.1, u_this.2.2.2.2.2.2.2.2.1, u_this.2.2.2.2.2.2.2.2.2.1, p2)))] H := hP
                      have hD : va_D A [(h_this, .inr (4, o4 (u_this.1, u_this.2.1, u_this.2.2.1, u_this.2.2.2.1, u_this.2.2.2.2.1, u_this.2.2.2.2.2.1, u_this.2.2.2.2.2.2.1, u_this.2.2.2.2.2.2.2.1, u_this.2.2.2.2.2.2.2.2.1, u_this.2.2.2.2.2.2.2.2.2.1, p2)))] := hD
                      obtain rfl := hM
                      exact xretv hx hb hr hlocks hP hK hD hS dX4_put_141
def s_X4_beUntold_2 (v1 : Int32 × K4) : Option ((Int32 × K4) ⊕ (Int32 × K4)) :=
  if (11) ≤ v1.1 then
   (some (.inr (v1.1, v1.2)))
  else
   (if xin v1.1 11 = true then
    ((some (f_X4_put v1.2 v1.1 (sUNTOLD.getD v1.1.toNatClampNeg 0)) : Option (K4)).bind fun r4 =>
     some (.inl (v1.1 + 1, r4)))
    else none)
def f_X4_beUntold (N : Nat) (u_this : K4) : Option (K4) :=
  (xlp s_X4_beUntold_2 N (0, u_this)).bind fun v5 =>
  some v5.2
set_option maxHeartbeats 4000000 in
set_option maxRecDepth 100000 in
theorem c_X4_beUntold (l : Launch) (D : va_G) (T : xT) (k : xK) (h_this : Nat) {sz : Nat} {N : Nat} (u_this : K4) {rv : K4} (hM : f_X4_beUntold N u_this = some rv) : Met l yX4_beUntold wsX4_beUntold ({ frames := 1, cells := 0, slots := 0, locals := 22 } : Room) (va_Pc [.ref h_this] (xPre D T [(h_this, .inr (4, o4 u_this))] sz (xE1 k))) (va_Qv (fun (_ : Unit) => True) (fun _ => xPost D T [(h_this, .inr (4, o4 rv))] (va_A [(h_this, .inr (4, o4 u_this))] sz)) (va_A [(h_this, .inr (4, o4 u_this))] sz)) 0 0 (va_A [(h_this, .inr (4, o4 u_this))] sz) := by
  refine xMet (av := [.ref h_this]) (Wd := [(h_this, .inr (4, o4 u_this))]) (E := (xE1 k)) (Qc := fun A => (va_Qv (fun (_ : Unit) => True) (fun _ => xPost D T [(h_this, .inr (4, o4 rv))] A) A)) (cc := cX4_beUntold) (maxL := 2) (ret := none) (by decide) rfl (Nat.le_of_ble_eq_true rfl) ?_
  intro p e s m below meth c A ls hx hb hr hml hts hown hlocks hnm hP hK hD hS hA hE hl
  have hown : s.vm.findClass RX4 = some m.cls := hown
  have hl : lv_has ls 2 [(0, .ref h_this)] := hl
  unfold f_X4_beUntold at hM
  refine lv_iconst (v := 0) hx hb dX4_beUntold_0 (by decide) ?_
  refine lv_istore_n (lv' := [(1, .int (0)), (0, .ref h_this)]) hx hb dX4_beUntold_1 rfl hl (by decide) rfl (fun ls hl => ?_)
  obtain ⟨v5, hM, hNv5⟩ := xbd hM
  have hQv5 := hM
  have Kv5 : ∀ (H : Heap) (locs : List Loc) (ls : Array Slot), va_P D vwCl [(h_this, .inr (4, o4 v5.2))] H → va_D A [(h_this, .inr (4, o4 v5.2))] → va_S A s.heap H locs → lv_has ls 2 [] → W p l e ({ frames := 1, cells := 0, slots := 0, locals := 22 } : Room) s m ([.ref h_this] : List Value).toArray below meth c H locs 0 0 (MQ below (va_Qv (fun (_ : Unit) => True) (fun _ => xPost D T [(h_this, .inr (4, o4 rv))] A) A) ([.ref h_this] : List Value).toArray s 0 0 A) (F0 m 24 ls []) := by
    intro H locs ls hP hD hS hl
    have hM := hNv5
    obtain rfl := Option.some.inj hM
    exact xretv hx hb hr hlocks hP hK hD hS dX4_beUntold_24
  have Lv1 : ∀ (n : Nat) (v1 : Int32 × K4), xlp s_X4_beUntold_2 n v1 = some v5 → ∀ (H : Heap) (locs : List Loc) (ls : Array Slot), va_P D vwCl [(h_this, .inr (4, o4 v1.2))] H → va_D A [(h_this, .inr (4, o4 v1.2))] → va_S A s.heap H locs → lv_has ls 2 [(0, .ref h_this), (1, .int v1.1)] → W p l e ({ frames := 1, cells := 0, slots := 0, locals := 22 } : Room) s m ([.ref h_this] : List Value).toArray below meth c H locs 0 0 (MQ below (va_Qv (fun (_ : Unit) => True) (fun _ => xPost D T [(h_this, .inr (4, o4 rv))] A) A) ([.ref h_this] : List Value).toArray s 0 0 A) (F0 m 2 ls []) := by
    intro n
    induction n with
    | zero => exact fun _ h => (xlp_0 h).elim
    | succ n ih =>
      intro v1 hM H locs ls hP hD hS hl
      obtain ⟨z, hM, hz1, hz2⟩ := xlp_s hM
      unfold s_X4_beUntold_2 at hM
      refine lv_iload_n hx hb dX4_beUntold_2 rfl (lv_at hl 1 rfl) ?_
      refine lv_bipush (v := 11) hx hb dX4_beUntold_3 (by decide) ?_
      refine lv_icmp_ge (tgt := 24) hx hb dX4_beUntold_5 (by decide) (fun c2 => ?_) (fun c2 => ?_)
      · have hM := xit c2 hM
        obtain rfl := hz2 _ (Option.some.inj hM).symm
        exact Kv5 _ _ _ hP hD hS (lv_sub hl [] rfl)
      · have hM := xif c2 hM
        refine lv_aload_n hx hb dX4_beUntold_8 rfl (lv_at hl 0 rfl) ?_
        refine lv_iload_n hx hb dX4_beUntold_9 rfl (lv_at hl 1 rfl) ?_
        refine va_getsN hx hb hE.1.1 hS hown (va_Nw.use rfl hE.2.2.2.2.1.2.2.1) (fun _ h9 => h9) dX4_beUntold_10 ?_
        refine lv_iload_n hx hb dX4_beUntold_13 rfl (lv_at hl 1 rfl) ?_
        obtain ⟨g3, hM⟩ := xck hM
        refine va_ti (v := .int (sUNTOLD.getD v1.1.toNatClampNeg 0)) hx hb hE.1.2 hS g3 rfl dX4_beUntold_14 ?_
        obtain ⟨r4, er4, hM⟩ := xbd hM
        refine xaftv (W2 := [(h_this, .inr (4, o4 r4))]) (va_runV (As := [.int v1.1, .int (sUNTOLD.getD v1.1.toNatClampNeg 0)]) (rest := []) ⟨hx, hb, hml, hown, hts⟩ (c_X4_put l D T h_this v1.2 v1.1 (sUNTOLD.getD v1.1.toNatClampNeg 0) (Option.some.inj er4)) (cwV 2 hts gX4_beUntold_X4_put rfl rfl rfl (by decide +kernel) ⟨Nat.le_of_ble_eq_true rfl, Nat.le_of_ble_eq_true rfl⟩) (xpvv hP hD hK [0] (by decide) rfl 0 4 rfl rfl (fun _ _ _ => trivial) (fun _ _ _ _ _ _ => trivial)) rfl rfl hl.1 rfl (lv_room (Nat.le_of_ble_eq_true rfl)) dX4_beUntold_15 ⟨Nat.le_of_ble_eq_true rfl, Nat.le_of_ble_eq_true rfl⟩) hP hD hS hA [0] rfl rfl rfl rfl (fun H locs hP hD hS => ?_)
        refine lv_iinc (v := v1.1 + 1) (lv' := [(1, .int (v1.1 + 1)), (0, .ref h_this)]) hx hb dX4_beUntold_18 hl (k := 1) rfl rfl (by decide) rfl (fun ls hl => ?_)
        refine lv_goto (tgt := 2) hx hb dX4_beUntold_21 (by decide) ?_
        exact ih _ (hz1 _ (Option.some.inj hM).symm) _ _ _ hP hD hS (lv_sub hl [1, 0] rfl)
  exact Lv1 _ _ hM _ _ _ hP hD hS (lv_sub hl [1, 0] rfl)
def f_X4_get (u_this : K4) (p1 : Int32) : Int32 :=
  if p1 = 0 then
   (u_this.1)
  else if p1 = 1 then
   (u_this.2.1)
  else if p1 = 2 then
   (u_this.2.2.1)
  else if p1 = 3 then
   (u_this.2.2.2.1)
  else if p1 = 4 then
   (u_this.2.2.2.2.1)
  else if p1 = 5 then
   (u_this.2.2.2.2.2.1)
  else if p1 = 6 then
   (u_this.2.2.2.2.2.2.1)
  else if p1 = 7 then
   (u_this.2.2.2.2.2.2.2.1)
  else if p1 = 8 then
   (u_this.2.2.2.2.2.2.2.2.1)
  else if p1 = 9 then
   (u_this.2.2.2.2.2.2.2.2.2.1)
  else 
   (u_this.2.2.2.2.2.2.2.2.2.2)
set_option maxHeartbeats 4000000 in
set_option maxRecDepth 100000 in
theorem c_X4_get (l : Launch) (D : va_G) (T : xT) (h_this : Nat) {sz : Nat} (u_this : K4) (p1 : Int32) {rv : Int32} (hM : f_X4_get u_this p1 = rv) : Met l yX4_get wsX4_get ({ frames := 0, cells := 0, slots := 0, locals := 0 } : Room) (va_Pc [.ref h_this, .int p1] (xPre D T [(h_this, .inr (4, o4 u_this))] sz xE0)) (va_Qi (fun (r : Int32) (_ : Unit) => r = rv) (fun _ => xPost D T [(h_this, .inr (4, o4 u_this))] (va_A [(h_this, .inr (4, o4 u_this))] sz)) (va_A [(h_this, .inr (4, o4 u_this))] sz)) 0 0 (va_A [(h_this, .inr (4, o4 u_this))] sz) := by
  refine xMet (av := [.ref h_this, .int p1]) (Wd := [(h_this, .inr (4, o4 u_this))]) (E := xE0) (Qc := fun A => (va_Qi (fun (r : Int32) (_ : Unit) => r = rv) (fun _ => xPost D T [(h_this, .inr (4, o4 u_this))] A) A)) (cc := cX4_get) (maxL := 2) (ret := (some .int)) (by decide) rfl (Nat.le_of_ble_eq_true rfl) ?_
  intro p e s m below meth c A ls hx hb hr hml hts hown hlocks hnm hP hK hD hS hA hE hl
  have hown : s.vm.findClass RX4 = some m.cls := hown
  have hl : lv_has ls 2 [(0, .ref h_this), (1, .int p1)] := hl
  unfold f_X4_get at hM
  refine lv_iload_n hx hb dX4_get_0 rfl (lv_at hl 1 rfl) ?_
  by_cases c1 : p1 = 0
  · have hM := xit c1 hM
    refine lv_tableIn (off := 55) (tgt := 56) hx hb dX4_get_1 (by rw [c1]; decide) (by rw [c1]; decide) (by rw [c1]; rfl) (by decide) ?_
    refine lv_aload_n hx hb dX4_get_56 rfl (lv_at hl 0 rfl) ?_
    refine va_get (D := D) (ci := 4) (v := .int u_this.1) (C := RX4) (T := TX4) (N := 11) hx hb hts (fun w h => List.mem_cons_of_mem _ (List.mem_append_right _ h)) hown hK hP 0 rfl rfl 0 (by decide) (hts _ (List.mem_of_getElem? (i := 1) rfl)) (fun _ h9 => h9) rfl dX4_get_57 ?_
    obtain rfl := hM
    exact xreti hx hb hr hlocks hP hK hD hS dX4_get_60 rfl
  · have hM := xif c1 hM
    by_cases c2 : p1 = 1
    · have hM := xit c2 hM
      refine lv_tableIn (off := 60) (tgt := 61) hx hb dX4_get_1 (by rw [c2]; decide) (by rw [c2]; decide) (by rw [c2]; rfl) (by decide) ?_
      refine lv_aload_n hx hb dX4_get_61 rfl (lv_at hl 0 rfl) ?_
      refine va_get (D := D) (ci := 4) (v := .int u_this.2.1) (C := RX4) (T := TX4) (N := 11) hx hb hts (fun w h => List.mem_cons_of_mem _ (List.mem_append_right _ h)) hown hK hP 0 rfl rfl 1 (by decide) (hts _ (List.mem_of_getElem? (i := 2) rfl)) (fun _ h9 => h9) rfl dX4_get_62 ?_
      obtain rfl := hM
      exact xreti hx hb hr hlocks hP hK hD hS dX4_get_65 rfl
    · have hM := xif c2 hM
      by_cases c3 : p1 = 2
      · have hM := xit c3 hM
        refine lv_tableIn (off := 65) (tgt := 66) hx hb dX4_get_1 (by rw [c3]; decide) (by rw [c3]; decide) (by rw [c3]; rfl) (by decide) ?_
        refine lv_aload_n hx hb dX4_get_66 rfl (lv_at hl 0 rfl) ?_
        refine va_get (D := D) (ci := 4) (v := .int u_this.2.2.1) (C := RX4) (T := TX4) (N := 11) hx hb hts (fun w h => List.mem_cons_of_mem _ (List.mem_append_right _ h)) hown hK hP 0 rfl rfl 2 (by decide) (hts _ (List.mem_of_getElem? (i := 3) rfl)) (fun _ h9 => h9) rfl dX4_get_67 ?_
        obtain rfl := hM
        exact xreti hx hb hr hlocks hP hK hD hS dX4_get_70 rfl
      · have hM := xif c3 hM
        by_cases c4 : p1 = 3
        · have hM := xit c4 hM
          refine lv_tableIn (off := 70) (tgt := 71) hx hb dX4_get_1 (by rw [c4]; decide) (by rw [c4]; decide) (by rw [c4]; rfl) (by decide) ?_
          refine lv_aload_n hx hb dX4_get_71 rfl (lv_at hl 0 rfl) ?_
          refine va_get (D := D) (ci := 4) (v := .int u_this.2.2.2.1) (C := RX4) (T := TX4) (N := 11) hx hb hts (fun w h => List.mem_cons_of_mem _ (List.mem_append_right _ h)) hown hK hP 0 rfl rfl 3 (by decide) (hts _ (List.mem_of_getElem? (i := 4) rfl)) (fun _ h9 => h9) rfl dX4_get_72 ?_
          obtain rfl := hM
          exact xreti hx hb hr hlocks hP hK hD hS dX4_get_75 rfl
        · have hM := xif c4 hM
          by_cases c5 : p1 = 4
          · have hM := xit c5 hM
            refine lv_tableIn (off := 75) (tgt := 76) hx hb dX4_get_1 (by rw [c5]; decide) (by rw [c5]; decide) (by rw [c5]; rfl) (by decide) ?_
            refine lv_aload_n hx hb dX4_get_76 rfl (lv_at hl 0 rfl) ?_
            refine va_get (D := D) (ci := 4) (v := .int u_this.2.2.2.2.1) (C := RX4) (T := TX4) (N := 11) hx hb hts (fun w h => List.mem_cons_of_mem _ (List.mem_append_right _ h)) hown hK hP 0 rfl rfl 4 (by decide) (hts _ (List.mem_of_getElem? (i := 5) rfl)) (fun _ h9 => h9) rfl dX4_get_77 ?_
            obtain rfl := hM
            exact xreti hx hb hr hlocks hP hK hD hS dX4_get_80 rfl
          · have hM := xif c5 hM
            by_cases c6 : p1 = 5
            · have hM := xit c6 hM
              refine lv_tableIn (off := 80) (tgt := 81) hx hb dX4_get_1 (by rw [c6]; decide) (by rw [c6]; decide) (by rw [c6]; rfl) (by decide) ?_
              refine lv_aload_n hx hb dX4_get_81 rfl (lv_at hl 0 rfl) ?_
              refine va_get (D := D) (ci := 4) (v := .int u_this.2.2.2.2.2.1) (C := RX4) (T := TX4) (N := 11) hx hb hts (fun w h => List.mem_cons_of_mem _ (List.mem_append_right _ h)) hown hK hP 0 rfl rfl 5 (by decide) (hts _ (List.mem_of_getElem? (i := 6) rfl)) (fun _ h9 => h9) rfl dX4_get_82 ?_
              obtain rfl := hM
              exact xreti hx hb hr hlocks hP hK hD hS dX4_get_85 rfl
            · have hM := xif c6 hM
              by_cases c7 : p1 = 6
              · have hM := xit c7 hM
                refine lv_tableIn (off := 85) (tgt := 86) hx hb dX4_get_1 (by rw [c7]; decide) (by rw [c7]; decide) (by rw [c7]; rfl) (by decide) ?_
                refine lv_aload_n hx hb dX4_get_86 rfl (lv_at hl 0 rfl) ?_
                refine va_get (D := D) (ci := 4) (v := .int u_this.2.2.2.2.2.2.1) (C := RX4) (T := TX4) (N := 11) hx hb hts (fun w h => List.mem_cons_of_mem _ (List.mem_append_right _ h)) hown hK hP 0 rfl rfl 6 (by decide) (hts _ (List.mem_of_getElem? (i := 7) rfl)) (fun _ h9 => h9) rfl dX4_get_87 ?_
                obtain rfl := hM
                exact xreti hx hb hr hlocks hP hK hD hS dX4_get_90 rfl
              · have hM := xif c7 hM
                by_cases c8 : p1 = 7
                · have hM := xit c8 hM
                  refine lv_tableIn (off := 90) (tgt := 91) hx hb dX4_get_1 (by rw [c8]; decide) (by rw [c8]; decide) (by rw [c8]; rfl) (by decide) ?_
                  refine lv_aload_n hx hb dX4_get_91 rfl (lv_at hl 0 rfl) ?_
                  refine va_get (D := D) (ci := 4) (v := .int u_this.2.2.2.2.2.2.2.1) (C := RX4) (T := TX4) (N := 11) hx hb hts (fun w h => List.mem_cons_of_mem _ (List.mem_append_right _ h)) hown hK hP 0 rfl rfl 7 (by decide) (hts _ (List.mem_of_getElem? (i := 8) rfl)) (fun _ h9 => h9) rfl dX4_get_92 ?_
                  obtain rfl := hM
                  exact xreti hx hb hr hlocks hP hK hD hS dX4_get_95 rfl
                · have hM := xif c8 hM
                  by_cases c9 : p1 = 8
                  · have hM := xit c9 hM
                    refine lv_tableIn (off := 95) (tgt := 96) hx hb dX4_get_1 (by rw [c9]; decide) (by rw [c9]; decide) (by rw [c9]; rfl) (by decide) ?_
                    refine lv_aload_n hx hb dX4_get_96 rfl (lv_at hl 0 rfl) ?_
                    refine va_get (D := D) (ci := 4) (v := .int u_this.2.2.2.2.2.2.2.2.1) (C := RX4) (T := TX4) (N := 11) hx hb hts (fun w h => List.mem_cons_of_mem _ (List.mem_append_right _ h)) hown hK hP 0 rfl rfl 8 (by decide) (hts _ (List.mem_of_getElem? (i := 9) rfl)) (fun _ h9 => h9) rfl dX4_get_97 ?_
                    obtain rfl := hM
                    exact xreti hx hb hr hlocks hP hK hD hS dX4_get_100 rfl
                  · have hM := xif c9 hM
                    by_cases c10 : p1 = 9
                    · have hM := xit c10 hM
                      refine lv_tableIn (off := 100) (tgt := 101) hx hb dX4_get_1 (by rw [c10]; decide) (by rw [c10]; decide) (by rw [c10]; rfl) (by decide) ?_
                      refine lv_aload_n hx hb dX4_get_101 rfl (lv_at hl 0 rfl) ?_
                      refine va_get (D := D) (ci := 4) (v := .int u_this.2.2.2.2.2.2.2.2.2.1) (C := RX4) (T := TX4) (N := 11) hx hb hts (fun w h => List.mem_cons_of_mem _ (List.mem_append_right _ h)) hown hK hP 0 rfl rfl 9 (by decide) (hts _ (List.mem_of_getElem? (i := 10) rfl)) (fun _ h9 => h9) rfl dX4_get_102 ?_
                      obtain rfl := hM
                      exact xreti hx hb hr hlocks hP hK hD hS dX4_get_105 rfl
                    · have hM := xif c10 hM
                      refine lv_tableOut (tgt := 106) hx hb dX4_get_1 (by have q0 := xsw c1 (show (0 : Int32).toInt = 0 by decide); have q1 := xsw c2 (show (1 : Int32).toInt = 1 by decide); have q2 := xsw c3 (show (2 : Int32).toInt = 2 by decide); have q3 := xsw c4 (show (3 : Int32).toInt = 3 by decide); have q4 := xsw c5 (show (4 : Int32).toInt = 4 by decide); have q5 := xsw c6 (show (5 : Int32).toInt = 5 by decide); have q6 := xsw c7 (show (6 : Int32).toInt = 6 by decide); have q7 := xsw c8 (show (7 : Int32).toInt = 7 by decide); have q8 := xsw c9 (show (8 : Int32).toInt = 8 by decide); have q9 := xsw c10 (show (9 : Int32).toInt = 9 by decide); omega) (by decide) ?_
                      refine lv_aload_n hx hb dX4_get_106 rfl (lv_at hl 0 rfl) ?_
                      refine va_get (D := D) (ci := 4) (v := .int u_this.2.2.2.2.2.2.2.2.2.2) (C := RX4) (T := TX4) (N := 11) hx hb hts (fun w h => List.mem_cons_of_mem _ (List.mem_append_right _ h)) hown hK hP 0 rfl rfl 10 (by decide) (hts _ (List.mem_of_getElem? (i := 11) rfl)) (fun _ h9 => h9) rfl dX4_get_107 ?_
                      obtain rfl := hM
                      exact xreti hx hb hr hlocks hP hK hD hS dX4_get_110 rfl
def s_X4_beLike_2 (u_a1 : K4) (v1 : Int32 × K4) : Option ((Int32 × K4) ⊕ (Int32 × K4)) :=
  if (11) ≤ v1.1 then
   (some (.inr (v1.1, v1.2)))
  else
   ((some (f_X4_put v1.2 v1.1 (f_X4_get u_a1 v1.1)) : Option (K4)).bind fun r3 =>
    some (.inl (v1.1 + 1, r3)))
def f_X4_beLike (N : Nat) (u_this : K4) (u_a1 : K4) : Option (K4) :=
  (xlp (s_X4_beLike_2 u_a1) N (0, u_this)).bind fun v4 =>
  some v4.2
set_option maxHeartbeats 4000000 in
set_option maxRecDepth 100000 in
theorem c_X4_beLike (l : Launch) (D : va_G) (T : xT) (h_this h_a1 : Nat) {sz : Nat} {N : Nat} (u_this : K4) (u_a1 : K4) {rv : K4} (hM : f_X4_beLike N u_this u_a1 = some rv) : Met l yX4_beLike wsX4_beLike ({ frames := 1, cells := 0, slots := 0, locals := 22 } : Room) (va_Pc [.ref h_this, .ref h_a1] (xPre D T [(h_this, .inr (4, o4 u_this)), (h_a1, .inr (4, o4 u_a1))] sz xE0)) (va_Qv (fun (_ : Unit) => True) (fun _ => xPost D T [(h_this, .inr (4, o4 rv)), (h_a1, .inr (4, o4 u_a1))] (va_A [(h_this, .inr (4, o4 u_this)), (h_a1, .inr (4, o4 u_a1))] sz)) (va_A [(h_this, .inr (4, o4 u_this)), (h_a1, .inr (4, o4 u_a1))] sz)) 0 0 (va_A [(h_this, .inr (4, o4 u_this)), (h_a1, .inr (4, o4 u_a1))] sz) := by
  refine xMet (av := [.ref h_this, .ref h_a1]) (Wd := [(h_this, .inr (4, o4 u_this)), (h_a1, .inr (4, o4 u_a1))]) (E := xE0) (Qc := fun A => (va_Qv (fun (_ : Unit) => True) (fun _ => xPost D T [(h_this, .inr (4, o4 rv)), (h_a1, .inr (4, o4 u_a1))] A) A)) (cc := cX4_beLike) (maxL := 3) (ret := none) (by decide) rfl (Nat.le_of_ble_eq_true rfl) ?_
  intro p e s m below meth c A ls hx hb hr hml hts hown hlocks hnm hP hK hD hS hA hE hl
  have hown : s.vm.findClass RX4 = some m.cls := hown
  have hl : lv_has ls 3 [(0, .ref h_this), (1, .ref h_a1)] := hl
  unfold f_X4_beLike at hM
  refine lv_iconst (v := 0) hx hb dX4_beLike_0 (by decide) ?_
  refine lv_istore_n (lv' := [(2, .int (0)), (0, .ref h_this), (1, .ref h_a1)]) hx hb dX4_beLike_1 rfl hl (by decide) rfl (fun ls hl => ?_)
  obtain ⟨v4, hM, hNv4⟩ := xbd hM
  have hQv4 := hM
  have Kv4 : ∀ (H : Heap) (locs : List Loc) (ls : Array Slot), va_P D vwCl [(h_this, .inr (4, o4 v4.2)), (h_a1, .inr (4, o4 u_a1))] H → va_D A [(h_this, .inr (4, o4 v4.2)), (h_a1, .inr (4, o4 u_a1))] → va_S A s.heap H locs → lv_has ls 3 [] → W p l e ({ frames := 1, cells := 0, slots := 0, locals := 22 } : Room) s m ([.ref h_this, .ref h_a1] : List Value).toArray below meth c H locs 0 0 (MQ below (va_Qv (fun (_ : Unit) => True) (fun _ => xPost D T [(h_this, .inr (4, o4 rv)), (h_a1, .inr (4, o4 u_a1))] A) A) ([.ref h_this, .ref h_a1] : List Value).toArray s 0 0 A) (F0 m 24 ls []) := by
    intro H locs ls hP hD hS hl
    have hM := hNv4
    obtain rfl := Option.some.inj hM
    exact xretv hx hb hr hlocks hP hK hD hS dX4_beLike_24
  have Lv1 : ∀ (n : Nat) (v1 : Int32 × K4), xlp (s_X4_beLike_2 u_a1) n v1 = some v4 → ∀ (H : Heap) (locs : List Loc) (ls : Array Slot), va_P D vwCl [(h_this, .inr (4, o4 v1.2)), (h_a1, .inr (4, o4 u_a1))] H → va_D A [(h_this, .inr (4, o4 v1.2)), (h_a1, .inr (4, o4 u_a1))] → va_S A s.heap H locs → lv_has ls 3 [(0, .ref h_this), (1, .ref h_a1), (2, .int v1.1)] → W p l e ({ frames := 1, cells := 0, slots := 0, locals := 22 } : Room) s m ([.ref h_this, .ref h_a1] : List Value).toArray below meth c H locs 0 0 (MQ below (va_Qv (fun (_ : Unit) => True) (fun _ => xPost D T [(h_this, .inr (4, o4 rv)), (h_a1, .inr (4, o4 u_a1))] A) A) ([.ref h_this, .ref h_a1] : List Value).toArray s 0 0 A) (F0 m 2 ls []) := by
    intro n
    induction n with
    | zero => exact fun _ h => (xlp_0 h).elim
    | succ n ih =>
      intro v1 hM H locs ls hP hD hS hl
      obtain ⟨z, hM, hz1, hz2⟩ := xlp_s hM
      unfold s_X4_beLike_2 at hM
      refine lv_iload_n hx hb dX4_beLike_2 rfl (lv_at hl 2 rfl) ?_
      refine lv_bipush (v := 11) hx hb dX4_beLike_3 (by decide) ?_
      refine lv_icmp_ge (tgt := 24) hx hb dX4_beLike_5 (by decide) (fun c2 => ?_) (fun c2 => ?_)
      · have hM := xit c2 hM
        obtain rfl := hz2 _ (Option.some.inj hM).symm
        exact Kv4 _ _ _ hP hD hS (lv_sub hl [] rfl)
      · have hM := xif c2 hM
        refine lv_aload_n hx hb dX4_beLike_8 rfl (lv_at hl 0 rfl) ?_
        refine lv_iload_n hx hb dX4_beLike_9 rfl (lv_at hl 2 rfl) ?_
        refine lv_aload_n hx hb dX4_beLike_10 rfl (lv_at hl 1 rfl) ?_
        refine lv_iload_n hx hb dX4_beLike_11 rfl (lv_at hl 2 rfl) ?_
        refine xafti (rv := (f_X4_get u_a1 v1.1)) (W2 := [(h_this, .inr (4, o4 v1.2)), (h_a1, .inr (4, o4 u_a1))]) (va_runV (As := [.int v1.1]) (rest := [.int v1.1, .ref h_this]) ⟨hx, hb, hml, hown, hts⟩ (c_X4_get (rv := (f_X4_get u_a1 v1.1)) l D T h_a1 u_a1 v1.1 rfl) (cwV 1 hts gX4_beLike_X4_get rfl rfl rfl (by decide +kernel) ⟨Nat.le_of_ble_eq_true rfl, Nat.le_of_ble_eq_true rfl⟩) (xpvv hP hD hK [1] (by decide) rfl 0 4 rfl rfl (fun _ _ _ => trivial) (fun _ _ _ _ _ _ => trivial)) rfl rfl hl.1 rfl (lv_room (Nat.le_of_ble_eq_true rfl)) dX4_beLike_12 ⟨Nat.le_of_ble_eq_true rfl, Nat.le_of_ble_eq_true rfl⟩) hP hD hS hA [1] rfl rfl rfl rfl (fun H locs hP hD hS => ?_)
        obtain ⟨r3, er3, hM⟩ := xbd hM
        refine xaftv (W2 := [(h_this, .inr (4, o4 r3)), (h_a1, .inr (4, o4 u_a1))]) (va_runV (As := [.int v1.1, .int (f_X4_get u_a1 v1.1)]) (rest := []) ⟨hx, hb, hml, hown, hts⟩ (c_X4_put l D T h_this v1.2 v1.1 (f_X4_get u_a1 v1.1) (Option.some.inj er3)) (cwV 2 hts gX4_beLike_X4_put rfl rfl rfl (by decide +kernel) ⟨Nat.le_of_ble_eq_true rfl, Nat.le_of_ble_eq_true rfl⟩) (xpvv hP hD hK [0] (by decide) rfl 0 4 rfl rfl (fun _ _ _ => trivial) (fun _ _ _ _ _ _ => trivial)) rfl rfl hl.1 rfl (lv_room (Nat.le_of_ble_eq_true rfl)) dX4_beLike_15 ⟨Nat.le_of_ble_eq_true rfl, Nat.le_of_ble_eq_true rfl⟩) hP hD hS hA [0] rfl rfl rfl rfl (fun H locs hP hD hS => ?_)
        refine lv_iinc (v := v1.1 + 1) (lv' := [(2, .int (v1.1 + 1)), (0, .ref h_this), (1, .ref h_a1)]) hx hb dX4_beLike_18 hl (k := 2) rfl rfl (by decide) rfl (fun ls hl => ?_)
        refine lv_goto (tgt := 2) hx hb dX4_beLike_21 (by decide) ?_
        exact ih _ (hz1 _ (Option.some.inj hM).symm) _ _ _ hP hD hS (lv_sub hl [1, 2, 0] rfl)
  exact Lv1 _ _ hM _ _ _ hP hD hS (lv_sub hl [1, 2, 0] rfl)
def f_X4_worsen (u_this : K4) (p1 : Int32) (p2 : Int32) : K4 :=
  if p1 = 1 then
   ((u_this.1, u_this.2.1, u_this.2.2.1, u_this.2.2.2.1, u_this.2.2.2.2.1, u_this.2.2.2.2.2.1, u_this.2.2.2.2.2.2.1, u_this.2.2.2.2.2.2.2.1, (xmax (0) (u_this.2.2.2.2.2.2.2.2.1 - ((10) * p2))), u_this.2.2.2.2.2.2.2.2.2.1, u_this.2.2.2.2.2.2.2.2.2.2))
  else if p1 = 2 then
   ((u_this.1, u_this.2.1, u_this.2.2.1, u_this.2.2.2.1, u_this.2.2.2.2.1, (xmin (99) (u_this.2.2.2.2.2.1 + ((10) * p2))), u_this.2.2.2.2.2.2.1, u_this.2.2.2.2.2.2.2.1, u_this.2.2.2.2.2.2.2.2.1, u_this.2.2.2.2.2.2.2.2.2.1, u_this.2.2.2.2.2.2.2.2.2.2))
  else if p1 = 3 then
   (if u_this.2.2.2.2.2.2.1 = (99) then
     ((u_this.1, u_this.2.1, u_this.2.2.1, u_this.2.2.2.1, u_this.2.2.2.2.1, u_this.2.2.2.2.2.1, 5, (xmin (30) (u_this.2.2.2.2.2.2.2.1 + ((3) * p2))), u_this.2.2.2.2.2.2.2.2.1, u_this.2.2.2.2.2.2.2.2.2.1, u_this.2.2.2.2.2.2.2.2.2.2))
    else
     ((u_this.1, u_this.2.1, u_this.2.2.1, u_this.2.2.2.1, u_this.2.2.2.2.1, u_this.2.2.2.2.2.1, u_this.2.2.2.2.2.2.1, (xmin (30) (u_this.2.2.2.2.2.2.2.1 + ((3) * p2))), u_this.2.2.2.2.2.2.2.2.1, u_this.2.2.2.2.2.2.2.2.2.1, u_this.2.2.2.2.2.2.2.2.2.2)))
  else if p1 = 4 then
   ((u_this.1, u_this.2.1, (xmin (99) (u_this.2.2.1 + ((2) * p2))), u_this.2.2.2.1, u_this.2.2.2.2.1, u_this.2.2.2.2.2.1, u_this.2.2.2.2.2.2.1, u_this.2.2.2.2.2.2.2.1, u_this.2.2.2.2.2.2.2.2.1, u_this.2.2.2.2.2.2.2.2.2.1, u_this.2.2.2.2.2.2.2.2.2.2))
  else if p1 = 5 then
   (((xmax (1) (u_this.1 - ((4) * p2))), u_this.2.1, u_this.2.2.1, u_this.2.2.2.1, u_this.2.2.2.2.1, u_this.2.2.2.2.2.1, u_this.2.2.2.2.2.2.1, u_this.2.2.2.2.2.2.2.1, u_this.2.2.2.2.2.2.2.2.1, u_this.2.2.2.2.2.2.2.2.2.1, u_this.2.2.2.2.2.2.2.2.2.2))
  else 
   (u_this)
set_option maxHeartbeats 4000000 in
set_option maxRecDepth 100000 in
theorem c_X4_worsen (l : Launch) (D : va_G) (T : xT) (h_this : Nat) {sz : Nat} (u_this : K4) (p1 : Int32) (p2 : Int32) {rv : K4} (hM : f_X4_worsen u_this p1 p2 = rv) : Met l yX4_worsen wsX4_worsen ({ frames := 1, cells := 0, slots := 0, locals := 14 } : Room) (va_Pc [.ref h_this, .int p1, .int p2] (xPre D T [(h_this, .inr (4, o4 u_this))] sz xE0)) (va_Qv (fun (_ : Unit) => True) (fun _ => xPost D T [(h_this, .inr (4, o4 rv))] (va_A [(h_this, .inr (4, o4 u_this))] sz)) (va_A [(h_this, .inr (4, o4 u_this))] sz)) 0 0 (va_A [(h_this, .inr (4, o4 u_this))] sz) := by
  refine xMet (av := [.ref h_this, .int p1, .int p2]) (Wd := [(h_this, .inr (4, o4 u_this))]) (E := xE0) (Qc := fun A => (va_Qv (fun (_ : Unit) => True) (fun _ => xPost D T [(h_this, .inr (4, o4 rv))] A) A)) (cc := cX4_worsen) (maxL := 3) (ret := none) (by decide) rfl (Nat.le_of_ble_eq_true rfl) ?_
  intro p e s m below meth c A ls hx hb hr hml hts hown hlocks hnm hP hK hD hS hA hE hl
  have hown : s.vm.findClass RX4 = some m.cls := hown
  have hl : lv_has ls 3 [(0, .ref h_this), (1, .int p1), (2, .int p2)] := hl
  unfold f_X4_worsen at hM
  refine lv_iload_n hx hb dX4_worsen_0 rfl (lv_at hl 1 rfl) ?_
  by_cases c1 : p1 = 1
  · have hM := xit c1 hM
    refine lv_tableIn (off := 35) (tgt := 36) hx hb dX4_worsen_1 (by rw [c1]; decide) (by rw [c1]; decide) (by rw [c1]; rfl) (by decide) ?_
    refine lv_aload_n hx hb dX4_worsen_36 rfl (lv_at hl 0 rfl) ?_
    refine lv_iconst (v := 0) hx hb dX4_worsen_37 (by decide) ?_
    refine lv_aload_n hx hb dX4_worsen_38 rfl (lv_at hl 0 rfl) ?_
    refine va_get (D := D) (ci := 4) (v := .int u_this.2.2.2.2.2.2.2.2.1) (C := RX4) (T := TX4) (N := 11) hx hb hts (fun w h => List.mem_cons_of_mem _ (List.mem_append_right _ h)) hown hK hP 0 rfl rfl 8 (by decide) (hts _ (List.mem_of_getElem? (i := 1) rfl)) (fun _ h9 => h9) rfl dX4_worsen_39 ?_
    refine lv_bipush (v := 10) hx hb dX4_worsen_42 (by decide) ?_
    refine lv_iload_n hx hb dX4_worsen_44 rfl (lv_at hl 2 rfl) ?_
    refine lv_imul hx hb dX4_worsen_45 ?_
    refine lv_isub hx hb dX4_worsen_46 ?_
    refine va_mmax hx hb (hml.trans hl.1.symm) hown (hts _ (List.mem_of_getElem? (i := 2) rfl)) (hts _ (List.mem_of_getElem? (i := 3) rfl)) (hts _ (List.mem_of_getElem? (i := 4) rfl)) (hts _ (List.mem_of_getElem? (i := 5) rfl)) (Nat.le_of_ble_eq_true rfl) (Nat.le_of_ble_eq_true rfl) (Nat.zero_le _) (Nat.zero_le _) dX4_worsen_47 ?_
    refine va_put (D := D) (ci := 4) (v := .int (xmax (0) (u_this.2.2.2.2.2.2.2.2.1 - ((10) * p2)))) (C := RX4) (T := TX4) (N := 11) hx hb hts (fun w h => List.mem_cons_of_mem _ (List.mem_append_right _ h)) tyX4 tyX4_ok nmX4 hown hK hP hD hS 0 rfl rfl 8 (by decide) (hts _ (List.mem_of_getElem? (i := 1) rfl)) (fun _ h9 => h9) rfl (tyX4_ok 8 (by decide)) rfl rfl (Nat.le_of_ble_eq_true rfl) dX4_worsen_50 (fun H locs hP hD hS => ?_)
    have hP : va_P D vwCl [(h_this, .inr (4, o4 (u_this.1, u_this.2.1, u_this.2.2.1, u_this.2.2.2.1, u_this.2.2.2.2.1, u_this.2.2.2.2.2.1, u_this.2.2.2.2.2.2.1, u_this.2.2.2.2.2.2.2.1, (xmax (0) (u_this.2.2.2.2.2.2.2.2.1 - ((10) * p2))), u_this.2.2.2.2.2.2.2.2.2.1, u_this.2.2.2.2.2.2.2.2.2.2)))] H := hP
    have hD : va_D A [(h_this, .inr (4, o4 (u_this.1, u_this.2.1, u_this.2.2.1, u_this.2.2.2.1, u_this.2.2.2.2.1, u_this.2.2.2.2.2.1, u_this.2.2.2.2.2.2.1, u_this.2.2.2.2.2.2.2.1, (xmax (0) (u_this.2.2.2.2.2.2.2.2.1 - ((10) * p2))), u_this.2.2.2.2.2.2.2.2.2.1, u_this.2.2.2.2.2.2.2.2.2.2)))] := hD
    refine lv_goto (tgt := 150) hx hb dX4_worsen_53 (by decide) ?_
    obtain rfl := hM
    exact xretv hx hb hr hlocks hP hK hD hS dX4_worsen_150
  · have hM := xif c1 hM
    by_cases c2 : p1 = 2
    · have hM := xit c2 hM
      refine lv_tableIn (off := 55) (tgt := 56) hx hb dX4_worsen_1 (by rw [c2]; decide) (by rw [c2]; decide) (by rw [c2]; rfl) (by decide) ?_
      refine lv_aload_n hx hb dX4_worsen_56 rfl (lv_at hl 0 rfl) ?_
      refine lv_bipush (v := 99) hx hb dX4_worsen_57 (by decide) ?_
      refine lv_aload_n hx hb dX4_worsen_59 rfl (lv_at hl 0 rfl) ?_
      refine va_get (D := D) (ci := 4) (v := .int u_this.2.2.2.2.2.1) (C := RX4) (T := TX4) (N := 11) hx hb hts (fun w h => List.mem_cons_of_mem _ (List.mem_append_right _ h)) hown hK hP 0 rfl rfl 5 (by decide) (hts _ (List.mem_of_getElem? (i := 6) rfl)) (fun _ h9 => h9) rfl dX4_worsen_60 ?_
      refine lv_bipush (v := 10) hx hb dX4_worsen_63 (by decide) ?_
      refine lv_iload_n hx hb dX4_worsen_65 rfl (lv_at hl 2 rfl) ?_
      refine lv_imul hx hb dX4_worsen_66 ?_
      refine lv_iadd hx hb dX4_worsen_67 ?_
      refine va_mmin hx hb (hml.trans hl.1.symm) hown (hts _ (List.mem_of_getElem? (i := 7) rfl)) (hts _ (List.mem_of_getElem? (i := 8) rfl)) (hts _ (List.mem_of_getElem? (i := 4) rfl)) (hts _ (List.mem_of_getElem? (i := 9) rfl)) (Nat.le_of_ble_eq_true rfl) (Nat.le_of_ble_eq_true rfl) (Nat.zero_le _) (Nat.zero_le _) dX4_worsen_68 ?_
      refine va_put (D := D) (ci := 4) (v := .int (xmin (99) (u_this.2.2.2.2.2.1 + ((10) * p2)))) (C := RX4) (T := TX4) (N := 11) hx hb hts (fun w h => List.mem_cons_of_mem _ (List.mem_append_right _ h)) tyX4 tyX4_ok nmX4 hown hK hP hD hS 0 rfl rfl 5 (by decide) (hts _ (List.mem_of_getElem? (i := 6) rfl)) (fun _ h9 => h9) rfl (tyX4_ok 5 (by decide)) rfl rfl (Nat.le_of_ble_eq_true rfl) dX4_worsen_71 (fun H locs hP hD hS => ?_)
      have hP : va_P D vwCl [(h_this, .inr (4, o4 (u_this.1, u_this.2.1, u_this.2.2.1, u_this.2.2.2.1, u_this.2.2.2.2.1, (xmin (99) (u_this.2.2.2.2.2.1 + ((10) * p2))), u_this.2.2.2.2.2.2.1, u_this.2.2.2.2.2.2.2.1, u_this.2.2.2.2.2.2.2.2.1, u_this.2.2.2.2.2.2.2.2.2.1, u_this.2.2.2.2.2.2.2.2.2.2)))] H := hP
      have hD : va_D A [(h_this, .inr (4, o4 (u_this.1, u_this.2.1, u_this.2.2.1, u_this.2.2.2.1, u_this.2.2.2.2.1, (xmin (99) (u_this.2.2.2.2.2.1 + ((10) * p2))), u_this.2.2.2.2.2.2.1, u_this.2.2.2.2.2.2.2.1, u_this.2.2.2.2.2.2.2.2.1, u_this.2.2.2.2.2.2.2.2.2.1, u_this.2.2.2.2.2.2.2.2.2.2)))] := hD
      refine lv_goto (tgt := 150) hx hb dX4_worsen_74 (by decide) ?_
      obtain rfl := hM
      exact xretv hx hb hr hlocks hP hK hD hS dX4_worsen_150
    · have hM := xif c2 hM
      by_cases c3 : p1 = 3
      · have hM := xit c3 hM
        refine lv_tableIn (off := 76) (tgt := 77) hx hb dX4_worsen_1 (by rw [c3]; decide) (by rw [c3]; decide) (by rw [c3]; rfl) (by decide) ?_
        refine lv_aload_n hx hb dX4_worsen_77 rfl (lv_at hl 0 rfl) ?_
        refine lv_bipush (v := 30) hx hb dX4_worsen_78 (by decide) ?_
        refine lv_aload_n hx hb dX4_worsen_80 rfl (lv_at hl 0 rfl) ?_
        refine va_get (D := D) (ci := 4) (v := .int u_this.2.2.2.2.2.2.2.1) (C := RX4) (T := TX4) (N := 11) hx hb hts (fun w h => List.mem_cons_of_mem _ (List.mem_append_right _ h)) hown hK hP 0 rfl rfl 7 (by decide) (hts _ (List.mem_of_getElem? (i := 10) rfl)) (fun _ h9 => h9) rfl dX4_worsen_81 ?_
        refine lv_iconst (v := 3) hx hb dX4_worsen_84 (by decide) ?_
        refine lv_iload_n hx hb dX4_worsen_85 rfl (lv_at hl 2 rfl) ?_
        refine lv_imul hx hb dX4_worsen_86 ?_
        refine lv_iadd hx hb dX4_worsen_87 ?_
        refine va_mmin hx hb (hml.trans hl.1.symm) hown (hts _ (List.mem_of_getElem? (i := 7) rfl)) (hts _ (List.mem_of_getElem? (i := 8) rfl)) (hts _ (List.mem_of_getElem? (i := 4) rfl)) (hts _ (List.mem_of_getElem? (i := 9) rfl)) (Nat.le_of_ble_eq_true rfl) (Nat.le_of_ble_eq_true rfl) (Nat.zero_le _) (Nat.zero_le _) dX4_worsen_88 ?_
        refine va_put (D := D) (ci := 4) (v := .int (xmin (30) (u_this.2.2.2.2.2.2.2.1 + ((3) * p2)))) (C := RX4) (T := TX4) (N := 11) hx hb hts (fun w h => List.mem_cons_of_mem _ (List.mem_append_right _ h)) tyX4 tyX4_ok nmX4 hown hK hP hD hS 0 rfl rfl 7 (by decide) (hts _ (List.mem_of_getElem? (i := 10) rfl)) (fun _ h9 => h9) rfl (tyX4_ok 7 (by decide)) rfl rfl (Nat.le_of_ble_eq_true rfl) dX4_worsen_91 (fun H locs hP hD hS => ?_)
        have hP : va_P D vwCl [(h_this, .inr (4, o4 (u_this.1, u_this.2.1, u_this.2.2.1, u_this.2.2.2.1, u_this.2.2.2.2.1, u_this.2.2.2.2.2.1, u_this.2.2.2.2.2.2.1, (xmin (30) (u_this.2.2.2.2.2.2.2.1 + ((3) * p2))), u_this.2.2.2.2.2.2.2.2.1, u_this.2.2.2.2.2.2.2.2.2.1, u_this.2.2.2.2.2.2.2.2.2.2)))] H := hP
        have hD : va_D A [(h_this, .inr (4, o4 (u_this.1, u_this.2.1, u_this.2.2.1, u_this.2.2.2.1, u_this.2.2.2.2.1, u_this.2.2.2.2.2.1, u_this.2.2.2.2.2.2.1, (xmin (30) (u_this.2.2.2.2.2.2.2.1 + ((3) * p2))), u_this.2.2.2.2.2.2.2.2.1, u_this.2.2.2.2.2.2.2.2.2.1, u_this.2.2.2.2.2.2.2.2.2.2)))] := hD
        refine lv_aload_n hx hb dX4_worsen_94 rfl (lv_at hl 0 rfl) ?_
        refine va_get (D := D) (ci := 4) (v := .int u_this.2.2.2.2.2.2.1) (C := RX4) (T := TX4) (N := 11) hx hb hts (fun w h => List.mem_cons_of_mem _ (List.mem_append_right _ h)) hown hK hP 0 rfl rfl 6 (by decide) (hts _ (List.mem_of_getElem? (i := 11) rfl)) (fun _ h9 => h9) rfl dX4_worsen_95 ?_
        refine lv_bipush (v := 99) hx hb dX4_worsen_98 (by decide) ?_
        refine lv_icmp_ne (tgt := 150) hx hb dX4_worsen_100 (by decide) (fun c4 => ?_) (fun c4 => ?_)
        · have hM := xif c4 hM
          obtain rfl := hM
          exact xretv hx hb hr hlocks hP hK hD hS dX4_worsen_150
        · have hM := xit c4 hM
          refine lv_aload_n hx hb dX4_worsen_103 rfl (lv_at hl 0 rfl) ?_
          refine lv_iconst (v := 5) hx hb dX4_worsen_104 (by decide) ?_
          refine va_put (D := D) (ci := 4) (v := .int (5)) (C := RX4) (T := TX4) (N := 11) hx hb hts (fun w h => List.mem_cons_of_mem _ (List.mem_append_right _ h)) tyX4 tyX4_ok nmX4 hown hK hP hD hS 0 rfl rfl 6 (by decide) (hts _ (List.mem_of_getElem? (i := 11) rfl)) (fun _ h9 => h9) rfl (tyX4_ok 6 (by decide)) rfl rfl (Nat.le_of_ble_eq_true rfl) dX4_worsen_105 (fun H locs hP hD hS => ?_)
          have hP : va_P D vwCl [(h_this, .inr (4, o4 (u_this.1, u_this.2.1, u_this.2.2.1, u_this.2.2.2.1, u_this.2.2.2.2.1, u_this.2.2.2.2.2.1, 5, (xmin (30) (u_this.2.2.2.2.2.2.2.1 + ((3) * p2))), u_this.2.2.2.2.2.2.2.2.1, u_this.2.2.2.2.2.2.2.2.2.1, u_this.2.2.2.2.2.2.2.2.2.2)))] H := hP
          have hD : va_D A [(h_this, .inr (4, o4 (u_this.1, u_this.2.1, u_this.2.2.1, u_this.2.2.2.1, u_this.2.2.2.2.1, u_this.2.2.2.2.2.1, 5, (xmin (30) (u_this.2.2.2.2.2.2.2.1 + ((3) * p2))), u_this.2.2.2.2.2.2.2.2.1, u_this.2.2.2.2.2.2.2.2.2.1, u_this.2.2.2.2.2.2.2.2.2.2)))] := hD
          refine lv_goto (tgt := 150) hx hb dX4_worsen_108 (by decide) ?_
          obtain rfl := hM
          exact xretv hx hb hr hlocks hP hK hD hS dX4_worsen_150
      · have hM := xif c3 hM
        by_cases c5 : p1 = 4
        · have hM := xit c5 hM
          refine lv_tableIn (off := 110) (tgt := 111) hx hb dX4_worsen_1 (by rw [c5]; decide) (by rw [c5]; decide) (by rw [c5]; rfl) (by decide) ?_
          refine lv_aload_n hx hb dX4_worsen_111 rfl (lv_at hl 0 rfl) ?_
          refine lv_bipush (v := 99) hx hb dX4_worsen_112 (by decide) ?_
          refine lv_aload_n hx hb dX4_worsen_114 rfl (lv_at hl 0 rfl) ?_
          refine va_get (D := D) (ci := 4) (v := .int u_this.2.2.1) (C := RX4) (T := TX4) (N := 11) hx hb hts (fun w h => List.mem_cons_of_mem _ (List.mem_append_right _ h)) hown hK hP 0 rfl rfl 2 (by decide) (hts _ (List.mem_of_getElem? (i := 12) rfl)) (fun _ h9 => h9) rfl dX4_worsen_115 ?_
          refine lv_iconst (v := 2) hx hb dX4_worsen_118 (by decide) ?_
          refine lv_iload_n hx hb dX4_worsen_119 rfl (lv_at hl 2 rfl) ?_
          refine lv_imul hx hb dX4_worsen_120 ?_
          refine lv_iadd hx hb dX4_worsen_121 ?_
          refine va_mmin hx hb (hml.trans hl.1.symm) hown (hts _ (List.mem_of_getElem? (i := 7) rfl)) (hts _ (List.mem_of_getElem? (i := 8) rfl)) (hts _ (List.mem_of_getElem? (i := 4) rfl)) (hts _ (List.mem_of_getElem? (i := 9) rfl)) (Nat.le_of_ble_eq_true rfl) (Nat.le_of_ble_eq_true rfl) (Nat.zero_le _) (Nat.zero_le _) dX4_worsen_122 ?_
          refine va_put (D := D) (ci := 4) (v := .int (xmin (99) (u_this.2.2.1 + ((2) * p2)))) (C := RX4) (T := TX4) (N := 11) hx hb hts (fun w h => List.mem_cons_of_mem _ (List.mem_append_right _ h)) tyX4 tyX4_ok nmX4 hown hK hP hD hS 0 rfl rfl 2 (by decide) (hts _ (List.mem_of_getElem? (i := 12) rfl)) (fun _ h9 => h9) rfl (tyX4_ok 2 (by decide)) rfl rfl (Nat.le_of_ble_eq_true rfl) dX4_worsen_125 (fun H locs hP hD hS => ?_)
          have hP : va_P D vwCl [(h_this, .inr (4, o4 (u_this.1, u_this.2.1, (xmin (99) (u_this.2.2.1 + ((2) * p2))), u_this.2.2.2.1, u_this.2.2.2.2.1, u_this.2.2.2.2.2.1, u_this.2.2.2.2.2.2.1, u_this.2.2.2.2.2.2.2.1, u_this.2.2.2.2.2.2.2.2.1, u_this.2.2.2.2.2.2.2.2.2.1, u_this.2.2.2.2.2.2.2.2.2.2)))] H := hP
          have hD : va_D A [(h_this, .inr (4, o4 (u_this.1, u_this.2.1, (xmin (99) (u_this.2.2.1 + ((2) * p2))), u_this.2.2.2.1, u_this.2.2.2.2.1, u_this.2.2.2.2.2.1, u_this.2.2.2.2.2.2.1, u_this.2.2.2.2.2.2.2.1, u_this.2.2.2.2.2.2.2.2.1, u_this.2.2.2.2.2.2.2.2.2.1, u_this.2.2.2.2.2.2.2.2.2.2)))] := hD
          refine lv_goto (tgt := 150) hx hb dX4_worsen_128 (by decide) ?_
          obtain rfl := hM
          exact xretv hx hb hr hlocks hP hK hD hS dX4_worsen_150
        · have hM := xif c5 hM
          by_cases c6 : p1 = 5
          · have hM := xit c6 hM
            refine lv_tableIn (off := 130) (tgt := 131) hx hb dX4_worsen_1 (by rw [c6]; decide) (by rw [c6]; decide) (by rw [c6]; rfl) (by decide) ?_
            refine lv_aload_n hx hb dX4_worsen_131 rfl (lv_at hl 0 rfl) ?_
            refine lv_iconst (v := 1) hx hb dX4_worsen_132 (by decide) ?_
            refine lv_aload_n hx hb dX4_worsen_133 rfl (lv_at hl 0 rfl) ?_
            refine va_get (D := D) (ci := 4) (v := .int u_this.1) (C := RX4) (T := TX4) (N := 11) hx hb hts (fun w h => List.mem_cons_of_mem _ (List.mem_append_right _ h)) hown hK hP 0 rfl rfl 0 (by decide) (hts _ (List.mem_of_getElem? (i := 13) rfl)) (fun _ h9 => h9) rfl dX4_worsen_134 ?_
            refine lv_iconst (v := 4) hx hb dX4_worsen_137 (by decide) ?_
            refine lv_iload_n hx hb dX4_worsen_138 rfl (lv_at hl 2 rfl) ?_
            refine lv_imul hx hb dX4_worsen_139 ?_
            refine lv_isub hx hb dX4_worsen_140 ?_
            refine va_mmax hx hb (hml.trans hl.1.symm) hown (hts _ (List.mem_of_getElem? (i := 2) rfl)) (hts _ (List.mem_of_getElem? (i := 3) rfl)) (hts _ (List.mem_of_getElem? (i := 4) rfl)) (hts _ (List.mem_of_getElem? (i := 5) rfl)) (Nat.le_of_ble_eq_true rfl) (Nat.le_of_ble_eq_true rfl) (Nat.zero_le _) (Nat.zero_le _) dX4_worsen_141 ?_
            refine va_put (D := D) (ci := 4) (v := .int (xmax (1) (u_this.1 - ((4) * p2)))) (C := RX4) (T := TX4) (N := 11) hx hb hts (fun w h => List.mem_cons_of_mem _ (List.mem_append_right _ h)) tyX4 tyX4_ok nmX4 hown hK hP hD hS 0 rfl rfl 0 (by decide) (hts _ (List.mem_of_getElem? (i := 13) rfl)) (fun _ h9 => h9) rfl (tyX4_ok 0 (by decide)) rfl rfl (Nat.le_of_ble_eq_true rfl) dX4_worsen_144 (fun H locs hP hD hS => ?_)
            have hP : va_P D vwCl [(h_this, .inr (4, o4 ((xmax (1) (u_this.1 - ((4) * p2))), u_this.2.1, u_this.2.2.1, u_this.2.2.2.1, u_this.2.2.2.2.1, u_this.2.2.2.2.2.1, u_this.2.2.2.2.2.2.1, u_this.2.2.2.2.2.2.2.1, u_this.2.2.2.2.2.2.2.2.1, u_this.2.2.2.2.2.2.2.2.2.1, u_this.2.2.2.2.2.2.2.2.2.2)))] H := hP
            have hD : va_D A [(h_this, .inr (4, o4 ((xmax (1) (u_this.1 - ((4) * p2))), u_this.2.1, u_this.2.2.1, u_this.2.2.2.1, u_this.2.2.2.2.1, u_this.2.2.2.2.2.1, u_this.2.2.2.2.2.2.1, u_this.2.2.2.2.2.2.2.1, u_this.2.2.2.2.2.2.2.2.1, u_this.2.2.2.2.2.2.2.2.2.1, u_this.2.2.2.2.2.2.2.2.2.2)))] := hD
            refine lv_goto (tgt := 150) hx hb dX4_worsen_147 (by decide) ?_
            obtain rfl := hM
            exact xretv hx hb hr hlocks hP hK hD hS dX4_worsen_150
          · have hM := xif c6 hM
            refine lv_tableOut (tgt := 150) hx hb dX4_worsen_1 (by have q0 := xsw c1 (show (1 : Int32).toInt = 1 by decide); have q1 := xsw c2 (show (2 : Int32).toInt = 2 by decide); have q2 := xsw c3 (show (3 : Int32).toInt = 3 by decide); have q3 := xsw c5 (show (4 : Int32).toInt = 4 by decide); have q4 := xsw c6 (show (5 : Int32).toInt = 5 by decide); omega) (by decide) ?_
            obtain rfl := hM
            exact xretv hx hb hr hlocks hP hK hD hS dX4_worsen_150
def f_X4_mend (u_this : K4) (p1 : Int32) : K4 :=
  if p1 = 0 then
   ((u_this.1, u_this.2.1, u_this.2.2.1, u_this.2.2.2.1, u_this.2.2.2.2.1, u_this.2.2.2.2.2.1, u_this.2.2.2.2.2.2.1, u_this.2.2.2.2.2.2.2.1, 100, u_this.2.2.2.2.2.2.2.2.2.1, u_this.2.2.2.2.2.2.2.2.2.2))
  else if p1 = 1 then
   ((u_this.1, u_this.2.1, u_this.2.2.1, u_this.2.2.2.1, u_this.2.2.2.2.1, 0, u_this.2.2.2.2.2.2.1, u_this.2.2.2.2.2.2.2.1, u_this.2.2.2.2.2.2.2.2.1, u_this.2.2.2.2.2.2.2.2.2.1, u_this.2.2.2.2.2.2.2.2.2.2))
  else if p1 = 2 then
   ((u_this.1, u_this.2.1, u_this.2.2.1, u_this.2.2.2.1, u_this.2.2.2.2.1, u_this.2.2.2.2.2.1, u_this.2.2.2.2.2.2.1, 0, u_this.2.2.2.2.2.2.2.2.1, u_this.2.2.2.2.2.2.2.2.2.1, u_this.2.2.2.2.2.2.2.2.2.2))
  else if p1 = 3 then
   (((xmin (99) (u_this.1 + (20))), u_this.2.1, u_this.2.2.1, u_this.2.2.2.1, u_this.2.2.2.2.1, u_this.2.2.2.2.2.1, u_this.2.2.2.2.2.2.1, u_this.2.2.2.2.2.2.2.1, u_this.2.2.2.2.2.2.2.2.1, u_this.2.2.2.2.2.2.2.2.2.1, u_this.2.2.2.2.2.2.2.2.2.2))
  else if p1 = 4 then
   ((u_this.1, u_this.2.1, u_this.2.2.1, (xmin (99) ((2) * u_this.2.2.2.1)), u_this.2.2.2.2.1, u_this.2.2.2.2.2.1, u_this.2.2.2.2.2.2.1, u_this.2.2.2.2.2.2.2.1, u_this.2.2.2.2.2.2.2.2.1, u_this.2.2.2.2.2.2.2.2.2.1, u_this.2.2.2.2.2.2.2.2.2.2))
  else 
   (u_this)
set_option maxHeartbeats 4000000 in
set_option maxRecDepth 100000 in
theorem c_X4_mend (l : Launch) (D : va_G) (T : xT) (h_this : Nat) {sz : Nat} (u_this : K4) (p1 : Int32) {rv : K4} (hM : f_X4_mend u_this p1 = rv) : Met l yX4_mend wsX4_mend ({ frames := 1, cells := 0, slots := 0, locals := 14 } : Room) (va_Pc [.ref h_this, .int p1] (xPre D T [(h_this, .inr (4, o4 u_this))] sz xE0)) (va_Qv (fun (_ : Unit) => True) (fun _ => xPost D T [(h_this, .inr (4, o4 rv))] (va_A [(h_this, .inr (4, o4 u_this))] sz)) (va_A [(h_this, .inr (4, o4 u_this))] sz)) 0 0 (va_A [(h_this, .inr (4, o4 u_this))] sz) := by
  refine xMet (av := [.ref h_this, .int p1]) (Wd := [(h_this, .inr (4, o4 u_this))]) (E := xE0) (Qc := fun A => (va_Qv (fun (_ : Unit) => True) (fun _ => xPost D T [(h_this, .inr (4, o4 rv))] A) A)) (cc := cX4_mend) (maxL := 2) (ret := none) (by decide) rfl (Nat.le_of_ble_eq_true rfl) ?_
  intro p e s m below meth c A ls hx hb hr hml hts hown hlocks hnm hP hK hD hS hA hE hl
  have hown : s.vm.findClass RX4 = some m.cls := hown
  have hl : lv_has ls 2 [(0, .ref h_this), (1, .int p1)] := hl
  unfold f_X4_mend at hM
  refine lv_iload_n hx hb dX4_mend_0 rfl (lv_at hl 1 rfl) ?_
  by_cases c1 : p1 = 0
  · have hM := xit c1 hM
    refine lv_tableIn (off := 35) (tgt := 36) hx hb dX4_mend_1 (by rw [c1]; decide) (by rw [c1]; decide) (by rw [c1]; rfl) (by decide) ?_
    refine lv_aload_n hx hb dX4_mend_36 rfl (lv_at hl 0 rfl) ?_
    refine lv_bipush (v := 100) hx hb dX4_mend_37 (by decide) ?_
    refine va_put (D := D) (ci := 4) (v := .int (100)) (C := RX4) (T := TX4) (N := 11) hx hb hts (fun w h => List.mem_cons_of_mem _ (List.mem_append_right _ h)) tyX4 tyX4_ok nmX4 hown hK hP hD hS 0 rfl rfl 8 (by decide) (hts _ (List.mem_of_getElem? (i := 1) rfl)) (fun _ h9 => h9) rfl (tyX4_ok 8 (by decide)) rfl rfl (Nat.le_of_ble_eq_true rfl) dX4_mend_39 (fun H locs hP hD hS => ?_)
    have hP : va_P D vwCl [(h_this, .inr (4, o4 (u_this.1, u_this.2.1, u_this.2.2.1, u_this.2.2.2.1, u_this.2.2.2.2.1, u_this.2.2.2.2.2.1, u_this.2.2.2.2.2.2.1, u_this.2.2.2.2.2.2.2.1, 100, u_this.2.2.2.2.2.2.2.2.2.1, u_this.2.2.2.2.2.2.2.2.2.2)))] H := hP
    have hD : va_D A [(h_this, .inr (4, o4 (u_this.1, u_this.2.1, u_this.2.2.1, u_this.2.2.2.1, u_this.2.2.2.2.1, u_this.2.2.2.2.2.1, u_this.2.2.2.2.2.2.1, u_this.2.2.2.2.2.2.2.1, 100, u_this.2.2.2.2.2.2.2.2.2.1, u_this.2.2.2.2.2.2.2.2.2.2)))] := hD
    refine lv_goto (tgt := 98) hx hb dX4_mend_42 (by decide) ?_
    obtain rfl := hM
    exact xretv hx hb hr hlocks hP hK hD hS dX4_mend_98
  · have hM := xif c1 hM
    by_cases c2 : p1 = 1
    · have hM := xit c2 hM
      refine lv_tableIn (off := 44) (tgt := 45) hx hb dX4_mend_1 (by rw [c2]; decide) (by rw [c2]; decide) (by rw [c2]; rfl) (by decide) ?_
      refine lv_aload_n hx hb dX4_mend_45 rfl (lv_at hl 0 rfl) ?_
      refine lv_iconst (v := 0) hx hb dX4_mend_46 (by decide) ?_
      refine va_put (D := D) (ci := 4) (v := .int (0)) (C := RX4) (T := TX4) (N := 11) hx hb hts (fun w h => List.mem_cons_of_mem _ (List.mem_append_right _ h)) tyX4 tyX4_ok nmX4 hown hK hP hD hS 0 rfl rfl 5 (by decide) (hts _ (List.mem_of_getElem? (i := 2) rfl)) (fun _ h9 => h9) rfl (tyX4_ok 5 (by decide)) rfl rfl (Nat.le_of_ble_eq_true rfl) dX4_mend_47 (fun H locs hP hD hS => ?_)
      have hP : va_P D vwCl [(h_this, .inr (4, o4 (u_this.1, u_this.2.1, u_this.2.2.1, u_this.2.2.2.1, u_this.2.2.2.2.1, 0, u_this.2.2.2.2.2.2.1, u_this.2.2.2.2.2.2.2.1, u_this.2.2.2.2.2.2.2.2.1, u_this.2.2.2.2.2.2.2.2.2.1, u_this.2.2.2.2.2.2.2.2.2.2)))] H := hP
      have hD : va_D A [(h_this, .inr (4, o4 (u_this.1, u_this.2.1, u_this.2.2.1, u_this.2.2.2.1, u_this.2.2.2.2.1, 0, u_this.2.2.2.2.2.2.1, u_this.2.2.2.2.2.2.2.1, u_this.2.2.2.2.2.2.2.2.1, u_this.2.2.2.2.2.2.2.2.2.1, u_this.2.2.2.2.2.2.2.2.2.2)))] := hD
      refine lv_goto (tgt := 98) hx hb dX4_mend_50 (by decide) ?_
      obtain rfl := hM
      exact xretv hx hb hr hlocks hP hK hD hS dX4_mend_98
    · have hM := xif c2 hM
      by_cases c3 : p1 = 2
      · have hM := xit c3 hM
        refine lv_tableIn (off := 52) (tgt := 53) hx hb dX4_mend_1 (by rw [c3]; decide) (by rw [c3]; decide) (by rw [c3]; rfl) (by decide) ?_
        refine lv_aload_n hx hb dX4_mend_53 rfl (lv_at hl 0 rfl) ?_
        refine lv_iconst (v := 0) hx hb dX4_mend_54 (by decide) ?_
        refine va_put (D := D) (ci := 4) (v := .int (0)) (C := RX4) (T := TX4) (N := 11) hx hb hts (fun w h => List.mem_cons_of_mem _ (List.mem_append_right _ h)) tyX4 tyX4_ok nmX4 hown hK hP hD hS 0 rfl rfl 7 (by decide) (hts _ (List.mem_of_getElem? (i := 3) rfl)) (fun _ h9 => h9) rfl (tyX4_ok 7 (by decide)) rfl rfl (Nat.le_of_ble_eq_true rfl) dX4_mend_55 (fun H locs hP hD hS => ?_)
        have hP : va_P D vwCl [(h_this, .inr (4, o4 (u_this.1, u_this.2.1, u_this.2.2.1, u_this.2.2.2.1, u_this.2.2.2.2.1, u_this.2.2.2.2.2.1, u_this.2.2.2.2.2.2.1, 0, u_this.2.2.2.2.2.2.2.2.1, u_this.2.2.2.2.2.2.2.2.2.1, u_this.2.2.2.2.2.2.2.2.2.2)))] H := hP
        have hD : va_D A [(h_this, .inr (4, o4 (u_this.1, u_this.2.1, u_this.2.2.1, u_this.2.2.2.1, u_this.2.2.2.2.1, u_this.2.2.2.2.2.1, u_this.2.2.2.2.2.2.1, 0, u_this.2.2.2.2.2.2.2.2.1, u_this.2.2.2.2.2.2.2.2.2.1, u_this.2.2.2.2.2.2.2.2.2.2)))] := hD
        refine lv_goto (tgt := 98) hx hb dX4_mend_58 (by decide) ?_
        obtain rfl := hM
        exact xretv hx hb hr hlocks hP hK hD hS dX4_mend_98
      · have hM := xif c3 hM
        by_cases c4 : p1 = 3
        · have hM := xit c4 hM
          refine lv_tableIn (off := 60) (tgt := 61) hx hb dX4_mend_1 (by rw [c4]; decide) (by rw [c4]; decide) (by rw [c4]; rfl) (by decide) ?_
          refine lv_aload_n hx hb dX4_mend_61 rfl (lv_at hl 0 rfl) ?_
          refine lv_bipush (v := 99) hx hb dX4_mend_62 (by decide) ?_
          refine lv_aload_n hx hb dX4_mend_64 rfl (lv_at hl 0 rfl) ?_
          refine va_get (D := D) (ci := 4) (v := .int u_this.1) (C := RX4) (T := TX4) (N := 11) hx hb hts (fun w h => List.mem_cons_of_mem _ (List.mem_append_right _ h)) hown hK hP 0 rfl rfl 0 (by decide) (hts _ (List.mem_of_getElem? (i := 4) rfl)) (fun _ h9 => h9) rfl dX4_mend_65 ?_
          refine lv_bipush (v := 20) hx hb dX4_mend_68 (by decide) ?_
          refine lv_iadd hx hb dX4_mend_70 ?_
          refine va_mmin hx hb (hml.trans hl.1.symm) hown (hts _ (List.mem_of_getElem? (i := 5) rfl)) (hts _ (List.mem_of_getElem? (i := 6) rfl)) (hts _ (List.mem_of_getElem? (i := 7) rfl)) (hts _ (List.mem_of_getElem? (i := 8) rfl)) (Nat.le_of_ble_eq_true rfl) (Nat.le_of_ble_eq_true rfl) (Nat.zero_le _) (Nat.zero_le _) dX4_mend_71 ?_
          refine va_put (D := D) (ci := 4) (v := .int (xmin (99) (u_this.1 + (20)))) (C := RX4) (T := TX4) (N := 11) hx hb hts (fun w h => List.mem_cons_of_mem _ (List.mem_append_right _ h)) tyX4 tyX4_ok nmX4 hown hK hP hD hS 0 rfl rfl 0 (by decide) (hts _ (List.mem_of_getElem? (i := 4) rfl)) (fun _ h9 => h9) rfl (tyX4_ok 0 (by decide)) rfl rfl (Nat.le_of_ble_eq_true rfl) dX4_mend_74 (fun H locs hP hD hS => ?_)
          have hP : va_P D vwCl [(h_this, .inr (4, o4 ((xmin (99) (u_this.1 + (20))), u_this.2.1, u_this.2.2.1, u_this.2.2.2.1, u_this.2.2.2.2.1, u_this.2.2.2.2.2.1, u_this.2.2.2.2.2.2.1, u_this.2.2.2.2.2.2.2.1, u_this.2.2.2.2.2.2.2.2.1, u_this.2.2.2.2.2.2.2.2.2.1, u_this.2.2.2.2.2.2.2.2.2.2)))] H := hP
          have hD : va_D A [(h_this, .inr (4, o4 ((xmin (99) (u_this.1 + (20))), u_this.2.1, u_this.2.2.1, u_this.2.2.2.1, u_this.2.2.2.2.1, u_this.2.2.2.2.2.1, u_this.2.2.2.2.2.2.1, u_this.2.2.2.2.2.2.2.1, u_this.2.2.2.2.2.2.2.2.1, u_this.2.2.2.2.2.2.2.2.2.1, u_this.2.2.2.2.2.2.2.2.2.2)))] := hD
          refine lv_goto (tgt := 98) hx hb dX4_mend_77 (by decide) ?_
          obtain rfl := hM
          exact xretv hx hb hr hlocks hP hK hD hS dX4_mend_98
        · have hM := xif c4 hM
          by_cases c5 : p1 = 4
          · have hM := xit c5 hM
            refine lv_tableIn (off := 79) (tgt := 80) hx hb dX4_mend_1 (by rw [c5]; decide) (by rw [c5]; decide) (by rw [c5]; rfl) (by decide) ?_
            refine lv_aload_n hx hb dX4_mend_80 rfl (lv_at hl 0 rfl) ?_
            refine lv_bipush (v := 99) hx hb dX4_mend_81 (by decide) ?_
            refine lv_iconst (v := 2) hx hb dX4_mend_83 (by decide) ?_
            refine lv_aload_n hx hb dX4_mend_84 rfl (lv_at hl 0 rfl) ?_
            refine va_get (D := D) (ci := 4) (v := .int u_this.2.2.2.1) (C := RX4) (T := TX4) (N := 11) hx hb hts (fun w h => List.mem_cons_of_mem _ (List.mem_append_right _ h)) hown hK hP 0 rfl rfl 3 (by decide) (hts _ (List.mem_of_getElem? (i := 9) rfl)) (fun _ h9 => h9) rfl dX4_mend_85 ?_
            refine lv_imul hx hb dX4_mend_88 ?_
            refine va_mmin hx hb (hml.trans hl.1.symm) hown (hts _ (List.mem_of_getElem? (i := 5) rfl)) (hts _ (List.mem_of_getElem? (i := 6) rfl)) (hts _ (List.mem_of_getElem? (i := 7) rfl)) (hts _ (List.mem_of_getElem? (i := 8) rfl)) (Nat.le_of_ble_eq_true rfl) (Nat.le_of_ble_eq_true rfl) (Nat.zero_le _) (Nat.zero_le _) dX4_mend_89 ?_
            refine va_put (D := D) (ci := 4) (v := .int (xmin (99) ((2) * u_this.2.2.2.1))) (C := RX4) (T := TX4) (N := 11) hx hb hts (fun w h => List.mem_cons_of_mem _ (List.mem_append_right _ h)) tyX4 tyX4_ok nmX4 hown hK hP hD hS 0 rfl rfl 3 (by decide) (hts _ (List.mem_of_getElem? (i := 9) rfl)) (fun _ h9 => h9) rfl (tyX4_ok 3 (by decide)) rfl rfl (Nat.le_of_ble_eq_true rfl) dX4_mend_92 (fun H locs hP hD hS => ?_)
            have hP : va_P D vwCl [(h_this, .inr (4, o4 (u_this.1, u_this.2.1, u_this.2.2.1, (xmin (99) ((2) * u_this.2.2.2.1)), u_this.2.2.2.2.1, u_this.2.2.2.2.2.1, u_this.2.2.2.2.2.2.1, u_this.2.2.2.2.2.2.2.1, u_this.2.2.2.2.2.2.2.2.1, u_this.2.2.2.2.2.2.2.2.2.1, u_this.2.2.2.2.2.2.2.2.2.2)))] H := hP
            have hD : va_D A [(h_this, .inr (4, o4 (u_this.1, u_this.2.1, u_this.2.2.1, (xmin (99) ((2) * u_this.2.2.2.1)), u_this.2.2.2.2.1, u_this.2.2.2.2.2.1, u_this.2.2.2.2.2.2.1, u_this.2.2.2.2.2.2.2.1, u_this.2.2.2.2.2.2.2.2.1, u_this.2.2.2.2.2.2.2.2.2.1, u_this.2.2.2.2.2.2.2.2.2.2)))] := hD
            refine lv_goto (tgt := 98) hx hb dX4_mend_95 (by decide) ?_
            obtain rfl := hM
            exact xretv hx hb hr hlocks hP hK hD hS dX4_mend_98
          · have hM := xif c5 hM
            refine lv_tableOut (tgt := 98) hx hb dX4_mend_1 (by have q0 := xsw c1 (show (0 : Int32).toInt = 0 by decide); have q1 := xsw c2 (show (1 : Int32).toInt = 1 by decide); have q2 := xsw c3 (show (2 : Int32).toInt = 2 by decide); have q3 := xsw c4 (show (3 : Int32).toInt = 3 by decide); have q4 := xsw c5 (show (4 : Int32).toInt = 4 by decide); omega) (by decide) ?_
            obtain rfl := hM
            exact xretv hx hb hr hlocks hP hK hD hS dX4_mend_98
