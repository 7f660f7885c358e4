/-! laid by wip/whole/gen.py out of the decode rows: functional readings and contracts -/
def s_X3_add_22 (p1 : Int64) (v2 : Int32 × Int32 × (Nat → Int32)) : Option ((Int32 × Int32 × (Nat → Int32)) ⊕ (Int32 × Int32 × (Nat → Int32))) :=
  if v2.1 < (0) then
   (some (.inr (v2.1, v2.2.1, v2.2.2)))
  else
   (if xin v2.2.1 300 = true then
    (some (.inl (v2.1 + (-1), (v2.2.1 + (1)), (upd v2.2.2 v2.2.1.toNatClampNeg (((p1 >>> (((8) * v2.1).toInt64 &&& 63)) &&& (255)).toInt32)))))
    else none)
def f_X3_add (N : Nat) (u_this : K3) (u_this_bytes : (Nat → Int32)) (p1 : Int64) (p2 : Int32) : Option (Int32 × K3 × (Nat → Int32)) :=
  if (u_this.1 + p2) ≤ (300) then
   ((xlp (s_X3_add_22 p1) N ((p2 - (1)), u_this.1, u_this_bytes)).bind fun v5 =>
    some (v5.2.1, (v5.2.1, u_this.2.1, u_this.2.2.1, u_this.2.2.2.1, u_this.2.2.2.2.1, u_this.2.2.2.2.2), v5.2.2))
  else
   (some ((-3), u_this, u_this_bytes))
set_option maxHeartbeats 4000000 in
set_option maxRecDepth 100000 in
theorem c_X3_add (l : Launch) (D : va_G) (T : xT) (h_this h_this_bytes : Nat) {sz : Nat} {N : Nat} (u_this : K3) (u_this_bytes : (Nat → Int32)) (p1 : Int64) (p2 : Int32) {rv : Int32 × K3 × (Nat → Int32)} (hM : f_X3_add N u_this u_this_bytes p1 p2 = some rv) : Met l yX3_add wsX3_add ({ frames := 0, cells := 0, slots := 0, locals := 0 } : Room) (va_Pc [.ref h_this, .long p1, .int p2] (xPre D T [(h_this, .inr (3, o3 h_this_bytes u_this)), (h_this_bytes, .inl (T.1, 300, .inl u_this_bytes))] sz xE0)) (va_Qi (fun (r : Int32) (_ : Unit) => r = rv.1) (fun _ => xPost D T [(h_this, .inr (3, o3 h_this_bytes rv.2.1)), (h_this_bytes, .inl (T.1, 300, .inl rv.2.2))] (va_A [(h_this, .inr (3, o3 h_this_bytes u_this)), (h_this_bytes, .inl (T.1, 300, .inl u_this_bytes))] sz)) (va_A [(h_this, .inr (3, o3 h_this_bytes u_this)), (h_this_bytes, .inl (T.1, 300, .inl u_this_bytes))] sz)) 0 0 (va_A [(h_this, .inr (3, o3 h_this_bytes u_this)), (h_this_bytes, .inl (T.1, 300, .inl u_this_bytes))] sz) := by
  refine xMet (av := [.ref h_this, .long p1, .int p2]) (Wd := [(h_this, .inr (3, o3 h_this_bytes u_this)), (h_this_bytes, .inl (T.1, 300, .inl u_this_bytes))]) (E := xE0) (Qc := fun A => (va_Qi (fun (r : Int32) (_ : Unit) => r = rv.1) (fun _ => xPost D T [(h_this, .inr (3, o3 h_this_bytes rv.2.1)), (h_this_bytes, .inl (T.1, 300, .inl rv.2.2))] A) A)) (cc := cX3_add) (maxL := 5) (ret := (some .int)) (by decide) rfl (Nat.le_of_ble_eq_true rfl) ?_
  intro p e s m below meth c A ls hx hb hr hml hts hown hlocks hnm hP hK hD hS hA hE hl
  have hown : s.vm.findClass RX3 = some m.cls := hown
  have hl : lv_has ls 5 [(0, .ref h_this), (1, .long p1), (3, .int p2)] := hl
  unfold f_X3_add at hM
  refine lv_aload_n hx hb dX3_add_0 rfl (lv_at hl 0 rfl) ?_
  refine va_get (D := D) (ci := 3) (v := .int u_this.1) (C := RX3) (T := TX3) (N := 7) hx hb hts (fun w h => List.mem_cons_of_mem _ (List.mem_append_right _ h)) hown hK hP 0 rfl rfl 1 (by decide) (hts _ (List.mem_of_getElem? (i := 1) rfl)) (fun _ h9 => h9) rfl dX3_add_1 ?_
  refine lv_iload_n hx hb dX3_add_4 rfl (lv_at hl 2 rfl) ?_
  refine lv_iadd hx hb dX3_add_5 ?_
  refine lv_aload_n hx hb dX3_add_6 rfl (lv_at hl 0 rfl) ?_
  refine va_get (D := D) (ci := 3) (v := .ref h_this_bytes) (C := RX3) (T := TX3) (N := 7) hx hb hts (fun w h => List.mem_cons_of_mem _ (List.mem_append_right _ h)) hown hK hP 0 rfl rfl 0 (by decide) (hts _ (List.mem_of_getElem? (i := 2) rfl)) (fun _ h9 => h9) rfl dX3_add_7 ?_
  refine va_alen (v := 300) hx hb hK hP 1 0 rfl rfl (show Int32.ofNat 300 = 300 by decide) dX3_add_10 ?_
  refine lv_icmp_le (tgt := 17) hx hb dX3_add_11 (by decide) (fun c1 => ?_) (fun c1 => ?_)
  · have hM := xit c1 hM
    refine lv_iload_n hx hb dX3_add_17 rfl (lv_at hl 2 rfl) ?_
    refine lv_iconst (v := 1) hx hb dX3_add_18 (by decide) ?_
    refine lv_isub hx hb dX3_add_19 ?_
    refine lv_istore (lv' := [(4, .int (p2 - (1))), (0, .ref h_this), (1, .long p1), (3, .int p2)]) hx hb dX3_add_20 hl (by decide) rfl (fun ls hl => ?_)
    obtain ⟨v5, hM, hNv5⟩ := xbd hM
    have hQv5 := hM
    have Kv5 : ∀ (H : Heap) (locs : List Loc) (ls : Array Slot), va_P D vwCl [(h_this, .inr (3, o3 h_this_bytes (v5.2.1, u_this.2.1, u_this.2.2.1, u_this.2.2.2.1, u_this.2.2.2.2.1, u_this.2.2.2.2.2))), (h_this_bytes, .inl (T.1, 300, .inl v5.2.2))] H → va_D A [(h_this, .inr (3, o3 h_this_bytes (v5.2.1, u_this.2.1, u_this.2.2.1, u_this.2.2.2.1, u_this.2.2.2.2.1, u_this.2.2.2.2.2))), (h_this_bytes, .inl (T.1, 300, .inl v5.2.2))] → va_S A s.heap H locs → lv_has ls 5 [(0, .ref h_this)] → W p l e ({ frames := 0, cells := 0, slots := 0, locals := 0 } : Room) s m ([.ref h_this, .long p1, .int p2] : List Value).toArray below meth c H locs 0 0 (MQ below (va_Qi (fun (r : Int32) (_ : Unit) => r = rv.1) (fun _ => xPost D T [(h_this, .inr (3, o3 h_this_bytes rv.2.1)), (h_this_bytes, .inl (T.1, 300, .inl rv.2.2))] A) A) ([.ref h_this, .long p1, .int p2] : List Value).toArray s 0 0 A) (F0 m 64 ls []) := by
      intro H locs ls hP hD hS hl
      have hM := hNv5
      refine lv_aload_n hx hb dX3_add_64 rfl (lv_at hl 0 rfl) ?_
      refine va_get (D := D) (ci := 3) (v := .int v5.2.1) (C := RX3) (T := TX3) (N := 7) hx hb hts (fun w h => List.mem_cons_of_mem _ (List.mem_append_right _ h)) hown hK hP 0 rfl rfl 1 (by decide) (hts _ (List.mem_of_getElem? (i := 1) rfl)) (fun _ h9 => h9) rfl dX3_add_65 ?_
      obtain rfl := Option.some.inj hM
      exact xreti hx hb hr hlocks hP hK hD hS dX3_add_68 rfl
    have Lv2 : ∀ (n : Nat) (v2 : Int32 × Int32 × (Nat → Int32)), xlp (s_X3_add_22 p1) n v2 = some v5 → ∀ (H : Heap) (locs : List Loc) (ls : Array Slot), va_P D vwCl [(h_this, .inr (3, o3 h_this_bytes (v2.2.1, u_this.2.1, u_this.2.2.1, u_this.2.2.2.1, u_this.2.2.2.2.1, u_this.2.2.2.2.2))), (h_this_bytes, .inl (T.1, 300, .inl v2.2.2))] H → va_D A [(h_this, .inr (3, o3 h_this_bytes (v2.2.1, u_this.2.1, u_this.2.2.1, u_this.2.2.2.1, u_this.2.2.2.2.1, u_this.2.2.2.2.2))), (h_this_bytes, .inl (T.1, 300, .inl v2.2.2))] → va_S A s.heap H locs → lv_has ls 5 [(0, .ref h_this), (1, .long p1), (4, .int v2.1)] → W p l e ({ frames := 0, cells := 0, slots := 0, locals := 0 } : Room) s m ([.ref h_this, .long p1, .int p2] : List Value).toArray below meth c H locs 0 0 (MQ below (va_Qi (fun (r : Int32) (_ : Unit) => r = rv.1) (fun _ => xPost D T [(h_this, .inr (3, o3 h_this_bytes rv.2.1)), (h_this_bytes, .inl (T.1, 300, .inl rv.2.2))] A) A) ([.ref h_this, .long p1, .int p2] : List Value).toArray s 0 0 A) (F0 m 22 ls []) := by
      intro n
      induction n with
      | zero => exact fun _ h => (xlp_0 h).elim
      | succ n ih =>
        intro v2 hM H locs ls hP hD hS hl
        obtain ⟨z, hM, hz1, hz2⟩ := xlp_s hM
        unfold s_X3_add_22 at hM
        refine lv_iload hx hb dX3_add_22 (lv_at hl 2 rfl) ?_
        refine lv_if_lt (tgt := 64) hx hb dX3_add_24 (by decide) (fun c3 => ?_) (fun c3 => ?_)
        · have hM := xit c3 hM
          obtain rfl := hz2 _ (Option.some.inj hM).symm
          exact Kv5 _ _ _ hP hD hS (lv_sub hl [0] rfl)
        · have hM := xif c3 hM
          refine lv_aload_n hx hb dX3_add_27 rfl (lv_at hl 0 rfl) ?_
          refine va_get (D := D) (ci := 3) (v := .ref h_this_bytes) (C := RX3) (T := TX3) (N := 7) hx hb hts (fun w h => List.mem_cons_of_mem _ (List.mem_append_right _ h)) hown hK hP 0 rfl rfl 0 (by decide) (hts _ (List.mem_of_getElem? (i := 2) rfl)) (fun _ h9 => h9) rfl dX3_add_28 ?_
          refine lv_aload_n hx hb dX3_add_31 rfl (lv_at hl 0 rfl) ?_
          refine va_get (D := D) (ci := 3) (v := .int v2.2.1) (C := RX3) (T := TX3) (N := 7) hx hb hts (fun w h => List.mem_cons_of_mem _ (List.mem_append_right _ h)) hown hK hP 0 rfl rfl 1 (by decide) (hts _ (List.mem_of_getElem? (i := 1) rfl)) (fun _ h9 => h9) rfl dX3_add_32 ?_
          refine lv_lload_n hx hb dX3_add_35 rfl (lv_at hl 1 rfl) ?_
          refine lv_bipush (v := 8) hx hb dX3_add_36 (by decide) ?_
          refine lv_iload hx hb dX3_add_38 (lv_at hl 2 rfl) ?_
          refine lv_imul hx hb dX3_add_40 ?_
          refine lv_lshr (v := (p1 >>> (((8) * v2.1).toInt64 &&& 63))) hx hb dX3_add_41 rfl ?_
          refine lv_ldc2 (v := 255) hx hb hown (hts _ (List.mem_of_getElem? (i := 3) rfl)) dX3_add_42 ?_
          refine lv_land hx hb dX3_add_45 ?_
          refine lv_l2i (v := ((p1 >>> (((8) * v2.1).toInt64 &&& 63)) &&& (255)).toInt32) hx hb dX3_add_46 rfl ?_
          obtain ⟨g4, hM⟩ := xck hM
          refine xast hx hb hK hP hD hS 1 0 rfl rfl g4 rfl dX3_add_47 (fun H locs hP hD hS => ?_)
          have hP : va_P D vwCl [(h_this, .inr (3, o3 h_this_bytes (v2.2.1, u_this.2.1, u_this.2.2.1, u_this.2.2.2.1, u_this.2.2.2.2.1, u_this.2.2.2.2.2))), (h_this_bytes, .inl (T.1, 300, .inl (upd v2.2.2 v2.2.1.toNatClampNeg (((p1 >>> (((8) * v2.1).toInt64 &&& 63)) &&& (255)).toInt32))))] H := hP
          have hD : va_D A [(h_this, .inr (3, o3 h_this_bytes (v2.2.1, u_this.2.1, u_this.2.2.1, u_this.2.2.2.1, u_this.2.2.2.2.1, u_this.2.2.2.2.2))), (h_this_bytes, .inl (T.1, 300, .inl (upd v2.2.2 v2.2.1.toNatClampNeg (((p1 >>> (((8) * v2.1).toInt64 &&& 63)) &&& (255)).toInt32))))] := hD
          refine lv_aload_n hx hb dX3_add_48 rfl (lv_at hl 0 rfl) ?_
          refine lv_dup hx hb dX3_add_49 rfl ?_
          refine va_get (D := D) (ci := 3) (v := .int v2.2.1) (C := RX3) (T := TX3) (N := 7) hx hb hts (fun w h => List.mem_cons_of_mem _ (List.mem_append_right _ h)) hown hK hP 0 rfl rfl 1 (by decide) (hts _ (List.mem_of_getElem? (i := 1) rfl)) (fun _ h9 => h9) rfl dX3_add_50 ?_
          refine lv_iconst (v := 1) hx hb dX3_add_53 (by decide) ?_
          refine lv_iadd hx hb dX3_add_54 ?_
          refine va_put (D := D) (ci := 3) (v := .int (v2.2.1 + (1))) (C := RX3) (T := TX3) (N := 7) hx hb hts (fun w h => List.mem_cons_of_mem _ (List.mem_append_right _ h)) tyX3 tyX3_ok nmX3 hown hK hP hD hS 0 rfl rfl 1 (by decide) (hts _ (List.mem_of_getElem? (i := 1) rfl)) (fun _ h9 => h9) rfl (tyX3_ok 1 (by decide)) rfl rfl (Nat.le_of_ble_eq_true rfl) dX3_add_55 (fun H locs hP hD hS => ?_)
          have hP : va_P D vwCl [(h_this, .inr (3, o3 h_this_bytes ((v2.2.1 + (1)), u_this.2.1, u_this.2.2.1, u_this.2.2.2.1, u_this.2.2.2.2.1, u_this.2.2.2.2.2))), (h_this_bytes, .inl (T.1, 300, .inl (upd v2.2.2 v2.2.1.toNatClampNeg (((p1 >>> (((8) * v2.1).toInt64 &&& 63)) &&& (255)).toInt32))))] H := hP
          have hD : va_D A [(h_this, .inr (3, o3 h_this_bytes ((v2.2.1 + (1)), u_this.2.1, u_this.2.2.1, u_this.2.2.2.1, u_this.2.2.2.2.1, u_this.2.2.2.2.2))), (h_this_bytes, .inl (T.1, 300, .inl (upd v2.2.2 v2.2.1.toNatClampNeg (((p1 >>> (((8) * v2.1).toInt64 &&& 63)) &&& (255)).toInt32))))] := hD
          refine lv_iinc (v := v2.1 + (-1)) (lv' := [(4, .int (v2.1 + (-1))), (0, .ref h_this), (1, .long p1)]) hx hb dX3_add_58 hl (k := 2) rfl rfl (by decide) rfl (fun ls hl => ?_)
          refine lv_goto (tgt := 22) hx hb dX3_add_61 (by decide) ?_
          exact ih _ (hz1 _ (Option.some.inj hM).symm) _ _ _ hP hD hS (lv_sub hl [1, 2, 0] rfl)
    exact Lv2 _ _ hM _ _ _ hP hD hS (lv_sub hl [1, 2, 0] rfl)
  · have hM := xif c1 hM
    refine lv_bipush (v := (-3)) hx hb dX3_add_14 (by decide) ?_
    obtain rfl := Option.some.inj hM
    exact xreti hx hb hr hlocks hP hK hD hS dX3_add_16 rfl
def f_X3_empty (u_this : K3) : Int32 × K3 :=
  (u_this.1, (0, u_this.2.1, u_this.2.2.1, u_this.2.2.2.1, u_this.2.2.2.2.1, u_this.2.2.2.2.2))
set_option maxHeartbeats 4000000 in
set_option maxRecDepth 100000 in
theorem c_X3_empty (l : Launch) (D : va_G) (T : xT) (h_this h_this_bytes : Nat) {sz : Nat} (u_this : K3) {rv : Int32 × K3} (hM : f_X3_empty u_this = rv) : Met l yX3_empty wsX3_empty ({ frames := 0, cells := 0, slots := 0, locals := 0 } : Room) (va_Pc [.ref h_this] (xPre D T [(h_this, .inr (3, o3 h_this_bytes u_this))] sz xE0)) (va_Qi (fun (r : Int32) (_ : Unit) => r = rv.1) (fun _ => xPost D T [(h_this, .inr (3, o3 h_this_bytes rv.2))] (va_A [(h_this, .inr (3, o3 h_this_bytes u_this))] sz)) (va_A [(h_this, .inr (3, o3 h_this_bytes u_this))] sz)) 0 0 (va_A [(h_this, .inr (3, o3 h_this_bytes u_this))] sz) := by
  refine xMet (av := [.ref h_this]) (Wd := [(h_this, .inr (3, o3 h_this_bytes u_this))]) (E := xE0) (Qc := fun A => (va_Qi (fun (r : Int32) (_ : Unit) => r = rv.1) (fun _ => xPost D T [(h_this, .inr (3, o3 h_this_bytes rv.2))] A) A)) (cc := cX3_empty) (maxL := 2) (ret := (some .int)) (by decide) rfl (Nat.le_of_ble_eq_true rfl) ?_
  intro p e s m below meth c A ls hx hb hr hml hts hown hlocks hnm hP hK hD hS hA hE hl
  have hown : s.vm.findClass RX3 = some m.cls := hown
  have hl : lv_has ls 2 [(0, .ref h_this)] := hl
  unfold f_X3_empty at hM
  refine lv_aload_n hx hb dX3_empty_0 rfl (lv_at hl 0 rfl) ?_
  refine va_get (D := D) (ci := 3) (v := .int u_this.1) (C := RX3) (T := TX3) (N := 7) hx hb hts (fun w h => List.mem_cons_of_mem _ (List.mem_append_right _ h)) hown hK hP 0 rfl rfl 1 (by decide) (hts _ (List.mem_of_getElem? (i := 1) rfl)) (fun _ h9 => h9) rfl dX3_empty_1 ?_
  refine lv_istore_n (lv' := [(1, .int u_this.1), (0, .ref h_this)]) hx hb dX3_empty_4 rfl hl (by decide) rfl (fun ls hl => ?_)
  refine lv_aload_n hx hb dX3_empty_5 rfl (lv_at hl 1 rfl) ?_
  refine lv_iconst (v := 0) hx hb dX3_empty_6 (by decide) ?_
  refine va_put (D := D) (ci := 3) (v := .int (0)) (C := RX3) (T := TX3) (N := 7) hx hb hts (fun w h => List.mem_cons_of_mem _ (List.mem_append_right _ h)) tyX3 tyX3_ok nmX3 hown hK hP hD hS 0 rfl rfl 1 (by decide) (hts _ (List.mem_of_getElem? (i := 1) rfl)) (fun _ h9 => h9) rfl (tyX3_ok 1 (by decide)) rfl rfl (Nat.le_of_ble_eq_true rfl) dX3_empty_7 (fun H locs hP hD hS => ?_)
  have hP : va_P D vwCl [(h_this, .inr (3, o3 h_this_bytes (0, u_this.2.1, u_this.2.2.1, u_this.2.2.2.1, u_this.2.2.2.2.1, u_this.2.2.2.2.2)))] H := hP
  have hD : va_D A [(h_this, .inr (3, o3 h_this_bytes (0, u_this.2.1, u_this.2.2.1, u_this.2.2.2.1, u_this.2.2.2.2.1, u_this.2.2.2.2.2)))] := hD
  refine lv_iload_n hx hb dX3_empty_10 rfl (lv_at hl 0 rfl) ?_
  obtain rfl := hM
  exact xreti hx hb hr hlocks hP hK hD hS dX3_empty_11 rfl
def f_X3_isDigit (p1 : Int32) : Int32 :=
  if p1 < (48) then
   (0)
  else
   (if (57) < p1 then
     (0)
    else
     (1))
set_option maxHeartbeats 4000000 in
set_option maxRecDepth 100000 in
theorem c_X3_isDigit (l : Launch) (D : va_G) (T : xT)  {sz : Nat} (p1 : Int32) {rv : Int32} (hM : f_X3_isDigit p1 = rv) : Met l yX3_isDigit wsX3_isDigit ({ frames := 0, cells := 0, slots := 0, locals := 0 } : Room) (va_Pc [.int p1] (xPre D T [] sz xE0)) (va_Qi (fun (r : Int32) (_ : Unit) => r = rv) (fun _ => xPost D T [] (va_A [] sz)) (va_A [] sz)) 0 0 (va_A [] sz) := by
  refine xMet (av := [.int p1]) (Wd := []) (E := xE0) (Qc := fun A => (va_Qi (fun (r : Int32) (_ : Unit) => r = rv) (fun _ => xPost D T [] A) A)) (cc := cX3_isDigit) (maxL := 1) (ret := (some .boolean)) (by decide) rfl (Nat.le_of_ble_eq_true rfl) ?_
  intro p e s m below meth c A ls hx hb hr hml hts hown hlocks hnm hP hK hD hS hA hE hl
  have hown : s.vm.findClass RX3 = some m.cls := hown
  have hl : lv_has ls 1 [(0, .int p1)] := hl
  unfold f_X3_isDigit at hM
  refine lv_iload_n hx hb dX3_isDigit_0 rfl (lv_at hl 0 rfl) ?_
  refine lv_bipush (v := 48) hx hb dX3_isDigit_1 (by decide) ?_
  refine lv_icmp_lt (tgt := 16) hx hb dX3_isDigit_3 (by decide) (fun c1 => ?_) (fun c1 => ?_)
  · have hM := xit c1 hM
    refine lv_iconst (v := 0) hx hb dX3_isDigit_16 (by decide) ?_
    obtain rfl := hM
    exact xretz hx hb hr hlocks hP hK hD hS dX3_isDigit_17 rfl rfl
  · have hM := xif c1 hM
    refine lv_iload_n hx hb dX3_isDigit_6 rfl (lv_at hl 0 rfl) ?_
    refine lv_bipush (v := 57) hx hb dX3_isDigit_7 (by decide) ?_
    refine lv_icmp_gt (tgt := 16) hx hb dX3_isDigit_9 (by decide) (fun c2 => ?_) (fun c2 => ?_)
    · have hM := xit c2 hM
      refine lv_iconst (v := 0) hx hb dX3_isDigit_16 (by decide) ?_
      obtain rfl := hM
      exact xretz hx hb hr hlocks hP hK hD hS dX3_isDigit_17 rfl rfl
    · have hM := xif c2 hM
      refine lv_iconst (v := 1) hx hb dX3_isDigit_12 (by decide) ?_
      refine lv_goto (tgt := 17) hx hb dX3_isDigit_13 (by decide) ?_
      obtain rfl := hM
      exact xretz hx hb hr hlocks hP hK hD hS dX3_isDigit_17 rfl rfl
def s_X3_nextNumber_25 (u_this : K3) (u_this_bytes : (Nat → Int32)) (v4 : Int32 × Int32) : Option ((Int32 × Int32) ⊕ (Int32 × Int32)) :=
  if u_this.1 ≤ v4.1 then
   (some (.inr (v4.1, v4.2)))
  else
   (if xin v4.1 300 = true then
    (if (f_X3_isDigit (u_this_bytes v4.1.toNatClampNeg)) = (0) then
      (some (.inr (v4.1, v4.2)))
     else
      (some (.inl ((v4.1 + (1)), (xmin (101) ((((10) * v4.2) + (u_this_bytes v4.1.toNatClampNeg)) - (48)))))))
    else none)
def f_X3_nextNumber (N : Nat) (u_this : K3) (u_this_bytes : (Nat → Int32)) : Option (K3) :=
  if xin u_this.2.1 300 = true then
  (((if (u_this_bytes u_this.2.1.toNatClampNeg) = (48) then
      (some (1))
     else
      (some (0)) : Option (Int32))).bind fun v3 =>
   (xlp (s_X3_nextNumber_25 u_this u_this_bytes) N (u_this.2.1, 0)).bind fun v8 =>
   ((if (100) < v8.2 then
      (some (1))
     else
      (if v3 = (0) then
        (some (0))
       else
        (if (v8.1 - u_this.2.2.1) ≤ (1) then
          (some (0))
         else
          (some (1)))) : Option (Int32))).bind fun v12 =>
   if v12 = (0) then
    (some (u_this.1, v8.1, u_this.2.2.1, 2, v8.2, u_this.2.2.2.2.2))
   else
    (some (u_this.1, v8.1, u_this.2.2.1, 4, v8.2, u_this.2.2.2.2.2)))
  else none
set_option maxHeartbeats 4000000 in
set_option maxRecDepth 100000 in
theorem c_X3_nextNumber (l : Launch) (D : va_G) (T : xT) (h_this h_this_bytes : Nat) {sz : Nat} {N : Nat} (u_this : K3) (u_this_bytes : (Nat → Int32)) {rv : K3} (hM : f_X3_nextNumber N u_this u_this_bytes = some rv) : Met l yX3_nextNumber wsX3_nextNumber ({ frames := 1, cells := 0, slots := 0, locals := 20 } : Room) (va_Pc [.ref h_this] (xPre D T [(h_this, .inr (3, o3 h_this_bytes u_this)), (h_this_bytes, .inl (T.1, 300, .inl u_this_bytes))] sz xE0)) (va_Qv (fun (_ : Unit) => True) (fun _ => xPost D T [(h_this, .inr (3, o3 h_this_bytes rv)), (h_this_bytes, .inl (T.1, 300, .inl u_this_bytes))] (va_A [(h_this, .inr (3, o3 h_this_bytes u_this)), (h_this_bytes, .inl (T.1, 300, .inl u_this_bytes))] sz)) (va_A [(h_this, .inr (3, o3 h_this_bytes u_this)), (h_this_bytes, .inl (T.1, 300, .inl u_this_bytes))] sz)) 0 0 (va_A [(h_this, .inr (3, o3 h_this_bytes u_this)), (h_this_bytes, .inl (T.1, 300, .inl u_this_bytes))] sz) := by
  refine xMet (av := [.ref h_this]) (Wd := [(h_this, .inr (3, o3 h_this_bytes u_this)), (h_this_bytes, .inl (T.1, 300, .inl u_this_bytes))]) (E := xE0) (Qc := fun A => (va_Qv (fun (_ : Unit) => True) (fun _ => xPost D T [(h_this, .inr (3, o3 h_this_bytes rv)), (h_this_bytes, .inl (T.1, 300, .inl u_this_bytes))] A) A)) (cc := cX3_nextNumber) (maxL := 3) (ret := none) (by decide) rfl (Nat.le_of_ble_eq_true rfl) ?_
  intro p e s m below meth c A ls hx hb hr hml hts hown hlocks hnm hP hK hD hS hA hE hl
  have hown : s.vm.findClass RX3 = some m.cls := hown
  have hl : lv_has ls 3 [(0, .ref h_this)] := hl
  unfold f_X3_nextNumber at hM
  refine lv_aload_n hx hb dX3_nextNumber_0 rfl (lv_at hl 0 rfl) ?_
  refine va_get (D := D) (ci := 3) (v := .ref h_this_bytes) (C := RX3) (T := TX3) (N := 7) hx hb hts (fun w h => List.mem_cons_of_mem _ (List.mem_append_right _ h)) hown hK hP 0 rfl rfl 0 (by decide) (hts _ (List.mem_of_getElem? (i := 1) rfl)) (fun _ h9 => h9) rfl dX3_nextNumber_1 ?_
  refine lv_aload_n hx hb dX3_nextNumber_4 rfl (lv_at hl 0 rfl) ?_
  refine va_get (D := D) (ci := 3) (v := .int u_this.2.1) (C := RX3) (T := TX3) (N := 7) hx hb hts (fun w h => List.mem_cons_of_mem _ (List.mem_append_right _ h)) hown hK hP 0 rfl rfl 2 (by decide) (hts _ (List.mem_of_getElem? (i := 2) rfl)) (fun _ h9 => h9) rfl dX3_nextNumber_5 ?_
  obtain ⟨g1, hM⟩ := xck hM
  refine xald (v := (u_this_bytes u_this.2.1.toNatClampNeg)) hx hb hK hP 1 0 rfl rfl g1 rfl dX3_nextNumber_8 ?_
  refine lv_bipush (v := 48) hx hb dX3_nextNumber_9 (by decide) ?_
  obtain ⟨v3, hM, hNv3⟩ := xbd hM
  have Kv3 : ∀ (H : Heap) (locs : List Loc) (ls : Array Slot), va_P D vwCl [(h_this, .inr (3, o3 h_this_bytes u_this)), (h_this_bytes, .inl (T.1, 300, .inl u_this_bytes))] H → va_D A [(h_this, .inr (3, o3 h_this_bytes u_this)), (h_this_bytes, .inl (T.1, 300, .inl u_this_bytes))] → va_S A s.heap H locs → lv_has ls 3 [(0, .ref h_this)] → W p l e ({ frames := 1, cells := 0, slots := 0, locals := 20 } : Room) s m ([.ref h_this] : List Value).toArray below meth c H locs 0 0 (MQ below (va_Qv (fun (_ : Unit) => True) (fun _ => xPost D T [(h_this, .inr (3, o3 h_this_bytes rv)), (h_this_bytes, .inl (T.1, 300, .inl u_this_bytes))] A) A) ([.ref h_this] : List Value).toArray s 0 0 A) (F0 m 19 ls [.int v3]) := by
    intro H locs ls hP hD hS hl
    have hM := hNv3
    refine lv_istore_n (lv' := [(1, .int v3), (0, .ref h_this)]) hx hb dX3_nextNumber_19 rfl hl (by decide) rfl (fun ls hl => ?_)
    refine lv_aload_n hx hb dX3_nextNumber_20 rfl (lv_at hl 1 rfl) ?_
    refine lv_iconst (v := 0) hx hb dX3_nextNumber_21 (by decide) ?_
    refine va_put (D := D) (ci := 3) (v := .int (0)) (C := RX3) (T := TX3) (N := 7) hx hb hts (fun w h => List.mem_cons_of_mem _ (List.mem_append_right _ h)) tyX3 tyX3_ok nmX3 hown hK hP hD hS 0 rfl rfl 5 (by decide) (hts _ (List.mem_of_getElem? (i := 3) rfl)) (fun _ h9 => h9) rfl (tyX3_ok 5 (by decide)) rfl rfl (Nat.le_of_ble_eq_true rfl) dX3_nextNumber_22 (fun H locs hP hD hS => ?_)
    have hP : va_P D vwCl [(h_this, .inr (3, o3 h_this_bytes (u_this.1, u_this.2.1, u_this.2.2.1, u_this.2.2.2.1, 0, u_this.2.2.2.2.2))), (h_this_bytes, .inl (T.1, 300, .inl u_this_bytes))] H := hP
    have hD : va_D A [(h_this, .inr (3, o3 h_this_bytes (u_this.1, u_this.2.1, u_this.2.2.1, u_this.2.2.2.1, 0, u_this.2.2.2.2.2))), (h_this_bytes, .inl (T.1, 300, .inl u_this_bytes))] := hD
    obtain ⟨v8, hM, hNv8⟩ := xbd hM
    have hQv8 := hM
    have Kv8 : ∀ (H : Heap) (locs : List Loc) (ls : Array Slot), va_P D vwCl [(h_this, .inr (3, o3 h_this_bytes (u_this.1, v8.1, u_this.2.2.1, u_this.2.2.2.1, v8.2, u_this.2.2.2.2.2))), (h_this_bytes, .inl (T.1, 300, .inl u_this_bytes))] H → va_D A [(h_this, .inr (3, o3 h_this_bytes (u_this.1, v8.1, u_this.2.2.1, u_this.2.2.2.1, v8.2, u_this.2.2.2.2.2))), (h_this_bytes, .inl (T.1, 300, .inl u_this_bytes))] → va_S A s.heap H locs → lv_has ls 3 [(0, .ref h_this), (1, .int v3)] → W p l e ({ frames := 1, cells := 0, slots := 0, locals := 20 } : Room) s m ([.ref h_this] : List Value).toArray below meth c H locs 0 0 (MQ below (va_Qv (fun (_ : Unit) => True) (fun _ => xPost D T [(h_this, .inr (3, o3 h_this_bytes rv)), (h_this_bytes, .inl (T.1, 300, .inl u_this_bytes))] A) A) ([.ref h_this] : List Value).toArray s 0 0 A) (F0 m 93 ls []) := by
      intro H locs ls hP hD hS hl
      have hM := hNv8
      refine lv_aload_n hx hb dX3_nextNumber_93 rfl (lv_at hl 0 rfl) ?_
      refine va_get (D := D) (ci := 3) (v := .int v8.2) (C := RX3) (T := TX3) (N := 7) hx hb hts (fun w h => List.mem_cons_of_mem _ (List.mem_append_right _ h)) hown hK hP 0 rfl rfl 5 (by decide) (hts _ (List.mem_of_getElem? (i := 3) rfl)) (fun _ h9 => h9) rfl dX3_nextNumber_94 ?_
      refine lv_bipush (v := 100) hx hb dX3_nextNumber_97 (by decide) ?_
      obtain ⟨v12, hM, hNv12⟩ := xbd hM
      have Kv12 : ∀ (H : Heap) (locs : List Loc) (ls : Array Slot), va_P D vwCl [(h_this, .inr (3, o3 h_this_bytes (u_this.1, v8.1, u_this.2.2.1, u_this.2.2.2.1, v8.2, u_this.2.2.2.2.2))), (h_this_bytes, .inl (T.1, 300, .inl u_this_bytes))] H → va_D A [(h_this, .inr (3, o3 h_this_bytes (u_this.1, v8.1, u_this.2.2.1, u_this.2.2.2.1, v8.2, u_this.2.2.2.2.2))), (h_this_bytes, .inl (T.1, 300, .inl u_this_bytes))] → va_S A s.heap H locs → lv_has ls 3 [(0, .ref h_this)] → W p l e ({ frames := 1, cells := 0, slots := 0, locals := 20 } : Room) s m ([.ref h_this] : List Value).toArray below meth c H locs 0 0 (MQ below (va_Qv (fun (_ : Unit) => True) (fun _ => xPost D T [(h_this, .inr (3, o3 h_this_bytes rv)), (h_this_bytes, .inl (T.1, 300, .inl u_this_bytes))] A) A) ([.ref h_this] : List Value).toArray s 0 0 A) (F0 m 124 ls [.int v12]) := by
        intro H locs ls hP hD hS hl
        have hM := hNv12
        refine lv_istore_n (lv' := [(2, .int v12), (0, .ref h_this)]) hx hb dX3_nextNumber_124 rfl hl (by decide) rfl (fun ls hl => ?_)
        refine lv_aload_n hx hb dX3_nextNumber_125 rfl (lv_at hl 1 rfl) ?_
        refine lv_iload_n hx hb dX3_nextNumber_126 rfl (lv_at hl 0 rfl) ?_
        refine lv_if_eq (tgt := 134) hx hb dX3_nextNumber_127 (by decide) (fun c13 => ?_) (fun c13 => ?_)
        · have hM := xit c13 hM
          refine lv_iconst (v := 2) hx hb dX3_nextNumber_134 (by decide) ?_
          refine va_put (D := D) (ci := 3) (v := .int (2)) (C := RX3) (T := TX3) (N := 7) hx hb hts (fun w h => List.mem_cons_of_mem _ (List.mem_append_right _ h)) tyX3 tyX3_ok nmX3 hown hK hP hD hS 0 rfl rfl 4 (by decide) (hts _ (List.mem_of_getElem? (i := 10) rfl)) (fun _ h9 => h9) rfl (tyX3_ok 4 (by decide)) rfl rfl (Nat.le_of_ble_eq_true rfl) dX3_nextNumber_135 (fun H locs hP hD hS => ?_)
          have hP : va_P D vwCl [(h_this, .inr (3, o3 h_this_bytes (u_this.1, v8.1, u_this.2.2.1, 2, v8.2, u_this.2.2.2.2.2))), (h_this_bytes, .inl (T.1, 300, .inl u_this_bytes))] H := hP
          have hD : va_D A [(h_this, .inr (3, o3 h_this_bytes (u_this.1, v8.1, u_this.2.2.1, 2, v8.2, u_this.2.2.2.2.2))), (h_this_bytes, .inl (T.1, 300, .inl u_this_bytes))] := hD
          obtain rfl := Option.some.inj hM
          exact xretv hx hb hr hlocks hP hK hD hS dX3_nextNumber_138
        · have hM := xif c13 hM
          refine lv_iconst (v := 4) hx hb dX3_nextNumber_130 (by decide) ?_
          refine lv_goto (tgt := 135) hx hb dX3_nextNumber_131 (by decide) ?_
          refine va_put (D := D) (ci := 3) (v := .int (4)) (C := RX3) (T := TX3) (N := 7) hx hb hts (fun w h => List.mem_cons_of_mem _ (List.mem_append_right _ h)) tyX3 tyX3_ok nmX3 hown hK hP hD hS 0 rfl rfl 4 (by decide) (hts _ (List.mem_of_getElem? (i := 10) rfl)) (fun _ h9 => h9) rfl (tyX3_ok 4 (by decide)) rfl rfl (Nat.le_of_ble_eq_true rfl) dX3_nextNumber_135 (fun H locs hP hD hS => ?_)
          have hP : va_P D vwCl [(h_this, .inr (3, o3 h_this_bytes (u_this.1, v8.1, u_this.2.2.1, 4, v8.2, u_this.2.2.2.2.2))), (h_this_bytes, .inl (T.1, 300, .inl u_this_bytes))] H := hP
          have hD : va_D A [(h_this, .inr (3, o3 h_this_bytes (u_this.1, v8.1, u_this.2.2.1, 4, v8.2, u_this.2.2.2.2.2))), (h_this_bytes, .inl (T.1, 300, .inl u_this_bytes))] := hD
          obtain rfl := Option.some.inj hM
          exact xretv hx hb hr hlocks hP hK hD hS dX3_nextNumber_138
      refine lv_icmp_gt (tgt := 119) hx hb dX3_nextNumber_99 (by decide) (fun c9 => ?_) (fun c9 => ?_)
      · have hM := xit c9 hM
        refine lv_iconst (v := 1) hx hb dX3_nextNumber_119 (by decide) ?_
        refine lv_goto (tgt := 124) hx hb dX3_nextNumber_120 (by decide) ?_
        obtain rfl := Option.some.inj hM
        exact Kv12 _ _ _ hP hD hS (lv_sub hl [0] rfl)
      · have hM := xif c9 hM
        refine lv_iload_n hx hb dX3_nextNumber_102 rfl (lv_at hl 1 rfl) ?_
        refine lv_if_eq (tgt := 123) hx hb dX3_nextNumber_103 (by decide) (fun c10 => ?_) (fun c10 => ?_)
        · have hM := xit c10 hM
          refine lv_iconst (v := 0) hx hb dX3_nextNumber_123 (by decide) ?_
          obtain rfl := Option.some.inj hM
          exact Kv12 _ _ _ hP hD hS (lv_sub hl [0] rfl)
        · have hM := xif c10 hM
          refine lv_aload_n hx hb dX3_nextNumber_106 rfl (lv_at hl 0 rfl) ?_
          refine va_get (D := D) (ci := 3) (v := .int v8.1) (C := RX3) (T := TX3) (N := 7) hx hb hts (fun w h => List.mem_cons_of_mem _ (List.mem_append_right _ h)) hown hK hP 0 rfl rfl 2 (by decide) (hts _ (List.mem_of_getElem? (i := 2) rfl)) (fun _ h9 => h9) rfl dX3_nextNumber_107 ?_
          refine lv_aload_n hx hb dX3_nextNumber_110 rfl (lv_at hl 0 rfl) ?_
          refine va_get (D := D) (ci := 3) (v := .int u_this.2.2.1) (C := RX3) (T := TX3) (N := 7) hx hb hts (fun w h => List.mem_cons_of_mem _ (List.mem_append_right _ h)) hown hK hP 0 rfl rfl 3 (by decide) (hts _ (List.mem_of_getElem? (i := 9) rfl)) (fun _ h9 => h9) rfl dX3_nextNumber_111 ?_
          refine lv_isub hx hb dX3_nextNumber_114 ?_
          refine lv_iconst (v := 1) hx hb dX3_nextNumber_115 (by decide) ?_
          refine lv_icmp_le (tgt := 123) hx hb dX3_nextNumber_116 (by decide) (fun c11 => ?_) (fun c11 => ?_)
          · have hM := xit c11 hM
            refine lv_iconst (v := 0) hx hb dX3_nextNumber_123 (by decide) ?_
            obtain rfl := Option.some.inj hM
            exact Kv12 _ _ _ hP hD hS (lv_sub hl [0] rfl)
          · have hM := xif c11 hM
            refine lv_iconst (v := 1) hx hb dX3_nextNumber_119 (by decide) ?_
            refine lv_goto (tgt := 124) hx hb dX3_nextNumber_120 (by decide) ?_
            obtain rfl := Option.some.inj hM
            exact Kv12 _ _ _ hP hD hS (lv_sub hl [0] rfl)
    have Lv4 : ∀ (n : Nat) (v4 : Int32 × Int32), xlp (s_X3_nextNumber_25 u_this u_this_bytes) n v4 = some v8 → ∀ (H : Heap) (locs : List Loc) (ls : Array Slot), va_P D vwCl [(h_this, .inr (3, o3 h_this_bytes (u_this.1, v4.1, u_this.2.2.1, u_this.2.2.2.1, v4.2, u_this.2.2.2.2.2))), (h_this_bytes, .inl (T.1, 300, .inl u_this_bytes))] H → va_D A [(h_this, .inr (3, o3 h_this_bytes (u_this.1, v4.1, u_this.2.2.1, u_this.2.2.2.1, v4.2, u_this.2.2.2.2.2))), (h_this_bytes, .inl (T.1, 300, .inl u_this_bytes))] → va_S A s.heap H locs → lv_has ls 3 [(0, .ref h_this), (1, .int v3)] → W p l e ({ frames := 1, cells := 0, slots := 0, locals := 20 } : Room) s m ([.ref h_this] : List Value).toArray below meth c H locs 0 0 (MQ below (va_Qv (fun (_ : Unit) => True) (fun _ => xPost D T [(h_this, .inr (3, o3 h_this_bytes rv)), (h_this_bytes, .inl (T.1, 300, .inl u_this_bytes))] A) A) ([.ref h_this] : List Value).toArray s 0 0 A) (F0 m 25 ls []) := by
      intro n
      induction n with
      | zero => exact fun _ h => (xlp_0 h).elim
      | succ n ih =>
        intro v4 hM H locs ls hP hD hS hl
        obtain ⟨z, hM, hz1, hz2⟩ := xlp_s hM
        unfold s_X3_nextNumber_25 at hM
        refine lv_aload_n hx hb dX3_nextNumber_25 rfl (lv_at hl 0 rfl) ?_
        refine va_get (D := D) (ci := 3) (v := .int v4.1) (C := RX3) (T := TX3) (N := 7) hx hb hts (fun w h => List.mem_cons_of_mem _ (List.mem_append_right _ h)) hown hK hP 0 rfl rfl 2 (by decide) (hts _ (List.mem_of_getElem? (i := 2) rfl)) (fun _ h9 => h9) rfl dX3_nextNumber_26 ?_
        refine lv_aload_n hx hb dX3_nextNumber_29 rfl (lv_at hl 0 rfl) ?_
        refine va_get (D := D) (ci := 3) (v := .int u_this.1) (C := RX3) (T := TX3) (N := 7) hx hb hts (fun w h => List.mem_cons_of_mem _ (List.mem_append_right _ h)) hown hK hP 0 rfl rfl 1 (by decide) (hts _ (List.mem_of_getElem? (i := 4) rfl)) (fun _ h9 => h9) rfl dX3_nextNumber_30 ?_
        refine lv_icmp_ge (tgt := 93) hx hb dX3_nextNumber_33 (by decide) (fun c5 => ?_) (fun c5 => ?_)
        · have hM := xit c5 hM
          obtain rfl := hz2 _ (Option.some.inj hM).symm
          exact Kv8 _ _ _ hP hD hS (lv_sub hl [0, 1] rfl)
        · have hM := xif c5 hM
          refine lv_aload_n hx hb dX3_nextNumber_36 rfl (lv_at hl 0 rfl) ?_
          refine va_get (D := D) (ci := 3) (v := .ref h_this_bytes) (C := RX3) (T := TX3) (N := 7) hx hb hts (fun w h => List.mem_cons_of_mem _ (List.mem_append_right _ h)) hown hK hP 0 rfl rfl 0 (by decide) (hts _ (List.mem_of_getElem? (i := 1) rfl)) (fun _ h9 => h9) rfl dX3_nextNumber_37 ?_
          refine lv_aload_n hx hb dX3_nextNumber_40 rfl (lv_at hl 0 rfl) ?_
          refine va_get (D := D) (ci := 3) (v := .int v4.1) (C := RX3) (T := TX3) (N := 7) hx hb hts (fun w h => List.mem_cons_of_mem _ (List.mem_append_right _ h)) hown hK hP 0 rfl rfl 2 (by decide) (hts _ (List.mem_of_getElem? (i := 2) rfl)) (fun _ h9 => h9) rfl dX3_nextNumber_41 ?_
          obtain ⟨g6, hM⟩ := xck hM
          refine xald (v := (u_this_bytes v4.1.toNatClampNeg)) hx hb hK hP 1 0 rfl rfl g6 rfl dX3_nextNumber_44 ?_
          refine xafti (rv := (f_X3_isDigit (u_this_bytes v4.1.toNatClampNeg))) (W2 := [(h_this, .inr (3, o3 h_this_bytes (u_this.1, v4.1, u_this.2.2.1, u_this.2.2.2.1, v4.2, u_this.2.2.2.2.2))), (h_this_bytes, .inl (T.1, 300, .inl u_this_bytes))]) (va_runS (As := [.int (u_this_bytes v4.1.toNatClampNeg)]) (rest := []) ⟨hx, hb, hml, hown, hts⟩ (c_X3_isDigit (rv := (f_X3_isDigit (u_this_bytes v4.1.toNatClampNeg))) l D T (u_this_bytes v4.1.toNatClampNeg) rfl) (cwS 1 hts gX3_nextNumber_X3_isDigit rfl rfl rfl (by decide +kernel) ⟨Nat.le_of_ble_eq_true rfl, Nat.le_of_ble_eq_true rfl⟩) (xpvs hP hD hK [] (by decide) rfl (fun _ _ _ => trivial) (fun _ _ _ _ _ _ => trivial)) rfl rfl hl.1 rfl (lv_room (Nat.le_of_ble_eq_true rfl)) dX3_nextNumber_45 ⟨Nat.le_of_ble_eq_true rfl, Nat.le_of_ble_eq_true rfl⟩) hP hD hS hA [] rfl rfl rfl rfl (fun H locs hP hD hS => ?_)
          refine lv_if_eq (tgt := 93) hx hb dX3_nextNumber_48 (by decide) (fun c7 => ?_) (fun c7 => ?_)
          · have hM := xit c7 hM
            obtain rfl := hz2 _ (Option.some.inj hM).symm
            exact Kv8 _ _ _ hP hD hS (lv_sub hl [0, 1] rfl)
          · have hM := xif c7 hM
            refine lv_aload_n hx hb dX3_nextNumber_51 rfl (lv_at hl 0 rfl) ?_
            refine lv_bipush (v := 101) hx hb dX3_nextNumber_52 (by decide) ?_
            refine lv_bipush (v := 10) hx hb dX3_nextNumber_54 (by decide) ?_
            refine lv_aload_n hx hb dX3_nextNumber_56 rfl (lv_at hl 0 rfl) ?_
            refine va_get (D := D) (ci := 3) (v := .int v4.2) (C := RX3) (T := TX3) (N := 7) hx hb hts (fun w h => List.mem_cons_of_mem _ (List.mem_append_right _ h)) hown hK hP 0 rfl rfl 5 (by decide) (hts _ (List.mem_of_getElem? (i := 3) rfl)) (fun _ h9 => h9) rfl dX3_nextNumber_57 ?_
            refine lv_imul hx hb dX3_nextNumber_60 ?_
            refine lv_aload_n hx hb dX3_nextNumber_61 rfl (lv_at hl 0 rfl) ?_
            refine va_get (D := D) (ci := 3) (v := .ref h_this_bytes) (C := RX3) (T := TX3) (N := 7) hx hb hts (fun w h => List.mem_cons_of_mem _ (List.mem_append_right _ h)) hown hK hP 0 rfl rfl 0 (by decide) (hts _ (List.mem_of_getElem? (i := 1) rfl)) (fun _ h9 => h9) rfl dX3_nextNumber_62 ?_
            refine lv_aload_n hx hb dX3_nextNumber_65 rfl (lv_at hl 0 rfl) ?_
            refine va_get (D := D) (ci := 3) (v := .int v4.1) (C := RX3) (T := TX3) (N := 7) hx hb hts (fun w h => List.mem_cons_of_mem _ (List.mem_append_right _ h)) hown hK hP 0 rfl rfl 2 (by decide) (hts _ (List.mem_of_getElem? (i := 2) rfl)) (fun _ h9 => h9) rfl dX3_nextNumber_66 ?_
            refine xald (v := (u_this_bytes v4.1.toNatClampNeg)) hx hb hK hP 1 0 rfl rfl g6 rfl dX3_nextNumber_69 ?_
            refine lv_iadd hx hb dX3_nextNumber_70 ?_
            refine lv_bipush (v := 48) hx hb dX3_nextNumber_71 (by decide) ?_
            refine lv_isub hx hb dX3_nextNumber_73 ?_
            refine va_mmin hx hb (hml.trans hl.1.symm) hown (hts _ (List.mem_of_getElem? (i := 5) rfl)) (hts _ (List.mem_of_getElem? (i := 6) rfl)) (hts _ (List.mem_of_getElem? (i := 7) rfl)) (hts _ (List.mem_of_getElem? (i := 8) rfl)) (Nat.le_of_ble_eq_true rfl) (Nat.le_of_ble_eq_true rfl) (Nat.zero_le _) (Nat.zero_le _) dX3_nextNumber_74 ?_
            refine va_put (D := D) (ci := 3) (v := .int (xmin (101) ((((10) * v4.2) + (u_this_bytes v4.1.toNatClampNeg)) - (48)))) (C := RX3) (T := TX3) (N := 7) hx hb hts (fun w h => List.mem_cons_of_mem _ (List.mem_append_right _ h)) tyX3 tyX3_ok nmX3 hown hK hP hD hS 0 rfl rfl 5 (by decide) (hts _ (List.mem_of_getElem? (i := 3) rfl)) (fun _ h9 => h9) rfl (tyX3_ok 5 (by decide)) rfl rfl (Nat.le_of_ble_eq_true rfl) dX3_nextNumber_77 (fun H locs hP hD hS => ?_)
            have hP : va_P D vwCl [(h_this, .inr (3, o3 h_this_bytes (u_this.1, v4.1, u_this.2.2.1, u_this.2.2.2.1, (xmin (101) ((((10) * v4.2) + (u_this_bytes v4.1.toNatClampNeg)) - (48))), u_this.2.2.2.2.2))), (h_this_bytes, .inl (T.1, 300, .inl u_this_bytes))] H := hP
            have hD : va_D A [(h_this, .inr (3, o3 h_this_bytes (u_this.1, v4.1, u_this.2.2.1, u_this.2.2.2.1, (xmin (101) ((((10) * v4.2) + (u_this_bytes v4.1.toNatClampNeg)) - (48))), u_this.2.2.2.2.2))), (h_this_bytes, .inl (T.1, 300, .inl u_this_bytes))] := hD
            refine lv_aload_n hx hb dX3_nextNumber_80 rfl (lv_at hl 0 rfl) ?_
            refine lv_dup hx hb dX3_nextNumber_81 rfl ?_
            refine va_get (D := D) (ci := 3) (v := .int v4.1) (C := RX3) (T := TX3) (N := 7) hx hb hts (fun w h => List.mem_cons_of_mem _ (List.mem_append_right _ h)) hown hK hP 0 rfl rfl 2 (by decide) (hts _ (List.mem_of_getElem? (i := 2) rfl)) (fun _ h9 => h9) rfl dX3_nextNumber_82 ?_
            refine lv_iconst (v := 1) hx hb dX3_nextNumber_85 (by decide) ?_
            refine lv_iadd hx hb dX3_nextNumber_86 ?_
            refine va_put (D := D) (ci := 3) (v := .int (v4.1 + (1))) (C := RX3) (T := TX3) (N := 7) hx hb hts (fun w h => List.mem_cons_of_mem _ (List.mem_append_right _ h)) tyX3 tyX3_ok nmX3 hown hK hP hD hS 0 rfl rfl 2 (by decide) (hts _ (List.mem_of_getElem? (i := 2) rfl)) (fun _ h9 => h9) rfl (tyX3_ok 2 (by decide)) rfl rfl (Nat.le_of_ble_eq_true rfl) dX3_nextNumber_87 (fun H locs hP hD hS => ?_)
            have hP : va_P D vwCl [(h_this, .inr (3, o3 h_this_bytes (u_this.1, (v4.1 + (1)), u_this.2.2.1, u_this.2.2.2.1, (xmin (101) ((((10) * v4.2) + (u_this_bytes v4.1.toNatClampNeg)) - (48))), u_this.2.2.2.2.2))), (h_this_bytes, .inl (T.1, 300, .inl u_this_bytes))] H := hP
            have hD : va_D A [(h_this, .inr (3, o3 h_this_bytes (u_this.1, (v4.1 + (1)), u_this.2.2.1, u_this.2.2.2.1, (xmin (101) ((((10) * v4.2) + (u_this_bytes v4.1.toNatClampNeg)) - (48))), u_this.2.2.2.2.2))), (h_this_bytes, .inl (T.1, 300, .inl u_this_bytes))] := hD
            refine lv_goto (tgt := 25) hx hb dX3_nextNumber_90 (by decide) ?_
            exact ih _ (hz1 _ (Option.some.inj hM).symm) _ _ _ hP hD hS (lv_sub hl [0, 1] rfl)
    exact Lv4 _ _ hM _ _ _ hP hD hS (lv_sub hl [1, 0] rfl)
  refine lv_icmp_ne (tgt := 18) hx hb dX3_nextNumber_11 (by decide) (fun c2 => ?_) (fun c2 => ?_)
  · have hM := xif c2 hM
    refine lv_iconst (v := 0) hx hb dX3_nextNumber_18 (by decide) ?_
    obtain rfl := Option.some.inj hM
    exact Kv3 _ _ _ hP hD hS (lv_sub hl [0] rfl)
  · have hM := xit c2 hM
    refine lv_iconst (v := 1) hx hb dX3_nextNumber_14 (by decide) ?_
    refine lv_goto (tgt := 19) hx hb dX3_nextNumber_15 (by decide) ?_
    obtain rfl := Option.some.inj hM
    exact Kv3 _ _ _ hP hD hS (lv_sub hl [0] rfl)
def f_X3_isLetter (p1 : Int32) : Int32 :=
  if p1 < (97) then
   (0)
  else
   (if (122) < p1 then
     (0)
    else
     (1))
set_option maxHeartbeats 4000000 in
set_option maxRecDepth 100000 in
theorem c_X3_isLetter (l : Launch) (D : va_G) (T : xT)  {sz : Nat} (p1 : Int32) {rv : Int32} (hM : f_X3_isLetter p1 = rv) : Met l yX3_isLetter wsX3_isLetter ({ frames := 0, cells := 0, slots := 0, locals := 0 } : Room) (va_Pc [.int p1] (xPre D T [] sz xE0)) (va_Qi (fun (r : Int32) (_ : Unit) => r = rv) (fun _ => xPost D T [] (va_A [] sz)) (va_A [] sz)) 0 0 (va_A [] sz) := by
  refine xMet (av := [.int p1]) (Wd := []) (E := xE0) (Qc := fun A => (va_Qi (fun (r : Int32) (_ : Unit) => r = rv) (fun _ => xPost D T [] A) A)) (cc := cX3_isLetter) (maxL := 1) (ret := (some .boolean)) (by decide) rfl (Nat.le_of_ble_eq_true rfl) ?_
  intro p e s m below meth c A ls hx hb hr hml hts hown hlocks hnm hP hK hD hS hA hE hl
  have hown : s.vm.findClass RX3 = some m.cls := hown
  have hl : lv_has ls 1 [(0, .int p1)] := hl
  unfold f_X3_isLetter at hM
  refine lv_iload_n hx hb dX3_isLetter_0 rfl (lv_at hl 0 rfl) ?_
  refine lv_bipush (v := 97) hx hb dX3_isLetter_1 (by decide) ?_
  refine lv_icmp_lt (tgt := 16) hx hb dX3_isLetter_3 (by decide) (fun c1 => ?_) (fun c1 => ?_)
  · have hM := xit c1 hM
    refine lv_iconst (v := 0) hx hb dX3_isLetter_16 (by decide) ?_
    obtain rfl := hM
    exact xretz hx hb hr hlocks hP hK hD hS dX3_isLetter_17 rfl rfl
  · have hM := xif c1 hM
    refine lv_iload_n hx hb dX3_isLetter_6 rfl (lv_at hl 0 rfl) ?_
    refine lv_bipush (v := 122) hx hb dX3_isLetter_7 (by decide) ?_
    refine lv_icmp_gt (tgt := 16) hx hb dX3_isLetter_9 (by decide) (fun c2 => ?_) (fun c2 => ?_)
    · have hM := xit c2 hM
      refine lv_iconst (v := 0) hx hb dX3_isLetter_16 (by decide) ?_
      obtain rfl := hM
      exact xretz hx hb hr hlocks hP hK hD hS dX3_isLetter_17 rfl rfl
    · have hM := xif c2 hM
      refine lv_iconst (v := 1) hx hb dX3_isLetter_12 (by decide) ?_
      refine lv_goto (tgt := 17) hx hb dX3_isLetter_13 (by decide) ?_
      obtain rfl := hM
      exact xretz hx hb hr hlocks hP hK hD hS dX3_isLetter_17 rfl rfl
def f_X3_nameOf (p1 : Int32) : Nat :=
  if p1 = 0 then
   (0)
  else if p1 = 1 then
   (1)
  else if p1 = 2 then
   (2)
  else if p1 = 3 then
   (3)
  else if p1 = 4 then
   (4)
  else 
   (5)
theorem f_X3_nameOf_lt (a : Int32) : f_X3_nameOf a < 6 := by
  unfold f_X3_nameOf
  repeat' split
  all_goals decide
set_option maxHeartbeats 4000000 in
set_option maxRecDepth 100000 in
theorem c_X3_nameOf (l : Launch) (D : va_G) (T : xT) (k : xK)  {sz : Nat} (p1 : Int32) {rv : Nat} (hM : f_X3_nameOf p1 = rv) : Met l yX3_nameOf wsX3_nameOf ({ frames := 0, cells := 0, slots := 0, locals := 0 } : Room) (va_Pc [.int p1] (xPre D T [] sz (xE1 k))) (va_Qr (fun (_ : Unit) => True) (fun _ a t => a = k.2.1 rv ∧ xPost D T [] (va_A [] sz) t) (va_A [] sz)) 0 0 (va_A [] sz) := by
  refine xMet (av := [.int p1]) (Wd := []) (E := (xE1 k)) (Qc := fun A => (va_Qr (fun (_ : Unit) => True) (fun _ a t => a = k.2.1 rv ∧ xPost D T [] A t) A)) (cc := cX3_nameOf) (maxL := 1) (ret := (some (.object "java/lang/String"))) (by decide) rfl (Nat.le_of_ble_eq_true rfl) ?_
  intro p e s m below meth c A ls hx hb hr hml hts hown hlocks hnm hP hK hD hS hA hE hl
  have hown : s.vm.findClass RX3 = some m.cls := hown
  have hl : lv_has ls 1 [(0, .int p1)] := hl
  unfold f_X3_nameOf at hM
  refine lv_iload_n hx hb dX3_nameOf_0 rfl (lv_at hl 0 rfl) ?_
  by_cases c1 : p1 = 0
  · have hM := xit c1 hM
    refine lv_tableIn (off := 35) (tgt := 36) hx hb dX3_nameOf_1 (by rw [c1]; decide) (by rw [c1]; decide) (by rw [c1]; rfl) (by decide) ?_
    refine va_ldcS hx hb hown (xE1_R hE).1 dX3_nameOf_36 ?_
    obtain rfl := hM
    exact xreta hx hb hr hlocks hP hK hD hS dX3_nameOf_38 rfl
  · have hM := xif c1 hM
    by_cases c2 : p1 = 1
    · have hM := xit c2 hM
      refine lv_tableIn (off := 38) (tgt := 39) hx hb dX3_nameOf_1 (by rw [c2]; decide) (by rw [c2]; decide) (by rw [c2]; rfl) (by decide) ?_
      refine va_ldcS hx hb hown (xE1_R hE).2.1 dX3_nameOf_39 ?_
      obtain rfl := hM
      exact xreta hx hb hr hlocks hP hK hD hS dX3_nameOf_41 rfl
    · have hM := xif c2 hM
      by_cases c3 : p1 = 2
      · have hM := xit c3 hM
        refine lv_tableIn (off := 41) (tgt := 42) hx hb dX3_nameOf_1 (by rw [c3]; decide) (by rw [c3]; decide) (by rw [c3]; rfl) (by decide) ?_
        refine va_ldcS hx hb hown (xE1_R hE).2.2.1 dX3_nameOf_42 ?_
        obtain rfl := hM
        exact xreta hx hb hr hlocks hP hK hD hS dX3_nameOf_44 rfl
      · have hM := xif c3 hM
        by_cases c4 : p1 = 3
        · have hM := xit c4 hM
          refine lv_tableIn (off := 44) (tgt := 45) hx hb dX3_nameOf_1 (by rw [c4]; decide) (by rw [c4]; decide) (by rw [c4]; rfl) (by decide) ?_
          refine va_ldcS hx hb hown (xE1_R hE).2.2.2.1 dX3_nameOf_45 ?_
          obtain rfl := hM
          exact xreta hx hb hr hlocks hP hK hD hS dX3_nameOf_47 rfl
        · have hM := xif c4 hM
          by_cases c5 : p1 = 4
          · have hM := xit c5 hM
            refine lv_tableIn (off := 47) (tgt := 48) hx hb dX3_nameOf_1 (by rw [c5]; decide) (by rw [c5]; decide) (by rw [c5]; rfl) (by decide) ?_
            refine va_ldcS hx hb hown (xE1_R hE).2.2.2.2.1 dX3_nameOf_48 ?_
            obtain rfl := hM
            exact xreta hx hb hr hlocks hP hK hD hS dX3_nameOf_50 rfl
          · have hM := xif c5 hM
            refine lv_tableOut (tgt := 51) hx hb dX3_nameOf_1 (by have q0 := xsw c1 (show (0 : Int32).toInt = 0 by decide); have q1 := xsw c2 (show (1 : Int32).toInt = 1 by decide); have q2 := xsw c3 (show (2 : Int32).toInt = 2 by decide); have q3 := xsw c4 (show (3 : Int32).toInt = 3 by decide); have q4 := xsw c5 (show (4 : Int32).toInt = 4 by decide); omega) (by decide) ?_
            refine va_ldcS hx hb hown (xE1_R hE).2.2.2.2.2 dX3_nameOf_51 ?_
            obtain rfl := hM
            exact xreta hx hb hr hlocks hP hK hD hS dX3_nameOf_53 rfl
def s_X3_tokenIs_20 (u_this : K3) (u_this_bytes : (Nat → Int32)) (j1 : Nat) (v2 : Int32) : Option ((Int32) ⊕ (Int32)) :=
  if (nI (xlen.getD j1 0)) ≤ v2 then
   (some (.inr (1)))
  else
   (if xin (u_this.2.2.1 + v2) 300 = true then
    (if xin v2 (xlen.getD j1 0) = true then
     (if (u_this_bytes (u_this.2.2.1 + v2).toNatClampNeg) = (xch j1 v2) then
       (some (.inl (v2 + 1)))
      else
       (some (.inr (0))))
     else none)
    else none)
def f_X3_tokenIs (N : Nat) (u_this : K3) (u_this_bytes : (Nat → Int32)) (j1 : Nat) : Option (Int32) :=
  if (u_this.2.1 - u_this.2.2.1) = (nI (xlen.getD j1 0)) then
   (xlp (s_X3_tokenIs_20 u_this u_this_bytes j1) N (0))
  else
   (some (0))
set_option maxHeartbeats 4000000 in
set_option maxRecDepth 100000 in
theorem c_X3_tokenIs (l : Launch) (D : va_G) (T : xT) (k : xK) (h_this h_this_bytes : Nat) {sz : Nat} {N : Nat} (u_this : K3) (u_this_bytes : (Nat → Int32)) (j1 : Nat) (hj1 : j1 < 6) {rv : Int32} (hM : f_X3_tokenIs N u_this u_this_bytes j1 = some rv) : Met l yX3_tokenIs wsX3_tokenIs ({ frames := 4, cells := 0, slots := 0, locals := 85 } : Room) (va_Pc [.ref h_this, .ref (k.2.1 j1)] (xPre D T [(h_this, .inr (3, o3 h_this_bytes u_this)), (h_this_bytes, .inl (T.1, 300, .inl u_this_bytes))] sz (xE1 k))) (va_Qi (fun (r : Int32) (_ : Unit) => r = rv) (fun _ => xPost D T [(h_this, .inr (3, o3 h_this_bytes u_this)), (h_this_bytes, .inl (T.1, 300, .inl u_this_bytes))] (va_A [(h_this, .inr (3, o3 h_this_bytes u_this)), (h_this_bytes, .inl (T.1, 300, .inl u_this_bytes))] sz)) (va_A [(h_this, .inr (3, o3 h_this_bytes u_this)), (h_this_bytes, .inl (T.1, 300, .inl u_this_bytes))] sz)) 0 0 (va_A [(h_this, .inr (3, o3 h_this_bytes u_this)), (h_this_bytes, .inl (T.1, 300, .inl u_this_bytes))] sz) := by
  refine xMet (av := [.ref h_this, .ref (k.2.1 j1)]) (Wd := [(h_this, .inr (3, o3 h_this_bytes u_this)), (h_this_bytes, .inl (T.1, 300, .inl u_this_bytes))]) (E := (xE1 k)) (Qc := fun A => (va_Qi (fun (r : Int32) (_ : Unit) => r = rv) (fun _ => xPost D T [(h_this, .inr (3, o3 h_this_bytes u_this)), (h_this_bytes, .inl (T.1, 300, .inl u_this_bytes))] A) A)) (cc := cX3_tokenIs) (maxL := 3) (ret := (some .boolean)) (by decide) rfl (Nat.le_of_ble_eq_true rfl) ?_
  intro p e s m below meth c A ls hx hb hr hml hts hown hlocks hnm hP hK hD hS hA hE hl
  have hown : s.vm.findClass RX3 = some m.cls := hown
  have hl : lv_has ls 3 [(0, .ref h_this), (1, .ref (k.2.1 j1))] := hl
  unfold f_X3_tokenIs at hM
  refine lv_aload_n hx hb dX3_tokenIs_0 rfl (lv_at hl 0 rfl) ?_
  refine va_get (D := D) (ci := 3) (v := .int u_this.2.1) (C := RX3) (T := TX3) (N := 7) hx hb hts (fun w h => List.mem_cons_of_mem _ (List.mem_append_right _ h)) hown hK hP 0 rfl rfl 2 (by decide) (hts _ (List.mem_of_getElem? (i := 1) rfl)) (fun _ h9 => h9) rfl dX3_tokenIs_1 ?_
  refine lv_aload_n hx hb dX3_tokenIs_4 rfl (lv_at hl 0 rfl) ?_
  refine va_get (D := D) (ci := 3) (v := .int u_this.2.2.1) (C := RX3) (T := TX3) (N := 7) hx hb hts (fun w h => List.mem_cons_of_mem _ (List.mem_append_right _ h)) hown hK hP 0 rfl rfl 3 (by decide) (hts _ (List.mem_of_getElem? (i := 2) rfl)) (fun _ h9 => h9) rfl dX3_tokenIs_5 ?_
  refine lv_isub hx hb dX3_tokenIs_8 ?_
  refine lv_aload_n hx hb dX3_tokenIs_9 rfl (lv_at hl 1 rfl) ?_
  refine xafti (rv := (nI (xlen.getD j1 0))) (W2 := [(h_this, .inr (3, o3 h_this_bytes u_this)), (h_this_bytes, .inl (T.1, 300, .inl u_this_bytes))]) (va_runV (As := []) (rest := [.int (u_this.2.1 - u_this.2.2.1)]) ⟨hx, hb, hml, hown, hts⟩ (c_J0_length l D T k j1 hj1) (cwV 0 hts gX3_tokenIs_J0_length_8abf5 rfl rfl rfl (by decide +kernel) ⟨Nat.le_of_ble_eq_true rfl, Nat.le_of_ble_eq_true rfl⟩) (xpvS hj1 hP hD hK hE hS hA) rfl rfl hl.1 rfl (lv_room (Nat.le_of_ble_eq_true rfl)) dX3_tokenIs_10 ⟨Nat.le_of_ble_eq_true rfl, Nat.le_of_ble_eq_true rfl⟩) hP hD hS hA [] rfl rfl rfl rfl (fun H locs hP hD hS => ?_)
  refine lv_icmp_eq (tgt := 18) hx hb dX3_tokenIs_13 (by decide) (fun c1 => ?_) (fun c1 => ?_)
  · have hM := xit c1 hM
    refine lv_iconst (v := 0) hx hb dX3_tokenIs_18 (by decide) ?_
    refine lv_istore_n (lv' := [(2, .int (0)), (0, .ref h_this), (1, .ref (k.2.1 j1))]) hx hb dX3_tokenIs_19 rfl hl (by decide) rfl (fun ls hl => ?_)
    have Lv2 : ∀ (n : Nat) (v2 : Int32), xlp (s_X3_tokenIs_20 u_this u_this_bytes j1) n v2 = some rv → ∀ (H : Heap) (locs : List Loc) (ls : Array Slot), va_P D vwCl [(h_this, .inr (3, o3 h_this_bytes u_this)), (h_this_bytes, .inl (T.1, 300, .inl u_this_bytes))] H → va_D A [(h_this, .inr (3, o3 h_this_bytes u_this)), (h_this_bytes, .inl (T.1, 300, .inl u_this_bytes))] → va_S A s.heap H locs → lv_has ls 3 [(0, .ref h_this), (1, .ref (k.2.1 j1)), (2, .int v2)] → W p l e ({ frames := 4, cells := 0, slots := 0, locals := 85 } : Room) s m ([.ref h_this, .ref (k.2.1 j1)] : List Value).toArray below meth c H locs 0 0 (MQ below (va_Qi (fun (r : Int32) (_ : Unit) => r = rv) (fun _ => xPost D T [(h_this, .inr (3, o3 h_this_bytes u_this)), (h_this_bytes, .inl (T.1, 300, .inl u_this_bytes))] A) A) ([.ref h_this, .ref (k.2.1 j1)] : List Value).toArray s 0 0 A) (F0 m 20 ls []) := by
      intro n
      induction n with
      | zero => exact fun _ h => (xlp_0 h).elim
      | succ n ih =>
        intro v2 hM H locs ls hP hD hS hl
        obtain ⟨z, hM, hz1, hz2⟩ := xlp_s hM
        unfold s_X3_tokenIs_20 at hM
        refine lv_iload_n hx hb dX3_tokenIs_20 rfl (lv_at hl 2 rfl) ?_
        refine lv_aload_n hx hb dX3_tokenIs_21 rfl (lv_at hl 1 rfl) ?_
        refine xafti (rv := (nI (xlen.getD j1 0))) (W2 := [(h_this, .inr (3, o3 h_this_bytes u_this)), (h_this_bytes, .inl (T.1, 300, .inl u_this_bytes))]) (va_runV (As := []) (rest := [.int v2]) ⟨hx, hb, hml, hown, hts⟩ (c_J0_length l D T k j1 hj1) (cwV 0 hts gX3_tokenIs_J0_length_8abf5 rfl rfl rfl (by decide +kernel) ⟨Nat.le_of_ble_eq_true rfl, Nat.le_of_ble_eq_true rfl⟩) (xpvS hj1 hP hD hK hE hS hA) rfl rfl hl.1 rfl (lv_room (Nat.le_of_ble_eq_true rfl)) dX3_tokenIs_22 ⟨Nat.le_of_ble_eq_true rfl, Nat.le_of_ble_eq_true rfl⟩) hP hD hS hA [] rfl rfl rfl rfl (fun H locs hP hD hS => ?_)
        refine lv_icmp_ge (tgt := 55) hx hb dX3_tokenIs_25 (by decide) (fun c3 => ?_) (fun c3 => ?_)
        · have hM := xit c3 hM
          refine lv_iconst (v := 1) hx hb dX3_tokenIs_55 (by decide) ?_
          obtain rfl := hz2 _ (Option.some.inj hM).symm
          exact xretz hx hb hr hlocks hP hK hD hS dX3_tokenIs_56 rfl rfl
        · have hM := xif c3 hM
          refine lv_aload_n hx hb dX3_tokenIs_28 rfl (lv_at hl 0 rfl) ?_
          refine va_get (D := D) (ci := 3) (v := .ref h_this_bytes) (C := RX3) (T := TX3) (N := 7) hx hb hts (fun w h => List.mem_cons_of_mem _ (List.mem_append_right _ h)) hown hK hP 0 rfl rfl 0 (by decide) (hts _ (List.mem_of_getElem? (i := 3) rfl)) (fun _ h9 => h9) rfl dX3_tokenIs_29 ?_
          refine lv_aload_n hx hb dX3_tokenIs_32 rfl (lv_at hl 0 rfl) ?_
          refine va_get (D := D) (ci := 3) (v := .int u_this.2.2.1) (C := RX3) (T := TX3) (N := 7) hx hb hts (fun w h => List.mem_cons_of_mem _ (List.mem_append_right _ h)) hown hK hP 0 rfl rfl 3 (by decide) (hts _ (List.mem_of_getElem? (i := 2) rfl)) (fun _ h9 => h9) rfl dX3_tokenIs_33 ?_
          refine lv_iload_n hx hb dX3_tokenIs_36 rfl (lv_at hl 2 rfl) ?_
          refine lv_iadd hx hb dX3_tokenIs_37 ?_
          obtain ⟨g4, hM⟩ := xck hM
          refine xald (v := (u_this_bytes (u_this.2.2.1 + v2).toNatClampNeg)) hx hb hK hP 1 0 rfl rfl g4 rfl dX3_tokenIs_38 ?_
          refine lv_aload_n hx hb dX3_tokenIs_39 rfl (lv_at hl 1 rfl) ?_
          refine lv_iload_n hx hb dX3_tokenIs_40 rfl (lv_at hl 2 rfl) ?_
          obtain ⟨g5, hM⟩ := xck hM
          refine xafti (rv := (xch j1 v2)) (W2 := [(h_this, .inr (3, o3 h_this_bytes u_this)), (h_this_bytes, .inl (T.1, 300, .inl u_this_bytes))]) (va_runV (As := [.int v2]) (rest := [.int (u_this_bytes (u_this.2.2.1 + v2).toNatClampNeg)]) ⟨hx, hb, hml, hown, hts⟩ (c_J0_charAt l D T k j1 hj1 v2 g5) (cwV 1 hts gX3_tokenIs_J0_charAt_5068e rfl rfl rfl (by decide +kernel) ⟨Nat.le_of_ble_eq_true rfl, Nat.le_of_ble_eq_true rfl⟩) (xpvS hj1 hP hD hK hE hS hA) rfl rfl hl.1 rfl (lv_room (Nat.le_of_ble_eq_true rfl)) dX3_tokenIs_41 ⟨Nat.le_of_ble_eq_true rfl, Nat.le_of_ble_eq_true rfl⟩) hP hD hS hA [] rfl rfl rfl rfl (fun H locs hP hD hS => ?_)
          refine lv_icmp_eq (tgt := 49) hx hb dX3_tokenIs_44 (by decide) (fun c6 => ?_) (fun c6 => ?_)
          · have hM := xit c6 hM
            refine lv_iinc (v := v2 + 1) (lv' := [(2, .int (v2 + 1)), (0, .ref h_this), (1, .ref (k.2.1 j1))]) hx hb dX3_tokenIs_49 hl (k := 2) rfl rfl (by decide) rfl (fun ls hl => ?_)
            refine lv_goto (tgt := 20) hx hb dX3_tokenIs_52 (by decide) ?_
            exact ih _ (hz1 _ (Option.some.inj hM).symm) _ _ _ hP hD hS (lv_sub hl [1, 2, 0] rfl)
          · have hM := xif c6 hM
            refine lv_iconst (v := 0) hx hb dX3_tokenIs_47 (by decide) ?_
            obtain rfl := hz2 _ (Option.some.inj hM).symm
            exact xretz hx hb hr hlocks hP hK hD hS dX3_tokenIs_48 rfl rfl
    exact Lv2 _ _ hM _ _ _ hP hD hS (lv_sub hl [1, 2, 0] rfl)
  · have hM := xif c1 hM
    refine lv_iconst (v := 0) hx hb dX3_tokenIs_16 (by decide) ?_
    obtain rfl := Option.some.inj hM
    exact xretz hx hb hr hlocks hP hK hD hS dX3_tokenIs_17 rfl rfl
def s_X3_nextWord_0 (u_this : K3) (u_this_bytes : (Nat → Int32)) (v1 : Int32) : Option ((Int32) ⊕ (Int32)) :=
  if u_this.1 ≤ v1 then
   (some (.inr v1))
  else
   (if xin v1 300 = true then
    (if (f_X3_isLetter (u_this_bytes v1.toNatClampNeg)) = (0) then
      (some (.inr v1))
     else
      (some (.inl (v1 + (1)))))
    else none)
def s_X3_nextWord_46 (N : Nat) (u_this : K3) (u_this_bytes : (Nat → Int32)) (v5 : Int32) (v6 : Int32 × Int32 × Int32) : Option ((Int32 × Int32 × Int32) ⊕ (Int32 × Int32 × Int32)) :=
  if (6) ≤ v6.1 then
   (some (.inr (v6.1, v6.2.1, v6.2.2)))
  else
   ((f_X3_tokenIs N (u_this.1, v5, u_this.2.2.1, v6.2.1, v6.2.2, u_this.2.2.2.2.2) u_this_bytes (f_X3_nameOf v6.1)).bind fun r8 =>
    if r8 = (0) then
     (some (.inl (v6.1 + 1, v6.2.1, v6.2.2)))
    else
     (some (.inl (v6.1 + 1, 1, v6.1))))
def f_X3_nextWord (N : Nat) (u_this : K3) (u_this_bytes : (Nat → Int32)) : Option (K3) :=
  (xlp (s_X3_nextWord_0 u_this u_this_bytes) N u_this.2.1).bind fun v5 =>
  (xlp (s_X3_nextWord_46 N u_this u_this_bytes v5) N (0, 4, u_this.2.2.2.2.1)).bind fun v10 =>
  some (u_this.1, v5, u_this.2.2.1, v10.2.1, v10.2.2, u_this.2.2.2.2.2)
set_option maxHeartbeats 4000000 in
set_option maxRecDepth 100000 in
theorem c_X3_nextWord (l : Launch) (D : va_G) (T : xT) (k : xK) (h_this h_this_bytes : Nat) {sz : Nat} {N : Nat} (u_this : K3) (u_this_bytes : (Nat → Int32)) {rv : K3} (hM : f_X3_nextWord N u_this u_this_bytes = some rv) : Met l yX3_nextWord wsX3_nextWord ({ frames := 5, cells := 0, slots := 0, locals := 107 } : Room) (va_Pc [.ref h_this] (xPre D T [(h_this, .inr (3, o3 h_this_bytes u_this)), (h_this_bytes, .inl (T.1, 300, .inl u_this_bytes))] sz (xE1 k))) (va_Qv (fun (_ : Unit) => True) (fun _ => xPost D T [(h_this, .inr (3, o3 h_this_bytes rv)), (h_this_bytes, .inl (T.1, 300, .inl u_this_bytes))] (va_A [(h_this, .inr (3, o3 h_this_bytes u_this)), (h_this_bytes, .inl (T.1, 300, .inl u_this_bytes))] sz)) (va_A [(h_this, .inr (3, o3 h_this_bytes u_this)), (h_this_bytes, .inl (T.1, 300, .inl u_this_bytes))] sz)) 0 0 (va_A [(h_this, .inr (3, o3 h_this_bytes u_this)), (h_this_bytes, .inl (T.1, 300, .inl u_this_bytes))] sz) := by
  refine xMet (av := [.ref h_this]) (Wd := [(h_this, .inr (3, o3 h_this_bytes u_this)), (h_this_bytes, .inl (T.1, 300, .inl u_this_bytes))]) (E := (xE1 k)) (Qc := fun A => (va_Qv (fun (_ : Unit) => True) (fun _ => xPost D T [(h_this, .inr (3, o3 h_this_bytes rv)), (h_this_bytes, .inl (T.1, 300, .inl u_this_bytes))] A) A)) (cc := cX3_nextWord) (maxL := 2) (ret := none) (by decide) rfl (Nat.le_of_ble_eq_true rfl) ?_
  intro p e s m below meth c A ls hx hb hr hml hts hown hlocks hnm hP hK hD hS hA hE hl
  have hown : s.vm.findClass RX3 = some m.cls := hown
  have hl : lv_has ls 2 [(0, .ref h_this)] := hl
  unfold f_X3_nextWord at hM
  obtain ⟨v5, hM, hNv5⟩ := xbd hM
  have hQv5 := hM
  have Kv5 : ∀ (H : Heap) (locs : List Loc) (ls : Array Slot), va_P D vwCl [(h_this, .inr (3, o3 h_this_bytes (u_this.1, v5, u_this.2.2.1, u_this.2.2.2.1, u_this.2.2.2.2.1, u_this.2.2.2.2.2))), (h_this_bytes, .inl (T.1, 300, .inl u_this_bytes))] H → va_D A [(h_this, .inr (3, o3 h_this_bytes (u_this.1, v5, u_this.2.2.1, u_this.2.2.2.1, u_this.2.2.2.2.1, u_this.2.2.2.2.2))), (h_this_bytes, .inl (T.1, 300, .inl u_this_bytes))] → va_S A s.heap H locs → lv_has ls 2 [(0, .ref h_this)] → W p l e ({ frames := 5, cells := 0, slots := 0, locals := 107 } : Room) s m ([.ref h_this] : List Value).toArray below meth c H locs 0 0 (MQ below (va_Qv (fun (_ : Unit) => True) (fun _ => xPost D T [(h_this, .inr (3, o3 h_this_bytes rv)), (h_this_bytes, .inl (T.1, 300, .inl u_this_bytes))] A) A) ([.ref h_this] : List Value).toArray s 0 0 A) (F0 m 39 ls []) := by
    intro H locs ls hP hD hS hl
    have hM := hNv5
    refine lv_aload_n hx hb dX3_nextWord_39 rfl (lv_at hl 0 rfl) ?_
    refine lv_iconst (v := 4) hx hb dX3_nextWord_40 (by decide) ?_
    refine va_put (D := D) (ci := 3) (v := .int (4)) (C := RX3) (T := TX3) (N := 7) hx hb hts (fun w h => List.mem_cons_of_mem _ (List.mem_append_right _ h)) tyX3 tyX3_ok nmX3 hown hK hP hD hS 0 rfl rfl 4 (by decide) (hts _ (List.mem_of_getElem? (i := 4) rfl)) (fun _ h9 => h9) rfl (tyX3_ok 4 (by decide)) rfl rfl (Nat.le_of_ble_eq_true rfl) dX3_nextWord_41 (fun H locs hP hD hS => ?_)
    have hP : va_P D vwCl [(h_this, .inr (3, o3 h_this_bytes (u_this.1, v5, u_this.2.2.1, 4, u_this.2.2.2.2.1, u_this.2.2.2.2.2))), (h_this_bytes, .inl (T.1, 300, .inl u_this_bytes))] H := hP
    have hD : va_D A [(h_this, .inr (3, o3 h_this_bytes (u_this.1, v5, u_this.2.2.1, 4, u_this.2.2.2.2.1, u_this.2.2.2.2.2))), (h_this_bytes, .inl (T.1, 300, .inl u_this_bytes))] := hD
    refine lv_iconst (v := 0) hx hb dX3_nextWord_44 (by decide) ?_
    refine lv_istore_n (lv' := [(1, .int (0)), (0, .ref h_this)]) hx hb dX3_nextWord_45 rfl hl (by decide) rfl (fun ls hl => ?_)
    obtain ⟨v10, hM, hNv10⟩ := xbd hM
    have hQv10 := hM
    have Kv10 : ∀ (H : Heap) (locs : List Loc) (ls : Array Slot), va_P D vwCl [(h_this, .inr (3, o3 h_this_bytes (u_this.1, v5, u_this.2.2.1, v10.2.1, v10.2.2, u_this.2.2.2.2.2))), (h_this_bytes, .inl (T.1, 300, .inl u_this_bytes))] H → va_D A [(h_this, .inr (3, o3 h_this_bytes (u_this.1, v5, u_this.2.2.1, v10.2.1, v10.2.2, u_this.2.2.2.2.2))), (h_this_bytes, .inl (T.1, 300, .inl u_this_bytes))] → va_S A s.heap H locs → lv_has ls 2 [] → W p l e ({ frames := 5, cells := 0, slots := 0, locals := 107 } : Room) s m ([.ref h_this] : List Value).toArray below meth c H locs 0 0 (MQ below (va_Qv (fun (_ : Unit) => True) (fun _ => xPost D T [(h_this, .inr (3, o3 h_this_bytes rv)), (h_this_bytes, .inl (T.1, 300, .inl u_this_bytes))] A) A) ([.ref h_this] : List Value).toArray s 0 0 A) (F0 m 79 ls []) := by
      intro H locs ls hP hD hS hl
      have hM := hNv10
      obtain rfl := Option.some.inj hM
      exact xretv hx hb hr hlocks hP hK hD hS dX3_nextWord_79
    have Lv6 : ∀ (n : Nat) (v6 : Int32 × Int32 × Int32), xlp (s_X3_nextWord_46 N u_this u_this_bytes v5) n v6 = some v10 → ∀ (H : Heap) (locs : List Loc) (ls : Array Slot), va_P D vwCl [(h_this, .inr (3, o3 h_this_bytes (u_this.1, v5, u_this.2.2.1, v6.2.1, v6.2.2, u_this.2.2.2.2.2))), (h_this_bytes, .inl (T.1, 300, .inl u_this_bytes))] H → va_D A [(h_this, .inr (3, o3 h_this_bytes (u_this.1, v5, u_this.2.2.1, v6.2.1, v6.2.2, u_this.2.2.2.2.2))), (h_this_bytes, .inl (T.1, 300, .inl u_this_bytes))] → va_S A s.heap H locs → lv_has ls 2 [(0, .ref h_this), (1, .int v6.1)] → W p l e ({ frames := 5, cells := 0, slots := 0, locals := 107 } : Room) s m ([.ref h_this] : List Value).toArray below meth c H locs 0 0 (MQ below (va_Qv (fun (_ : Unit) => True) (fun _ => xPost D T [(h_this, .inr (3, o3 h_this_bytes rv)), (h_this_bytes, .inl (T.1, 300, .inl u_this_bytes))] A) A) ([.ref h_this] : List Value).toArray s 0 0 A) (F0 m 46 ls []) := by
      intro n
      induction n with
      | zero => exact fun _ h => (xlp_0 h).elim
      | succ n ih =>
        intro v6 hM H locs ls hP hD hS hl
        obtain ⟨z, hM, hz1, hz2⟩ := xlp_s hM
        unfold s_X3_nextWord_46 at hM
        refine lv_iload_n hx hb dX3_nextWord_46 rfl (lv_at hl 1 rfl) ?_
        refine lv_bipush (v := 6) hx hb dX3_nextWord_47 (by decide) ?_
        refine lv_icmp_ge (tgt := 79) hx hb dX3_nextWord_49 (by decide) (fun c7 => ?_) (fun c7 => ?_)
        · have hM := xit c7 hM
          obtain rfl := hz2 _ (Option.some.inj hM).symm
          exact Kv10 _ _ _ hP hD hS (lv_sub hl [] rfl)
        · have hM := xif c7 hM
          refine lv_aload_n hx hb dX3_nextWord_52 rfl (lv_at hl 0 rfl) ?_
          refine lv_iload_n hx hb dX3_nextWord_53 rfl (lv_at hl 1 rfl) ?_
          refine xafta (rv := k.2.1 (f_X3_nameOf v6.1)) (W2 := [(h_this, .inr (3, o3 h_this_bytes (u_this.1, v5, u_this.2.2.1, v6.2.1, v6.2.2, u_this.2.2.2.2.2))), (h_this_bytes, .inl (T.1, 300, .inl u_this_bytes))]) (va_runS (As := [.int v6.1]) (rest := [.ref h_this]) ⟨hx, hb, hml, hown, hts⟩ (c_X3_nameOf (rv := (f_X3_nameOf v6.1)) l D T k v6.1 rfl) (cwS 1 hts gX3_nextWord_X3_nameOf rfl rfl rfl (by decide +kernel) ⟨Nat.le_of_ble_eq_true rfl, Nat.le_of_ble_eq_true rfl⟩) (xpvs hP hD hK [] (by decide) rfl (fun U hU hW => xE1_at hE hS hU hW (va_free hD hS hA [] rfl)) xE1_blind) rfl rfl hl.1 rfl (lv_room (Nat.le_of_ble_eq_true rfl)) dX3_nextWord_54 ⟨Nat.le_of_ble_eq_true rfl, Nat.le_of_ble_eq_true rfl⟩) hP hD hS hA [] rfl rfl rfl rfl (fun H locs hP hD hS => ?_)
          obtain ⟨r8, er8, hM⟩ := xbd hM
          refine xafti (rv := r8) (W2 := [(h_this, .inr (3, o3 h_this_bytes (u_this.1, v5, u_this.2.2.1, v6.2.1, v6.2.2, u_this.2.2.2.2.2))), (h_this_bytes, .inl (T.1, 300, .inl u_this_bytes))]) (va_runV (As := [.ref (k.2.1 (f_X3_nameOf v6.1))]) (rest := []) ⟨hx, hb, hml, hown, hts⟩ (c_X3_tokenIs l D T k h_this h_this_bytes (u_this.1, v5, u_this.2.2.1, v6.2.1, v6.2.2, u_this.2.2.2.2.2) u_this_bytes (f_X3_nameOf v6.1) (f_X3_nameOf_lt _) er8) (cwV 1 hts gX3_nextWord_X3_tokenIs rfl rfl rfl (by decide +kernel) ⟨Nat.le_of_ble_eq_true rfl, Nat.le_of_ble_eq_true rfl⟩) (xpvv hP hD hK [0, 1] (by decide) rfl 0 3 rfl rfl (fun U hU hW => xE1_at hE hS hU hW (va_free hD hS hA [0, 1] rfl)) xE1_blind) rfl rfl hl.1 rfl (lv_room (Nat.le_of_ble_eq_true rfl)) dX3_nextWord_57 ⟨Nat.le_of_ble_eq_true rfl, Nat.le_of_ble_eq_true rfl⟩) hP hD hS hA [0, 1] rfl rfl rfl rfl (fun H locs hP hD hS => ?_)
          refine lv_if_eq (tgt := 73) hx hb dX3_nextWord_60 (by decide) (fun c9 => ?_) (fun c9 => ?_)
          · have hM := xit c9 hM
            refine lv_iinc (v := v6.1 + 1) (lv' := [(1, .int (v6.1 + 1)), (0, .ref h_this)]) hx hb dX3_nextWord_73 hl (k := 1) rfl rfl (by decide) rfl (fun ls hl => ?_)
            refine lv_goto (tgt := 46) hx hb dX3_nextWord_76 (by decide) ?_
            exact ih _ (hz1 _ (Option.some.inj hM).symm) _ _ _ hP hD hS (lv_sub hl [1, 0] rfl)
          · have hM := xif c9 hM
            refine lv_aload_n hx hb dX3_nextWord_63 rfl (lv_at hl 0 rfl) ?_
            refine lv_iconst (v := 1) hx hb dX3_nextWord_64 (by decide) ?_
            refine va_put (D := D) (ci := 3) (v := .int (1)) (C := RX3) (T := TX3) (N := 7) hx hb hts (fun w h => List.mem_cons_of_mem _ (List.mem_append_right _ h)) tyX3 tyX3_ok nmX3 hown hK hP hD hS 0 rfl rfl 4 (by decide) (hts _ (List.mem_of_getElem? (i := 4) rfl)) (fun _ h9 => h9) rfl (tyX3_ok 4 (by decide)) rfl rfl (Nat.le_of_ble_eq_true rfl) dX3_nextWord_65 (fun H locs hP hD hS => ?_)
            have hP : va_P D vwCl [(h_this, .inr (3, o3 h_this_bytes (u_this.1, v5, u_this.2.2.1, 1, v6.2.2, u_this.2.2.2.2.2))), (h_this_bytes, .inl (T.1, 300, .inl u_this_bytes))] H := hP
            have hD : va_D A [(h_this, .inr (3, o3 h_this_bytes (u_this.1, v5, u_this.2.2.1, 1, v6.2.2, u_this.2.2.2.2.2))), (h_this_bytes, .inl (T.1, 300, .inl u_this_bytes))] := hD
            refine lv_aload_n hx hb dX3_nextWord_68 rfl (lv_at hl 0 rfl) ?_
            refine lv_iload_n hx hb dX3_nextWord_69 rfl (lv_at hl 1 rfl) ?_
            refine va_put (D := D) (ci := 3) (v := .int v6.1) (C := RX3) (T := TX3) (N := 7) hx hb hts (fun w h => List.mem_cons_of_mem _ (List.mem_append_right _ h)) tyX3 tyX3_ok nmX3 hown hK hP hD hS 0 rfl rfl 5 (by decide) (hts _ (List.mem_of_getElem? (i := 5) rfl)) (fun _ h9 => h9) rfl (tyX3_ok 5 (by decide)) rfl rfl (Nat.le_of_ble_eq_true rfl) dX3_nextWord_70 (fun H locs hP hD hS => ?_)
            have hP : va_P D vwCl [(h_this, .inr (3, o3 h_this_bytes (u_this.1, v5, u_this.2.2.1, 1, v6.1, u_this.2.2.2.2.2))), (h_this_bytes, .inl (T.1, 300, .inl u_this_bytes))] H := hP
            have hD : va_D A [(h_this, .inr (3, o3 h_this_bytes (u_this.1, v5, u_this.2.2.1, 1, v6.1, u_this.2.2.2.2.2))), (h_this_bytes, .inl (T.1, 300, .inl u_this_bytes))] := hD
            refine lv_iinc (v := v6.1 + 1) (lv' := [(1, .int (v6.1 + 1)), (0, .ref h_this)]) hx hb dX3_nextWord_73 hl (k := 1) rfl rfl (by decide) rfl (fun ls hl => ?_)
            refine lv_goto (tgt := 46) hx hb dX3_nextWord_76 (by decide) ?_
            exact ih _ (hz1 _ (Option.some.inj hM).symm) _ _ _ hP hD hS (lv_sub hl [1, 0] rfl)
    exact Lv6 _ _ hM _ _ _ hP hD hS (lv_sub hl [1, 0] rfl)
  have Lv1 : ∀ (n : Nat) (v1 : Int32), xlp (s_X3_nextWord_0 u_this u_this_bytes) n v1 = some v5 → ∀ (H : Heap) (locs : List Loc) (ls : Array Slot), va_P D vwCl [(h_this, .inr (3, o3 h_this_bytes (u_this.1, v1, u_this.2.2.1, u_this.2.2.2.1, u_this.2.2.2.2.1, u_this.2.2.2.2.2))), (h_this_bytes, .inl (T.1, 300, .inl u_this_bytes))] H → va_D A [(h_this, .inr (3, o3 h_this_bytes (u_this.1, v1, u_this.2.2.1, u_this.2.2.2.1, u_this.2.2.2.2.1, u_this.2.2.2.2.2))), (h_this_bytes, .inl (T.1, 300, .inl u_this_bytes))] → va_S A s.heap H locs → lv_has ls 2 [(0, .ref h_this)] → W p l e ({ frames := 5, cells := 0, slots := 0, locals := 107 } : Room) s m ([.ref h_this] : List Value).toArray below meth c H locs 0 0 (MQ below (va_Qv (fun (_ : Unit) => True) (fun _ => xPost D T [(h_this, .inr (3, o3 h_this_bytes rv)), (h_this_bytes, .inl (T.1, 300, .inl u_this_bytes))] A) A) ([.ref h_this] : List Value).toArray s 0 0 A) (F0 m 0 ls []) := by
    intro n
    induction n with
    | zero => exact fun _ h => (xlp_0 h).elim
    | succ n ih =>
      intro v1 hM H locs ls hP hD hS hl
      obtain ⟨z, hM, hz1, hz2⟩ := xlp_s hM
      unfold s_X3_nextWord_0 at hM
      refine lv_aload_n hx hb dX3_nextWord_0 rfl (lv_at hl 0 rfl) ?_
      refine va_get (D := D) (ci := 3) (v := .int v1) (C := RX3) (T := TX3) (N := 7) hx hb hts (fun w h => List.mem_cons_of_mem _ (List.mem_append_right _ h)) hown hK hP 0 rfl rfl 2 (by decide) (hts _ (List.mem_of_getElem? (i := 1) rfl)) (fun _ h9 => h9) rfl dX3_nextWord_1 ?_
      refine lv_aload_n hx hb dX3_nextWord_4 rfl (lv_at hl 0 rfl) ?_
      refine va_get (D := D) (ci := 3) (v := .int u_this.1) (C := RX3) (T := TX3) (N := 7) hx hb hts (fun w h => List.mem_cons_of_mem _ (List.mem_append_right _ h)) hown hK hP 0 rfl rfl 1 (by decide) (hts _ (List.mem_of_getElem? (i := 2) rfl)) (fun _ h9 => h9) rfl dX3_nextWord_5 ?_
      refine lv_icmp_ge (tgt := 39) hx hb dX3_nextWord_8 (by decide) (fun c2 => ?_) (fun c2 => ?_)
      · have hM := xit c2 hM
        obtain rfl := hz2 _ (Option.some.inj hM).symm
        exact Kv5 _ _ _ hP hD hS (lv_sub hl [0] rfl)
      · have hM := xif c2 hM
        refine lv_aload_n hx hb dX3_nextWord_11 rfl (lv_at hl 0 rfl) ?_
        refine va_get (D := D) (ci := 3) (v := .ref h_this_bytes) (C := RX3) (T := TX3) (N := 7) hx hb hts (fun w h => List.mem_cons_of_mem _ (List.mem_append_right _ h)) hown hK hP 0 rfl rfl 0 (by decide) (hts _ (List.mem_of_getElem? (i := 3) rfl)) (fun _ h9 => h9) rfl dX3_nextWord_12 ?_
        refine lv_aload_n hx hb dX3_nextWord_15 rfl (lv_at hl 0 rfl) ?_
        refine va_get (D := D) (ci := 3) (v := .int v1) (C := RX3) (T := TX3) (N := 7) hx hb hts (fun w h => List.mem_cons_of_mem _ (List.mem_append_right _ h)) hown hK hP 0 rfl rfl 2 (by decide) (hts _ (List.mem_of_getElem? (i := 1) rfl)) (fun _ h9 => h9) rfl dX3_nextWord_16 ?_
        obtain ⟨g3, hM⟩ := xck hM
        refine xald (v := (u_this_bytes v1.toNatClampNeg)) hx hb hK hP 1 0 rfl rfl g3 rfl dX3_nextWord_19 ?_
        refine xafti (rv := (f_X3_isLetter (u_this_bytes v1.toNatClampNeg))) (W2 := [(h_this, .inr (3, o3 h_this_bytes (u_this.1, v1, u_this.2.2.1, u_this.2.2.2.1, u_this.2.2.2.2.1, u_this.2.2.2.2.2))), (h_this_bytes, .inl (T.1, 300, .inl u_this_bytes))]) (va_runS (As := [.int (u_this_bytes v1.toNatClampNeg)]) (rest := []) ⟨hx, hb, hml, hown, hts⟩ (c_X3_isLetter (rv := (f_X3_isLetter (u_this_bytes v1.toNatClampNeg))) l D T (u_this_bytes v1.toNatClampNeg) rfl) (cwS 1 hts gX3_nextWord_X3_isLetter rfl rfl rfl (by decide +kernel) ⟨Nat.le_of_ble_eq_true rfl, Nat.le_of_ble_eq_true rfl⟩) (xpvs hP hD hK [] (by decide) rfl (fun _ _ _ => trivial) (fun _ _ _ _ _ _ => trivial)) rfl rfl hl.1 rfl (lv_room (Nat.le_of_ble_eq_true rfl)) dX3_nextWord_20 ⟨Nat.le_of_ble_eq_true rfl, Nat.le_of_ble_eq_true rfl⟩) hP hD hS hA [] rfl rfl rfl rfl (fun H locs hP hD hS => ?_)
        refine lv_if_eq (tgt := 39) hx hb dX3_nextWord_23 (by decide) (fun c4 => ?_) (fun c4 => ?_)
        · have hM := xit c4 hM
          obtain rfl := hz2 _ (Option.some.inj hM).symm
          exact Kv5 _ _ _ hP hD hS (lv_sub hl [0] rfl)
        · have hM := xif c4 hM
          refine lv_aload_n hx hb dX3_nextWord_26 rfl (lv_at hl 0 rfl) ?_
          refine lv_dup hx hb dX3_nextWord_27 rfl ?_
          refine va_get (D := D) (ci := 3) (v := .int v1) (C := RX3) (T := TX3) (N := 7) hx hb hts (fun w h => List.mem_cons_of_mem _ (List.mem_append_right _ h)) hown hK hP 0 rfl rfl 2 (by decide) (hts _ (List.mem_of_getElem? (i := 1) rfl)) (fun _ h9 => h9) rfl dX3_nextWord_28 ?_
          refine lv_iconst (v := 1) hx hb dX3_nextWord_31 (by decide) ?_
          refine lv_iadd hx hb dX3_nextWord_32 ?_
          refine va_put (D := D) (ci := 3) (v := .int (v1 + (1))) (C := RX3) (T := TX3) (N := 7) hx hb hts (fun w h => List.mem_cons_of_mem _ (List.mem_append_right _ h)) tyX3 tyX3_ok nmX3 hown hK hP hD hS 0 rfl rfl 2 (by decide) (hts _ (List.mem_of_getElem? (i := 1) rfl)) (fun _ h9 => h9) rfl (tyX3_ok 2 (by decide)) rfl rfl (Nat.le_of_ble_eq_true rfl) dX3_nextWord_33 (fun H locs hP hD hS => ?_)
          have hP : va_P D vwCl [(h_this, .inr (3, o3 h_this_bytes (u_this.1, (v1 + (1)), u_this.2.2.1, u_this.2.2.2.1, u_this.2.2.2.2.1, u_this.2.2.2.2.2))), (h_this_bytes, .inl (T.1, 300, .inl u_this_bytes))] H := hP
          have hD : va_D A [(h_this, .inr (3, o3 h_this_bytes (u_this.1, (v1 + (1)), u_this.2.2.1, u_this.2.2.2.1, u_this.2.2.2.2.1, u_this.2.2.2.2.2))), (h_this_bytes, .inl (T.1, 300, .inl u_this_bytes))] := hD
          refine lv_goto (tgt := 0) hx hb dX3_nextWord_36 (by decide) ?_
          exact ih _ (hz1 _ (Option.some.inj hM).symm) _ _ _ hP hD hS (lv_sub hl [0] rfl)
  exact Lv1 _ _ hM _ _ _ hP hD hS (lv_sub hl [0] rfl)
def s_X3_nextToken_0 (u_this : K3) (u_this_bytes : (Nat → Int32)) (v1 : Int32) : Option ((Int32) ⊕ (Int32)) :=
  if u_this.1 ≤ v1 then
   (some (.inr v1))
  else
   (if xin v1 300 = true then
    (if (u_this_bytes v1.toNatClampNeg) = (32) then
      (some (.inl (v1 + (1))))
     else
      (some (.inr v1)))
    else none)
def f_X3_nextToken (N : Nat) (u_this : K3) (u_this_bytes : (Nat → Int32)) : Option (K3) :=
  (xlp (s_X3_nextToken_0 u_this u_this_bytes) N u_this.2.1).bind fun v5 =>
  if v5 < u_this.1 then
   (if xin v5 300 = true then
    (if (u_this_bytes v5.toNatClampNeg) = (59) then
      (some (u_this.1, (v5 + (1)), v5, 3, u_this.2.2.2.2.1, u_this.2.2.2.2.2))
     else
      (if (f_X3_isDigit (u_this_bytes v5.toNatClampNeg)) = (0) then
        (if (f_X3_isLetter (u_this_bytes v5.toNatClampNeg)) = (0) then
          (some (u_this.1, v5, v5, 4, u_this.2.2.2.2.1, u_this.2.2.2.2.2))
         else
          ((f_X3_nextWord N (u_this.1, v5, v5, u_this.2.2.2.1, u_this.2.2.2.2.1, u_this.2.2.2.2.2) u_this_bytes).bind fun r11 =>
           some r11))
       else
        ((f_X3_nextNumber N (u_this.1, v5, v5, u_this.2.2.2.1, u_this.2.2.2.2.1, u_this.2.2.2.2.2) u_this_bytes).bind fun r12 =>
         some r12)))
    else none)
  else
   (some (u_this.1, v5, v5, 0, u_this.2.2.2.2.1, u_this.2.2.2.2.2))
set_option maxHeartbeats 4000000 in
set_option maxRecDepth 100000 in
theorem c_X3_nextToken (l : Launch) (D : va_G) (T : xT) (k : xK) (h_this h_this_bytes : Nat) {sz : Nat} {N : Nat} (u_this : K3) (u_this_bytes : (Nat → Int32)) {rv : K3} (hM : f_X3_nextToken N u_this u_this_bytes = some rv) : Met l yX3_nextToken wsX3_nextToken ({ frames := 6, cells := 0, slots := 0, locals := 128 } : Room) (va_Pc [.ref h_this] (xPre D T [(h_this, .inr (3, o3 h_this_bytes u_this)), (h_this_bytes, .inl (T.1, 300, .inl u_this_bytes))] sz (xE1 k))) (va_Qv (fun (_ : Unit) => True) (fun _ => xPost D T [(h_this, .inr (3, o3 h_this_bytes rv)), (h_this_bytes, .inl (T.1, 300, .inl u_this_bytes))] (va_A [(h_this, .inr (3, o3 h_this_bytes u_this)), (h_this_bytes, .inl (T.1, 300, .inl u_this_bytes))] sz)) (va_A [(h_this, .inr (3, o3 h_this_bytes u_this)), (h_this_bytes, .inl (T.1, 300, .inl u_this_bytes))] sz)) 0 0 (va_A [(h_this, .inr (3, o3 h_this_bytes u_this)), (h_this_bytes, .inl (T.1, 300, .inl u_this_bytes))] sz) := by
  refine xMet (av := [.ref h_this]) (Wd := [(h_this, .inr (3, o3 h_this_bytes u_this)), (h_this_bytes, .inl (T.1, 300, .inl u_this_bytes))]) (E := (xE1 k)) (Qc := fun A => (va_Qv (fun (_ : Unit) => True) (fun _ => xPost D T [(h_this, .inr (3, o3 h_this_bytes rv)), (h_this_bytes, .inl (T.1, 300, .inl u_this_bytes))] A) A)) (cc := cX3_nextToken) (maxL := 1) (ret := none) (by decide) rfl (Nat.le_of_ble_eq_true rfl) ?_
  intro p e s m below meth c A ls hx hb hr hml hts hown hlocks hnm hP hK hD hS hA hE hl
  have hown : s.vm.findClass RX3 = some m.cls := hown
  have hl : lv_has ls 1 [(0, .ref h_this)] := hl
  unfold f_X3_nextToken at hM
  obtain ⟨v5, hM, hNv5⟩ := xbd hM
  have hQv5 := hM
  have Kv5 : ∀ (H : Heap) (locs : List Loc) (ls : Array Slot), va_P D vwCl [(h_this, .inr (3, o3 h_this_bytes (u_this.1, v5, u_this.2.2.1, u_this.2.2.2.1, u_this.2.2.2.2.1, u_this.2.2.2.2.2))), (h_this_bytes, .inl (T.1, 300, .inl u_this_bytes))] H → va_D A [(h_this, .inr (3, o3 h_this_bytes (u_this.1, v5, u_this.2.2.1, u_this.2.2.2.1, u_this.2.2.2.2.1, u_this.2.2.2.2.2))), (h_this_bytes, .inl (T.1, 300, .inl u_this_bytes))] → va_S A s.heap H locs → lv_has ls 1 [(0, .ref h_this)] → W p l e ({ frames := 6, cells := 0, slots := 0, locals := 128 } : Room) s m ([.ref h_this] : List Value).toArray below meth c H locs 0 0 (MQ below (va_Qv (fun (_ : Unit) => True) (fun _ => xPost D T [(h_this, .inr (3, o3 h_this_bytes rv)), (h_this_bytes, .inl (T.1, 300, .inl u_this_bytes))] A) A) ([.ref h_this] : List Value).toArray s 0 0 A) (F0 m 38 ls []) := by
    intro H locs ls hP hD hS hl
    have hM := hNv5
    refine lv_aload_n hx hb dX3_nextToken_38 rfl (lv_at hl 0 rfl) ?_
    refine lv_aload_n hx hb dX3_nextToken_39 rfl (lv_at hl 0 rfl) ?_
    refine va_get (D := D) (ci := 3) (v := .int v5) (C := RX3) (T := TX3) (N := 7) hx hb hts (fun w h => List.mem_cons_of_mem _ (List.mem_append_right _ h)) hown hK hP 0 rfl rfl 2 (by decide) (hts _ (List.mem_of_getElem? (i := 1) rfl)) (fun _ h9 => h9) rfl dX3_nextToken_40 ?_
    refine va_put (D := D) (ci := 3) (v := .int v5) (C := RX3) (T := TX3) (N := 7) hx hb hts (fun w h => List.mem_cons_of_mem _ (List.mem_append_right _ h)) tyX3 tyX3_ok nmX3 hown hK hP hD hS 0 rfl rfl 3 (by decide) (hts _ (List.mem_of_getElem? (i := 4) rfl)) (fun _ h9 => h9) rfl (tyX3_ok 3 (by decide)) rfl rfl (Nat.le_of_ble_eq_true rfl) dX3_nextToken_43 (fun H locs hP hD hS => ?_)
    have hP : va_P D vwCl [(h_this, .inr (3, o3 h_this_bytes (u_this.1, v5, v5, u_this.2.2.2.1, u_this.2.2.2.2.1, u_this.2.2.2.2.2))), (h_this_bytes, .inl (T.1, 300, .inl u_this_bytes))] H := hP
    have hD : va_D A [(h_this, .inr (3, o3 h_this_bytes (u_this.1, v5, v5, u_this.2.2.2.1, u_this.2.2.2.2.1, u_this.2.2.2.2.2))), (h_this_bytes, .inl (T.1, 300, .inl u_this_bytes))] := hD
    refine lv_aload_n hx hb dX3_nextToken_46 rfl (lv_at hl 0 rfl) ?_
    refine va_get (D := D) (ci := 3) (v := .int v5) (C := RX3) (T := TX3) (N := 7) hx hb hts (fun w h => List.mem_cons_of_mem _ (List.mem_append_right _ h)) hown hK hP 0 rfl rfl 2 (by decide) (hts _ (List.mem_of_getElem? (i := 1) rfl)) (fun _ h9 => h9) rfl dX3_nextToken_47 ?_
    refine lv_aload_n hx hb dX3_nextToken_50 rfl (lv_at hl 0 rfl) ?_
    refine va_get (D := D) (ci := 3) (v := .int u_this.1) (C := RX3) (T := TX3) (N := 7) hx hb hts (fun w h => List.mem_cons_of_mem _ (List.mem_append_right _ h)) hown hK hP 0 rfl rfl 1 (by decide) (hts _ (List.mem_of_getElem? (i := 2) rfl)) (fun _ h9 => h9) rfl dX3_nextToken_51 ?_
    refine lv_icmp_lt (tgt := 65) hx hb dX3_nextToken_54 (by decide) (fun c6 => ?_) (fun c6 => ?_)
    · have hM := xit c6 hM
      refine lv_aload_n hx hb dX3_nextToken_65 rfl (lv_at hl 0 rfl) ?_
      refine va_get (D := D) (ci := 3) (v := .ref h_this_bytes) (C := RX3) (T := TX3) (N := 7) hx hb hts (fun w h => List.mem_cons_of_mem _ (List.mem_append_right _ h)) hown hK hP 0 rfl rfl 0 (by decide) (hts _ (List.mem_of_getElem? (i := 3) rfl)) (fun _ h9 => h9) rfl dX3_nextToken_66 ?_
      refine lv_aload_n hx hb dX3_nextToken_69 rfl (lv_at hl 0 rfl) ?_
      refine va_get (D := D) (ci := 3) (v := .int v5) (C := RX3) (T := TX3) (N := 7) hx hb hts (fun w h => List.mem_cons_of_mem _ (List.mem_append_right _ h)) hown hK hP 0 rfl rfl 2 (by decide) (hts _ (List.mem_of_getElem? (i := 1) rfl)) (fun _ h9 => h9) rfl dX3_nextToken_70 ?_
      obtain ⟨g7, hM⟩ := xck hM
      refine xald (v := (u_this_bytes v5.toNatClampNeg)) hx hb hK hP 1 0 rfl rfl g7 rfl dX3_nextToken_73 ?_
      refine lv_bipush (v := 59) hx hb dX3_nextToken_74 (by decide) ?_
      refine lv_icmp_ne (tgt := 97) hx hb dX3_nextToken_76 (by decide) (fun c8 => ?_) (fun c8 => ?_)
      · have hM := xif c8 hM
        refine lv_aload_n hx hb dX3_nextToken_97 rfl (lv_at hl 0 rfl) ?_
        refine va_get (D := D) (ci := 3) (v := .ref h_this_bytes) (C := RX3) (T := TX3) (N := 7) hx hb hts (fun w h => List.mem_cons_of_mem _ (List.mem_append_right _ h)) hown hK hP 0 rfl rfl 0 (by decide) (hts _ (List.mem_of_getElem? (i := 3) rfl)) (fun _ h9 => h9) rfl dX3_nextToken_98 ?_
        refine lv_aload_n hx hb dX3_nextToken_101 rfl (lv_at hl 0 rfl) ?_
        refine va_get (D := D) (ci := 3) (v := .int v5) (C := RX3) (T := TX3) (N := 7) hx hb hts (fun w h => List.mem_cons_of_mem _ (List.mem_append_right _ h)) hown hK hP 0 rfl rfl 2 (by decide) (hts _ (List.mem_of_getElem? (i := 1) rfl)) (fun _ h9 => h9) rfl dX3_nextToken_102 ?_
        refine xald (v := (u_this_bytes v5.toNatClampNeg)) hx hb hK hP 1 0 rfl rfl g7 rfl dX3_nextToken_105 ?_
        refine xafti (rv := (f_X3_isDigit (u_this_bytes v5.toNatClampNeg))) (W2 := [(h_this, .inr (3, o3 h_this_bytes (u_this.1, v5, v5, u_this.2.2.2.1, u_this.2.2.2.2.1, u_this.2.2.2.2.2))), (h_this_bytes, .inl (T.1, 300, .inl u_this_bytes))]) (va_runS (As := [.int (u_this_bytes v5.toNatClampNeg)]) (rest := []) ⟨hx, hb, hml, hown, hts⟩ (c_X3_isDigit (rv := (f_X3_isDigit (u_this_bytes v5.toNatClampNeg))) l D T (u_this_bytes v5.toNatClampNeg) rfl) (cwS 1 hts gX3_nextToken_X3_isDigit rfl rfl rfl (by decide +kernel) ⟨Nat.le_of_ble_eq_true rfl, Nat.le_of_ble_eq_true rfl⟩) (xpvs hP hD hK [] (by decide) rfl (fun _ _ _ => trivial) (fun _ _ _ _ _ _ => trivial)) rfl rfl hl.1 rfl (lv_room (Nat.le_of_ble_eq_true rfl)) dX3_nextToken_106 ⟨Nat.le_of_ble_eq_true rfl, Nat.le_of_ble_eq_true rfl⟩) hP hD hS hA [] rfl rfl rfl rfl (fun H locs hP hD hS => ?_)
        refine lv_if_eq (tgt := 119) hx hb dX3_nextToken_109 (by decide) (fun c9 => ?_) (fun c9 => ?_)
        · have hM := xit c9 hM
          refine lv_aload_n hx hb dX3_nextToken_119 rfl (lv_at hl 0 rfl) ?_
          refine va_get (D := D) (ci := 3) (v := .ref h_this_bytes) (C := RX3) (T := TX3) (N := 7) hx hb hts (fun w h => List.mem_cons_of_mem _ (List.mem_append_right _ h)) hown hK hP 0 rfl rfl 0 (by decide) (hts _ (List.mem_of_getElem? (i := 3) rfl)) (fun _ h9 => h9) rfl dX3_nextToken_120 ?_
          refine lv_aload_n hx hb dX3_nextToken_123 rfl (lv_at hl 0 rfl) ?_
          refine va_get (D := D) (ci := 3) (v := .int v5) (C := RX3) (T := TX3) (N := 7) hx hb hts (fun w h => List.mem_cons_of_mem _ (List.mem_append_right _ h)) hown hK hP 0 rfl rfl 2 (by decide) (hts _ (List.mem_of_getElem? (i := 1) rfl)) (fun _ h9 => h9) rfl dX3_nextToken_124 ?_
          refine xald (v := (u_this_bytes v5.toNatClampNeg)) hx hb hK hP 1 0 rfl rfl g7 rfl dX3_nextToken_127 ?_
          refine xafti (rv := (f_X3_isLetter (u_this_bytes v5.toNatClampNeg))) (W2 := [(h_this, .inr (3, o3 h_this_bytes (u_this.1, v5, v5, u_this.2.2.2.1, u_this.2.2.2.2.1, u_this.2.2.2.2.2))), (h_this_bytes, .inl (T.1, 300, .inl u_this_bytes))]) (va_runS (As := [.int (u_this_bytes v5.toNatClampNeg)]) (rest := []) ⟨hx, hb, hml, hown, hts⟩ (c_X3_isLetter (rv := (f_X3_isLetter (u_this_bytes v5.toNatClampNeg))) l D T (u_this_bytes v5.toNatClampNeg) rfl) (cwS 1 hts gX3_nextToken_X3_isLetter rfl rfl rfl (by decide +kernel) ⟨Nat.le_of_ble_eq_true rfl, Nat.le_of_ble_eq_true rfl⟩) (xpvs hP hD hK [] (by decide) rfl (fun _ _ _ => trivial) (fun _ _ _ _ _ _ => trivial)) rfl rfl hl.1 rfl (lv_room (Nat.le_of_ble_eq_true rfl)) dX3_nextToken_128 ⟨Nat.le_of_ble_eq_true rfl, Nat.le_of_ble_eq_true rfl⟩) hP hD hS hA [] rfl rfl rfl rfl (fun H locs hP hD hS => ?_)
          refine lv_if_eq (tgt := 141) hx hb dX3_nextToken_131 (by decide) (fun c10 => ?_) (fun c10 => ?_)
          · have hM := xit c10 hM
            refine lv_aload_n hx hb dX3_nextToken_141 rfl (lv_at hl 0 rfl) ?_
            refine lv_iconst (v := 4) hx hb dX3_nextToken_142 (by decide) ?_
            refine va_put (D := D) (ci := 3) (v := .int (4)) (C := RX3) (T := TX3) (N := 7) hx hb hts (fun w h => List.mem_cons_of_mem _ (List.mem_append_right _ h)) tyX3 tyX3_ok nmX3 hown hK hP hD hS 0 rfl rfl 4 (by decide) (hts _ (List.mem_of_getElem? (i := 5) rfl)) (fun _ h9 => h9) rfl (tyX3_ok 4 (by decide)) rfl rfl (Nat.le_of_ble_eq_true rfl) dX3_nextToken_143 (fun H locs hP hD hS => ?_)
            have hP : va_P D vwCl [(h_this, .inr (3, o3 h_this_bytes (u_this.1, v5, v5, 4, u_this.2.2.2.2.1, u_this.2.2.2.2.2))), (h_this_bytes, .inl (T.1, 300, .inl u_this_bytes))] H := hP
            have hD : va_D A [(h_this, .inr (3, o3 h_this_bytes (u_this.1, v5, v5, 4, u_this.2.2.2.2.1, u_this.2.2.2.2.2))), (h_this_bytes, .inl (T.1, 300, .inl u_this_bytes))] := hD
            obtain rfl := Option.some.inj hM
            exact xretv hx hb hr hlocks hP hK hD hS dX3_nextToken_146
          · have hM := xif c10 hM
            refine lv_aload_n hx hb dX3_nextToken_134 rfl (lv_at hl 0 rfl) ?_
            obtain ⟨r11, er11, hM⟩ := xbd hM
            refine xaftv (W2 := [(h_this, .inr (3, o3 h_this_bytes r11)), (h_this_bytes, .inl (T.1, 300, .inl u_this_bytes))]) (va_runV (As := []) (rest := []) ⟨hx, hb, hml, hown, hts⟩ (c_X3_nextWord l D T k h_this h_this_bytes (u_this.1, v5, v5, u_this.2.2.2.1, u_this.2.2.2.2.1, u_this.2.2.2.2.2) u_this_bytes er11) (cwV 0 hts gX3_nextToken_X3_nextWord rfl rfl rfl (by decide +kernel) ⟨Nat.le_of_ble_eq_true rfl, Nat.le_of_ble_eq_true rfl⟩) (xpvv hP hD hK [0, 1] (by decide) rfl 0 3 rfl rfl (fun U hU hW => xE1_at hE hS hU hW (va_free hD hS hA [0, 1] rfl)) xE1_blind) rfl rfl hl.1 rfl (lv_room (Nat.le_of_ble_eq_true rfl)) dX3_nextToken_135 ⟨Nat.le_of_ble_eq_true rfl, Nat.le_of_ble_eq_true rfl⟩) hP hD hS hA [0, 1] rfl rfl rfl rfl (fun H locs hP hD hS => ?_)
            refine lv_goto (tgt := 146) hx hb dX3_nextToken_138 (by decide) ?_
            obtain rfl := Option.some.inj hM
            exact xretv hx hb hr hlocks hP hK hD hS dX3_nextToken_146
        · have hM := xif c9 hM
          refine lv_aload_n hx hb dX3_nextToken_112 rfl (lv_at hl 0 rfl) ?_
          obtain ⟨r12, er12, hM⟩ := xbd hM
          refine xaftv (W2 := [(h_this, .inr (3, o3 h_this_bytes r12)), (h_this_bytes, .inl (T.1, 300, .inl u_this_bytes))]) (va_runV (As := []) (rest := []) ⟨hx, hb, hml, hown, hts⟩ (c_X3_nextNumber l D T h_this h_this_bytes (u_this.1, v5, v5, u_this.2.2.2.1, u_this.2.2.2.2.1, u_this.2.2.2.2.2) u_this_bytes er12) (cwV 0 hts gX3_nextToken_X3_nextNumber rfl rfl rfl (by decide +kernel) ⟨Nat.le_of_ble_eq_true rfl, Nat.le_of_ble_eq_true rfl⟩) (xpvv hP hD hK [0, 1] (by decide) rfl 0 3 rfl rfl (fun _ _ _ => trivial) (fun _ _ _ _ _ _ => trivial)) rfl rfl hl.1 rfl (lv_room (Nat.le_of_ble_eq_true rfl)) dX3_nextToken_113 ⟨Nat.le_of_ble_eq_true rfl, Nat.le_of_ble_eq_true rfl⟩) hP hD hS hA [0, 1] rfl rfl rfl rfl (fun H locs hP hD hS => ?_)
          refine lv_goto (tgt := 146) hx hb dX3_nextToken_116 (by decide) ?_
          obtain rfl := Option.some.inj hM
          exact xretv hx hb hr hlocks hP hK hD hS dX3_nextToken_146
      · have hM := xit c8 hM
        refine lv_aload_n hx hb dX3_nextToken_79 rfl (lv_at hl 0 rfl) ?_
        refine lv_dup hx hb dX3_nextToken_80 rfl ?_
        refine va_get (D := D) (ci := 3) (v := .int v5) (C := RX3) (T := TX3) (N := 7) hx hb hts (fun w h => List.mem_cons_of_mem _ (List.mem_append_right _ h)) hown hK hP 0 rfl rfl 2 (by decide) (hts _ (List.mem_of_getElem? (i := 1) rfl)) (fun _ h9 => h9) rfl dX3_nextToken_81 ?_
        refine lv_iconst (v := 1) hx hb dX3_nextToken_84 (by decide) ?_
        refine lv_iadd hx hb dX3_nextToken_85 ?_
        refine va_put (D := D) (ci := 3) (v := .int (v5 + (1))) (C := RX3) (T := TX3) (N := 7) hx hb hts (fun w h => List.mem_cons_of_mem _ (List.mem_append_right _ h)) tyX3 tyX3_ok nmX3 hown hK hP hD hS 0 rfl rfl 2 (by decide) (hts _ (List.mem_of_getElem? (i := 1) rfl)) (fun _ h9 => h9) rfl (tyX3_ok 2 (by decide)) rfl rfl (Nat.le_of_ble_eq_true rfl) dX3_nextToken_86 (fun H locs hP hD hS => ?_)
        have hP : va_P D vwCl [(h_this, .inr (3, o3 h_this_bytes (u_this.1, (v5 + (1)), v5, u_this.2.2.2.1, u_this.2.2.2.2.1, u_this.2.2.2.2.2))), (h_this_bytes, .inl (T.1, 300, .inl u_this_bytes))] H := hP
        have hD : va_D A [(h_this, .inr (3, o3 h_this_bytes (u_this.1, (v5 + (1)), v5, u_this.2.2.2.1, u_this.2.2.2.2.1, u_this.2.2.2.2.2))), (h_this_bytes, .inl (T.1, 300, .inl u_this_bytes))] := hD
        refine lv_aload_n hx hb dX3_nextToken_89 rfl (lv_at hl 0 rfl) ?_
        refine lv_iconst (v := 3) hx hb dX3_nextToken_90 (by decide) ?_
        refine va_put (D := D) (ci := 3) (v := .int (3)) (C := RX3) (T := TX3) (N := 7) hx hb hts (fun w h => List.mem_cons_of_mem _ (List.mem_append_right _ h)) tyX3 tyX3_ok nmX3 hown hK hP hD hS 0 rfl rfl 4 (by decide) (hts _ (List.mem_of_getElem? (i := 5) rfl)) (fun _ h9 => h9) rfl (tyX3_ok 4 (by decide)) rfl rfl (Nat.le_of_ble_eq_true rfl) dX3_nextToken_91 (fun H locs hP hD hS => ?_)
        have hP : va_P D vwCl [(h_this, .inr (3, o3 h_this_bytes (u_this.1, (v5 + (1)), v5, 3, u_this.2.2.2.2.1, u_this.2.2.2.2.2))), (h_this_bytes, .inl (T.1, 300, .inl u_this_bytes))] H := hP
        have hD : va_D A [(h_this, .inr (3, o3 h_this_bytes (u_this.1, (v5 + (1)), v5, 3, u_this.2.2.2.2.1, u_this.2.2.2.2.2))), (h_this_bytes, .inl (T.1, 300, .inl u_this_bytes))] := hD
        refine lv_goto (tgt := 146) hx hb dX3_nextToken_94 (by decide) ?_
        obtain rfl := Option.some.inj hM
        exact xretv hx hb hr hlocks hP hK hD hS dX3_nextToken_146
    · have hM := xif c6 hM
      refine lv_aload_n hx hb dX3_nextToken_57 rfl (lv_at hl 0 rfl) ?_
      refine lv_iconst (v := 0) hx hb dX3_nextToken_58 (by decide) ?_
      refine va_put (D := D) (ci := 3) (v := .int (0)) (C := RX3) (T := TX3) (N := 7) hx hb hts (fun w h => List.mem_cons_of_mem _ (List.mem_append_right _ h)) tyX3 tyX3_ok nmX3 hown hK hP hD hS 0 rfl rfl 4 (by decide) (hts _ (List.mem_of_getElem? (i := 5) rfl)) (fun _ h9 => h9) rfl (tyX3_ok 4 (by decide)) rfl rfl (Nat.le_of_ble_eq_true rfl) dX3_nextToken_59 (fun H locs hP hD hS => ?_)
      have hP : va_P D vwCl [(h_this, .inr (3, o3 h_this_bytes (u_this.1, v5, v5, 0, u_this.2.2.2.2.1, u_this.2.2.2.2.2))), (h_this_bytes, .inl (T.1, 300, .inl u_this_bytes))] H := hP
      have hD : va_D A [(h_this, .inr (3, o3 h_this_bytes (u_this.1, v5, v5, 0, u_this.2.2.2.2.1, u_this.2.2.2.2.2))), (h_this_bytes, .inl (T.1, 300, .inl u_this_bytes))] := hD
      refine lv_goto (tgt := 146) hx hb dX3_nextToken_62 (by decide) ?_
      obtain rfl := Option.some.inj hM
      exact xretv hx hb hr hlocks hP hK hD hS dX3_nextToken_146
  have Lv1 : ∀ (n : Nat) (v1 : Int32), xlp (s_X3_nextToken_0 u_this u_this_bytes) n v1 = some v5 → ∀ (H : Heap) (locs : List Loc) (ls : Array Slot), va_P D vwCl [(h_this, .inr (3, o3 h_this_bytes (u_this.1, v1, u_this.2.2.1, u_this.2.2.2.1, u_this.2.2.2.2.1, u_this.2.2.2.2.2))), (h_this_bytes, .inl (T.1, 300, .inl u_this_bytes))] H → va_D A [(h_this, .inr (3, o3 h_this_bytes (u_this.1, v1, u_this.2.2.1, u_this.2.2.2.1, u_this.2.2.2.2.1, u_this.2.2.2.2.2))), (h_this_bytes, .inl (T.1, 300, .inl u_this_bytes))] → va_S A s.heap H locs → lv_has ls 1 [(0, .ref h_this)] → W p l e ({ frames := 6, cells := 0, slots := 0, locals := 128 } : Room) s m ([.ref h_this] : List Value).toArray below meth c H locs 0 0 (MQ below (va_Qv (fun (_ : Unit) => True) (fun _ => xPost D T [(h_this, .inr (3, o3 h_this_bytes rv)), (h_this_bytes, .inl (T.1, 300, .inl u_this_bytes))] A) A) ([.ref h_this] : List Value).toArray s 0 0 A) (F0 m 0 ls []) := by
    intro n
    induction n with
    | zero => exact fun _ h => (xlp_0 h).elim
    | succ n ih =>
      intro v1 hM H locs ls hP hD hS hl
      obtain ⟨z, hM, hz1, hz2⟩ := xlp_s hM
      unfold s_X3_nextToken_0 at hM
      refine lv_aload_n hx hb dX3_nextToken_0 rfl (lv_at hl 0 rfl) ?_
      refine va_get (D := D) (ci := 3) (v := .int v1) (C := RX3) (T := TX3) (N := 7) hx hb hts (fun w h => List.mem_cons_of_mem _ (List.mem_append_right _ h)) hown hK hP 0 rfl rfl 2 (by decide) (hts _ (List.mem_of_getElem? (i := 1) rfl)) (fun _ h9 => h9) rfl dX3_nextToken_1 ?_
      refine lv_aload_n hx hb dX3_nextToken_4 rfl (lv_at hl 0 rfl) ?_
      refine va_get (D := D) (ci := 3) (v := .int u_this.1) (C := RX3) (T := TX3) (N := 7) hx hb hts (fun w h => List.mem_cons_of_mem _ (List.mem_append_right _ h)) hown hK hP 0 rfl rfl 1 (by decide) (hts _ (List.mem_of_getElem? (i := 2) rfl)) (fun _ h9 => h9) rfl dX3_nextToken_5 ?_
      refine lv_icmp_ge (tgt := 38) hx hb dX3_nextToken_8 (by decide) (fun c2 => ?_) (fun c2 => ?_)
      · have hM := xit c2 hM
        obtain rfl := hz2 _ (Option.some.inj hM).symm
        exact Kv5 _ _ _ hP hD hS (lv_sub hl [0] rfl)
      · have hM := xif c2 hM
        refine lv_aload_n hx hb dX3_nextToken_11 rfl (lv_at hl 0 rfl) ?_
        refine va_get (D := D) (ci := 3) (v := .ref h_this_bytes) (C := RX3) (T := TX3) (N := 7) hx hb hts (fun w h => List.mem_cons_of_mem _ (List.mem_append_right _ h)) hown hK hP 0 rfl rfl 0 (by decide) (hts _ (List.mem_of_getElem? (i := 3) rfl)) (fun _ h9 => h9) rfl dX3_nextToken_12 ?_
        refine lv_aload_n hx hb dX3_nextToken_15 rfl (lv_at hl 0 rfl) ?_
        refine va_get (D := D) (ci := 3) (v := .int v1) (C := RX3) (T := TX3) (N := 7) hx hb hts (fun w h => List.mem_cons_of_mem _ (List.mem_append_right _ h)) hown hK hP 0 rfl rfl 2 (by decide) (hts _ (List.mem_of_getElem? (i := 1) rfl)) (fun _ h9 => h9) rfl dX3_nextToken_16 ?_
        obtain ⟨g3, hM⟩ := xck hM
        refine xald (v := (u_this_bytes v1.toNatClampNeg)) hx hb hK hP 1 0 rfl rfl g3 rfl dX3_nextToken_19 ?_
        refine lv_bipush (v := 32) hx hb dX3_nextToken_20 (by decide) ?_
        refine lv_icmp_ne (tgt := 38) hx hb dX3_nextToken_22 (by decide) (fun c4 => ?_) (fun c4 => ?_)
        · have hM := xif c4 hM
          obtain rfl := hz2 _ (Option.some.inj hM).symm
          exact Kv5 _ _ _ hP hD hS (lv_sub hl [0] rfl)
        · have hM := xit c4 hM
          refine lv_aload_n hx hb dX3_nextToken_25 rfl (lv_at hl 0 rfl) ?_
          refine lv_dup hx hb dX3_nextToken_26 rfl ?_
          refine va_get (D := D) (ci := 3) (v := .int v1) (C := RX3) (T := TX3) (N := 7) hx hb hts (fun w h => List.mem_cons_of_mem _ (List.mem_append_right _ h)) hown hK hP 0 rfl rfl 2 (by decide) (hts _ (List.mem_of_getElem? (i := 1) rfl)) (fun _ h9 => h9) rfl dX3_nextToken_27 ?_
          refine lv_iconst (v := 1) hx hb dX3_nextToken_30 (by decide) ?_
          refine lv_iadd hx hb dX3_nextToken_31 ?_
          refine va_put (D := D) (ci := 3) (v := .int (v1 + (1))) (C := RX3) (T := TX3) (N := 7) hx hb hts (fun w h => List.mem_cons_of_mem _ (List.mem_append_right _ h)) tyX3 tyX3_ok nmX3 hown hK hP hD hS 0 rfl rfl 2 (by decide) (hts _ (List.mem_of_getElem? (i := 1) rfl)) (fun _ h9 => h9) rfl (tyX3_ok 2 (by decide)) rfl rfl (Nat.le_of_ble_eq_true rfl) dX3_nextToken_32 (fun H locs hP hD hS => ?_)
          have hP : va_P D vwCl [(h_this, .inr (3, o3 h_this_bytes (u_this.1, (v1 + (1)), u_this.2.2.1, u_this.2.2.2.1, u_this.2.2.2.2.1, u_this.2.2.2.2.2))), (h_this_bytes, .inl (T.1, 300, .inl u_this_bytes))] H := hP
          have hD : va_D A [(h_this, .inr (3, o3 h_this_bytes (u_this.1, (v1 + (1)), u_this.2.2.1, u_this.2.2.2.1, u_this.2.2.2.2.1, u_this.2.2.2.2.2))), (h_this_bytes, .inl (T.1, 300, .inl u_this_bytes))] := hD
          refine lv_goto (tgt := 0) hx hb dX3_nextToken_35 (by decide) ?_
          exact ih _ (hz1 _ (Option.some.inj hM).symm) _ _ _ hP hD hS (lv_sub hl [0] rfl)
  exact Lv1 _ _ hM _ _ _ hP hD hS (lv_sub hl [0] rfl)
def s_X3_readItem_48 (N : Nat) (u_this : K3) (u_this_bytes : (Nat → Int32)) (v4 : Int32 × K3 × K4) : Option ((Int32 × K3 × K4) ⊕ (Int32 × K3 × K4)) :=
  if xin (u_this.2.2.2.2.1 + (1)) 7 = true then
  (if (sFIRST.getD ((u_this.2.2.2.2.1 + (1)).toNatClampNeg) 0) ≤ v4.1 then
    ((f_X3_nextToken N v4.2.1 u_this_bytes).bind fun r7 =>
     if r7.2.2.2.1 = (3) then
      (some (.inr (1, r7, v4.2.2)))
     else
      (some (.inr (0, r7, v4.2.2))))
   else
    ((f_X3_nextToken N v4.2.1 u_this_bytes).bind fun r9 =>
     if r9.2.2.2.1 = (2) then
      (if xin v4.1 11 = true then
       ((some (f_X6_outside r9.2.2.2.2.1 (sLEAST.getD v4.1.toNatClampNeg 0) (sMOST.getD v4.1.toNatClampNeg 0)) : Option (Int32)).bind fun r12 =>
        if r12 = (0) then
         ((some (f_X4_put v4.2.2 v4.1 r9.2.2.2.2.1) : Option (K4)).bind fun r14 =>
          some (.inl (v4.1 + 1, r9, r14)))
        else
         (some (.inr (0, r9, v4.2.2))))
       else none)
     else
      (some (.inr (0, r9, v4.2.2)))))
  else none
def f_X3_readItem (N : Nat) (u_this : K3) (u_this_bytes : (Nat → Int32)) (u_a1 : K4) : Option (Int32 × K3 × K4) :=
  if u_this.2.2.2.1 = (1) then
   (if ((u_this.2.2.2.2.2 >>> (u_this.2.2.2.2.1 &&& 31)) &&& (1)) = (1) then
     (some (0, u_this, u_a1))
    else
     (if xin u_this.2.2.2.2.1 7 = true then
      (xlp (s_X3_readItem_48 N u_this u_this_bytes) N ((sFIRST.getD u_this.2.2.2.2.1.toNatClampNeg 0), (u_this.1, u_this.2.1, u_this.2.2.1, u_this.2.2.2.1, u_this.2.2.2.2.1, (u_this.2.2.2.2.2 ||| ((1) <<< (u_this.2.2.2.2.1 &&& 31)))), u_a1))
      else none))
  else
   (some (0, u_this, u_a1))
set_option maxHeartbeats 4000000 in
set_option maxRecDepth 100000 in
theorem c_X3_readItem (l : Launch) (D : va_G) (T : xT) (k : xK) (h_this h_this_bytes h_a1 : Nat) {sz : Nat} {N : Nat} (u_this : K3) (u_this_bytes : (Nat → Int32)) (u_a1 : K4) {rv : Int32 × K3 × K4} (hM : f_X3_readItem N u_this u_this_bytes u_a1 = some rv) : Met l yX3_readItem wsX3_readItem ({ frames := 7, cells := 0, slots := 0, locals := 148 } : Room) (va_Pc [.ref h_this, .ref h_a1] (xPre D T [(h_this, .inr (3, o3 h_this_bytes u_this)), (h_this_bytes, .inl (T.1, 300, .inl u_this_bytes)), (h_a1, .inr (4, o4 u_a1))] sz (xE1 k))) (va_Qi (fun (r : Int32) (_ : Unit) => r = rv.1) (fun _ => xPost D T [(h_this, .inr (3, o3 h_this_bytes rv.2.1)), (h_this_bytes, .inl (T.1, 300, .inl u_this_bytes)), (h_a1, .inr (4, o4 rv.2.2))] (va_A [(h_this, .inr (3, o3 h_this_bytes u_this)), (h_this_bytes, .inl (T.1, 300, .inl u_this_bytes)), (h_a1, .inr (4, o4 u_a1))] sz)) (va_A [(h_this, .inr (3, o3 h_this_bytes u_this)), (h_this_bytes, .inl (T.1, 300, .inl u_this_bytes)), (h_a1, .inr (4, o4 u_a1))] sz)) 0 0 (va_A [(h_this, .inr (3, o3 h_this_bytes u_this)), (h_this_bytes, .inl (T.1, 300, .inl u_this_bytes)), (h_a1, .inr (4, o4 u_a1))] sz) := by
  refine xMet (av := [.ref h_this, .ref h_a1]) (Wd := [(h_this, .inr (3, o3 h_this_bytes u_this)), (h_this_bytes, .inl (T.1, 300, .inl u_this_bytes)), (h_a1, .inr (4, o4 u_a1))]) (E := (xE1 k)) (Qc := fun A => (va_Qi (fun (r : Int32) (_ : Unit) => r = rv.1) (fun _ => xPost D T [(h_this, .inr (3, o3 h_this_bytes rv.2.1)), (h_this_bytes, .inl (T.1, 300, .inl u_this_bytes)), (h_a1, .inr (4, o4 rv.2.2))] A) A)) (cc := cX3_readItem) (maxL := 4) (ret := (some .boolean)) (by decide) rfl (Nat.le_of_ble_eq_true rfl) ?_
  intro p e s m below meth c A ls hx hb hr hml hts hown hlocks hnm hP hK hD hS hA hE hl
  have hown : s.vm.findClass RX3 = some m.cls := hown
  have hl : lv_has ls 4 [(0, .ref h_this), (1, .ref h_a1)] := hl
  unfold f_X3_readItem at hM
  refine lv_aload_n hx hb dX3_readItem_0 rfl (lv_at hl 0 rfl) ?_
  refine va_get (D := D) (ci := 3) (v := .int u_this.2.2.2.1) (C := RX3) (T := TX3) (N := 7) hx hb hts (fun w h => List.mem_cons_of_mem _ (List.mem_append_left _ (List.mem_append_right _ h))) hown hK hP 0 rfl rfl 4 (by decide) (hts _ (List.mem_of_getElem? (i := 1) rfl)) (fun _ h9 => h9) rfl dX3_readItem_1 ?_
  refine lv_iconst (v := 1) hx hb dX3_readItem_4 (by decide) ?_
  refine lv_icmp_ne (tgt := 23) hx hb dX3_readItem_5 (by decide) (fun c1 => ?_) (fun c1 => ?_)
  · have hM := xif c1 hM
    refine lv_iconst (v := 0) hx hb dX3_readItem_23 (by decide) ?_
    obtain rfl := Option.some.inj hM
    exact xretz hx hb hr hlocks hP hK hD hS dX3_readItem_24 rfl rfl
  · have hM := xit c1 hM
    refine lv_aload_n hx hb dX3_readItem_8 rfl (lv_at hl 0 rfl) ?_
    refine va_get (D := D) (ci := 3) (v := .int u_this.2.2.2.2.2) (C := RX3) (T := TX3) (N := 7) hx hb hts (fun w h => List.mem_cons_of_mem _ (List.mem_append_left _ (List.mem_append_right _ h))) hown hK hP 0 rfl rfl 6 (by decide) (hts _ (List.mem_of_getElem? (i := 2) rfl)) (fun _ h9 => h9) rfl dX3_readItem_9 ?_
    refine lv_aload_n hx hb dX3_readItem_12 rfl (lv_at hl 0 rfl) ?_
    refine va_get (D := D) (ci := 3) (v := .int u_this.2.2.2.2.1) (C := RX3) (T := TX3) (N := 7) hx hb hts (fun w h => List.mem_cons_of_mem _ (List.mem_append_left _ (List.mem_append_right _ h))) hown hK hP 0 rfl rfl 5 (by decide) (hts _ (List.mem_of_getElem? (i := 3) rfl)) (fun _ h9 => h9) rfl dX3_readItem_13 ?_
    refine lv_ishr hx hb dX3_readItem_16 ?_
    refine lv_iconst (v := 1) hx hb dX3_readItem_17 (by decide) ?_
    refine lv_iand hx hb dX3_readItem_18 ?_
    refine lv_iconst (v := 1) hx hb dX3_readItem_19 (by decide) ?_
    refine lv_icmp_ne (tgt := 25) hx hb dX3_readItem_20 (by decide) (fun c2 => ?_) (fun c2 => ?_)
    · have hM := xif c2 hM
      refine lv_aload_n hx hb dX3_readItem_25 rfl (lv_at hl 0 rfl) ?_
      refine va_get (D := D) (ci := 3) (v := .int u_this.2.2.2.2.1) (C := RX3) (T := TX3) (N := 7) hx hb hts (fun w h => List.mem_cons_of_mem _ (List.mem_append_left _ (List.mem_append_right _ h))) hown hK hP 0 rfl rfl 5 (by decide) (hts _ (List.mem_of_getElem? (i := 3) rfl)) (fun _ h9 => h9) rfl dX3_readItem_26 ?_
      refine lv_istore_n (lv' := [(2, .int u_this.2.2.2.2.1), (0, .ref h_this), (1, .ref h_a1)]) hx hb dX3_readItem_29 rfl hl (by decide) rfl (fun ls hl => ?_)
      refine lv_aload_n hx hb dX3_readItem_30 rfl (lv_at hl 1 rfl) ?_
      refine lv_dup hx hb dX3_readItem_31 rfl ?_
      refine va_get (D := D) (ci := 3) (v := .int u_this.2.2.2.2.2) (C := RX3) (T := TX3) (N := 7) hx hb hts (fun w h => List.mem_cons_of_mem _ (List.mem_append_left _ (List.mem_append_right _ h))) hown hK hP 0 rfl rfl 6 (by decide) (hts _ (List.mem_of_getElem? (i := 2) rfl)) (fun _ h9 => h9) rfl dX3_readItem_32 ?_
      refine lv_iconst (v := 1) hx hb dX3_readItem_35 (by decide) ?_
      refine lv_iload_n hx hb dX3_readItem_36 rfl (lv_at hl 0 rfl) ?_
      refine lv_ishl hx hb dX3_readItem_37 ?_
      refine lv_ior hx hb dX3_readItem_38 ?_
      refine va_put (D := D) (ci := 3) (v := .int (u_this.2.2.2.2.2 ||| ((1) <<< (u_this.2.2.2.2.1 &&& 31)))) (C := RX3) (T := TX3) (N := 7) hx hb hts (fun w h => List.mem_cons_of_mem _ (List.mem_append_left _ (List.mem_append_right _ h))) tyX3 tyX3_ok nmX3 hown hK hP hD hS 0 rfl rfl 6 (by decide) (hts _ (List.mem_of_getElem? (i := 2) rfl)) (fun _ h9 => h9) rfl (tyX3_ok 6 (by decide)) rfl rfl (Nat.le_of_ble_eq_true rfl) dX3_readItem_39 (fun H locs hP hD hS => ?_)
      have hP : va_P D vwCl [(h_this, .inr (3, o3 h_this_bytes (u_this.1, u_this.2.1, u_this.2.2.1, u_this.2.2.2.1, u_this.2.2.2.2.1, (u_this.2.2.2.2.2 ||| ((1) <<< (u_this.2.2.2.2.1 &&& 31)))))), (h_this_bytes, .inl (T.1, 300, .inl u_this_bytes)), (h_a1, .inr (4, o4 u_a1))] H := hP
      have hD : va_D A [(h_this, .inr (3, o3 h_this_bytes (u_this.1, u_this.2.1, u_this.2.2.1, u_this.2.2.2.1, u_this.2.2.2.2.1, (u_this.2.2.2.2.2 ||| ((1) <<< (u_this.2.2.2.2.1 &&& 31)))))), (h_this_bytes, .inl (T.1, 300, .inl u_this_bytes)), (h_a1, .inr (4, o4 u_a1))] := hD
      refine va_getsN hx hb hE.2.2.2.1.1 hS hown (va_Nw.use rfl hE.2.2.2.2.1.2.2.2.1) (fun _ h9 => h9) dX3_readItem_42 ?_
      refine lv_iload_n hx hb dX3_readItem_45 rfl (lv_at hl 0 rfl) ?_
      obtain ⟨g3, hM⟩ := xck hM
      refine va_ti (v := .int (sFIRST.getD u_this.2.2.2.2.1.toNatClampNeg 0)) hx hb hE.2.2.2.1.2 hS g3 rfl dX3_readItem_46 ?_
      refine lv_istore_n (lv' := [(3, .int (sFIRST.getD u_this.2.2.2.2.1.toNatClampNeg 0)), (2, .int u_this.2.2.2.2.1), (0, .ref h_this), (1, .ref h_a1)]) hx hb dX3_readItem_47 rfl hl (by decide) rfl (fun ls hl => ?_)
      have Lv4 : ∀ (n : Nat) (v4 : Int32 × K3 × K4), xlp (s_X3_readItem_48 N u_this u_this_bytes) n v4 = some rv → ∀ (H : Heap) (locs : List Loc) (ls : Array Slot), va_P D vwCl [(h_this, .inr (3, o3 h_this_bytes v4.2.1)), (h_this_bytes, .inl (T.1, 300, .inl u_this_bytes)), (h_a1, .inr (4, o4 v4.2.2))] H → va_D A [(h_this, .inr (3, o3 h_this_bytes v4.2.1)), (h_this_bytes, .inl (T.1, 300, .inl u_this_bytes)), (h_a1, .inr (4, o4 v4.2.2))] → va_S A s.heap H locs → lv_has ls 4 [(0, .ref h_this), (1, .ref h_a1), (2, .int u_this.2.2.2.2.1), (3, .int v4.1)] → W p l e ({ frames := 7, cells := 0, slots := 0, locals := 148 } : Room) s m ([.ref h_this, .ref h_a1] : List Value).toArray below meth c H locs 0 0 (MQ below (va_Qi (fun (r : Int32) (_ : Unit) => r = rv.1) (fun _ => xPost D T [(h_this, .inr (3, o3 h_this_bytes rv.2.1)), (h_this_bytes, .inl (T.1, 300, .inl u_this_bytes)), (h_a1, .inr (4, o4 rv.2.2))] A) A) ([.ref h_this, .ref h_a1] : List Value).toArray s 0 0 A) (F0 m 48 ls []) := by
        intro n
        induction n with
        | zero => exact fun _ h => (xlp_0 h).elim
        | succ n ih =>
          intro v4 hM H locs ls hP hD hS hl
          obtain ⟨z, hM, hz1, hz2⟩ := xlp_s hM
          unfold s_X3_readItem_48 at hM
          refine lv_iload_n hx hb dX3_readItem_48 rfl (lv_at hl 3 rfl) ?_
          refine va_getsN hx hb hE.2.2.2.1.1 hS hown (va_Nw.use rfl hE.2.2.2.2.1.2.2.2.1) (fun _ h9 => h9) dX3_readItem_49 ?_
          refine lv_iload_n hx hb dX3_readItem_52 rfl (lv_at hl 2 rfl) ?_
          refine lv_iconst (v := 1) hx hb dX3_readItem_53 (by decide) ?_
          refine lv_iadd hx hb dX3_readItem_54 ?_
          obtain ⟨g5, hM⟩ := xck hM
          refine va_ti (v := .int (sFIRST.getD ((u_this.2.2.2.2.1 + (1)).toNatClampNeg) 0)) hx hb hE.2.2.2.1.2 hS g5 rfl dX3_readItem_55 ?_
          refine lv_icmp_ge (tgt := 108) hx hb dX3_readItem_56 (by decide) (fun c6 => ?_) (fun c6 => ?_)
          · have hM := xit c6 hM
            refine lv_aload_n hx hb dX3_readItem_108 rfl (lv_at hl 0 rfl) ?_
            obtain ⟨r7, er7, hM⟩ := xbd hM
            refine xaftv (W2 := [(h_this, .inr (3, o3 h_this_bytes r7)), (h_this_bytes, .inl (T.1, 300, .inl u_this_bytes)), (h_a1, .inr (4, o4 v4.2.2))]) (va_runV (As := []) (rest := []) ⟨hx, hb, hml, hown, hts⟩ (c_X3_nextToken l D T k h_this h_this_bytes v4.2.1 u_this_bytes er7) (cwV 0 hts gX3_readItem_X3_nextToken rfl rfl rfl (by decide +kernel) ⟨Nat.le_of_ble_eq_true rfl, Nat.le_of_ble_eq_true rfl⟩) (xpvv hP hD hK [0, 1] (by decide) rfl 0 3 rfl rfl (fun U hU hW => xE1_at hE hS hU hW (va_free hD hS hA [0, 1] rfl)) xE1_blind) rfl rfl hl.1 rfl (lv_room (Nat.le_of_ble_eq_true rfl)) dX3_readItem_109 ⟨Nat.le_of_ble_eq_true rfl, Nat.le_of_ble_eq_true rfl⟩) hP hD hS hA [0, 1] rfl rfl rfl rfl (fun H locs hP hD hS => ?_)
            refine lv_aload_n hx hb dX3_readItem_112 rfl (lv_at hl 0 rfl) ?_
            refine va_get (D := D) (ci := 3) (v := .int r7.2.2.2.1) (C := RX3) (T := TX3) (N := 7) hx hb hts (fun w h => List.mem_cons_of_mem _ (List.mem_append_left _ (List.mem_append_right _ h))) hown hK hP 0 rfl rfl 4 (by decide) (hts _ (List.mem_of_getElem? (i := 1) rfl)) (fun _ h9 => h9) rfl dX3_readItem_113 ?_
            refine lv_iconst (v := 3) hx hb dX3_readItem_116 (by decide) ?_
            refine lv_icmp_ne (tgt := 124) hx hb dX3_readItem_117 (by decide) (fun c8 => ?_) (fun c8 => ?_)
            · have hM := xif c8 hM
              refine lv_iconst (v := 0) hx hb dX3_readItem_124 (by decide) ?_
              obtain rfl := hz2 _ (Option.some.inj hM).symm
              exact xretz hx hb hr hlocks hP hK hD hS dX3_readItem_125 rfl rfl
            · have hM := xit c8 hM
              refine lv_iconst (v := 1) hx hb dX3_readItem_120 (by decide) ?_
              refine lv_goto (tgt := 125) hx hb dX3_readItem_121 (by decide) ?_
              obtain rfl := hz2 _ (Option.some.inj hM).symm
              exact xretz hx hb hr hlocks hP hK hD hS dX3_readItem_125 rfl rfl
          · have hM := xif c6 hM
            refine lv_aload_n hx hb dX3_readItem_59 rfl (lv_at hl 0 rfl) ?_
            obtain ⟨r9, er9, hM⟩ := xbd hM
            refine xaftv (W2 := [(h_this, .inr (3, o3 h_this_bytes r9)), (h_this_bytes, .inl (T.1, 300, .inl u_this_bytes)), (h_a1, .inr (4, o4 v4.2.2))]) (va_runV (As := []) (rest := []) ⟨hx, hb, hml, hown, hts⟩ (c_X3_nextToken l D T k h_this h_this_bytes v4.2.1 u_this_bytes er9) (cwV 0 hts gX3_readItem_X3_nextToken rfl rfl rfl (by decide +kernel) ⟨Nat.le_of_ble_eq_true rfl, Nat.le_of_ble_eq_true rfl⟩) (xpvv hP hD hK [0, 1] (by decide) rfl 0 3 rfl rfl (fun U hU hW => xE1_at hE hS hU hW (va_free hD hS hA [0, 1] rfl)) xE1_blind) rfl rfl hl.1 rfl (lv_room (Nat.le_of_ble_eq_true rfl)) dX3_readItem_60 ⟨Nat.le_of_ble_eq_true rfl, Nat.le_of_ble_eq_true rfl⟩) hP hD hS hA [0, 1] rfl rfl rfl rfl (fun H locs hP hD hS => ?_)
            refine lv_aload_n hx hb dX3_readItem_63 rfl (lv_at hl 0 rfl) ?_
            refine va_get (D := D) (ci := 3) (v := .int r9.2.2.2.1) (C := RX3) (T := TX3) (N := 7) hx hb hts (fun w h => List.mem_cons_of_mem _ (List.mem_append_left _ (List.mem_append_right _ h))) hown hK hP 0 rfl rfl 4 (by decide) (hts _ (List.mem_of_getElem? (i := 1) rfl)) (fun _ h9 => h9) rfl dX3_readItem_64 ?_
            refine lv_iconst (v := 2) hx hb dX3_readItem_67 (by decide) ?_
            refine lv_icmp_ne (tgt := 91) hx hb dX3_readItem_68 (by decide) (fun c10 => ?_) (fun c10 => ?_)
            · have hM := xif c10 hM
              refine lv_iconst (v := 0) hx hb dX3_readItem_91 (by decide) ?_
              obtain rfl := hz2 _ (Option.some.inj hM).symm
              exact xretz hx hb hr hlocks hP hK hD hS dX3_readItem_92 rfl rfl
            · have hM := xit c10 hM
              refine lv_aload_n hx hb dX3_readItem_71 rfl (lv_at hl 0 rfl) ?_
              refine va_get (D := D) (ci := 3) (v := .int r9.2.2.2.2.1) (C := RX3) (T := TX3) (N := 7) hx hb hts (fun w h => List.mem_cons_of_mem _ (List.mem_append_left _ (List.mem_append_right _ h))) hown hK hP 0 rfl rfl 5 (by decide) (hts _ (List.mem_of_getElem? (i := 3) rfl)) (fun _ h9 => h9) rfl dX3_readItem_72 ?_
              refine va_getsN hx hb hE.2.1.1 hS hown (va_Nw.use rfl hE.2.2.2.2.1.2.2.2.2.1) (fun _ h9 => h9) dX3_readItem_75 ?_
              refine lv_iload_n hx hb dX3_readItem_78 rfl (lv_at hl 3 rfl) ?_
              obtain ⟨g11, hM⟩ := xck hM
              refine va_ti (v := .int (sLEAST.getD v4.1.toNatClampNeg 0)) hx hb hE.2.1.2 hS g11 rfl dX3_readItem_79 ?_
              refine va_getsN hx hb hE.2.2.1.1 hS hown (va_Nw.use rfl hE.2.2.2.2.1.2.2.2.2.2.1) (fun _ h9 => h9) dX3_readItem_80 ?_
              refine lv_iload_n hx hb dX3_readItem_83 rfl (lv_at hl 3 rfl) ?_
              refine va_ti (v := .int (sMOST.getD v4.1.toNatClampNeg 0)) hx hb hE.2.2.1.2 hS g11 rfl dX3_readItem_84 ?_
              obtain ⟨r12, er12, hM⟩ := xbd hM
              refine xafti (rv := r12) (W2 := [(h_this, .inr (3, o3 h_this_bytes r9)), (h_this_bytes, .inl (T.1, 300, .inl u_this_bytes)), (h_a1, .inr (4, o4 v4.2.2))]) (va_runSN (As := [.int r9.2.2.2.2.1, .int (sLEAST.getD v4.1.toNatClampNeg 0), .int (sMOST.getD v4.1.toNatClampNeg 0)]) (rest := []) ⟨hx, hb, hml, hown, hts⟩ (c_X6_outside l D T r9.2.2.2.2.1 (sLEAST.getD v4.1.toNatClampNeg 0) (sMOST.getD v4.1.toNatClampNeg 0) (Option.some.inj er12)) ⟨va_cnB 3 hts gX3_readItem_X6_outside_n57 rfl rfl rfl (xE1_out hE) (hts _ (List.mem_of_getElem? (i := 88) rfl)) (by decide +kernel) ⟨Nat.le_of_ble_eq_true rfl, Nat.le_of_ble_eq_true rfl⟩, (hts _ (List.mem_of_getElem? (i := 87) rfl)), trivial⟩ (xpvs hP hD hK [] (by decide) rfl (fun _ _ _ => trivial) (fun _ _ _ _ _ _ => trivial)) rfl rfl hl.1 rfl (lv_room (Nat.le_of_ble_eq_true rfl)) dX3_readItem_85 ⟨Nat.le_of_ble_eq_true rfl, Nat.le_of_ble_eq_true rfl⟩) hP hD hS hA [] rfl rfl rfl rfl (fun H locs hP hD hS => ?_)
              refine lv_if_eq (tgt := 93) hx hb dX3_readItem_88 (by decide) (fun c13 => ?_) (fun c13 => ?_)
              · have hM := xit c13 hM
                refine lv_aload_n hx hb dX3_readItem_93 rfl (lv_at hl 1 rfl) ?_
                refine lv_iload_n hx hb dX3_readItem_94 rfl (lv_at hl 3 rfl) ?_
                refine lv_aload_n hx hb dX3_readItem_95 rfl (lv_at hl 0 rfl) ?_
                refine va_get (D := D) (ci := 3) (v := .int r9.2.2.2.2.1) (C := RX3) (T := TX3) (N := 7) hx hb hts (fun w h => List.mem_cons_of_mem _ (List.mem_append_left _ (List.mem_append_right _ h))) hown hK hP 0 rfl rfl 5 (by decide) (hts _ (List.mem_of_getElem? (i := 3) rfl)) (fun _ h9 => h9) rfl dX3_readItem_96 ?_
                obtain ⟨r14, er14, hM⟩ := xbd hM
                refine xaftv (W2 := [(h_this, .inr (3, o3 h_this_bytes r9)), (h_this_bytes, .inl (T.1, 300, .inl u_this_bytes)), (h_a1, .inr (4, o4 r14))]) (va_runV (As := [.int v4.1, .int r9.2.2.2.2.1]) (rest := []) ⟨hx, hb, hml, hown, hts⟩ (c_X4_put l D T h_a1 v4.2.2 v4.1 r9.2.2.2.2.1 (Option.some.inj er14)) (cwV 2 hts gX3_readItem_X4_put rfl rfl rfl (by decide +kernel) ⟨Nat.le_of_ble_eq_true rfl, Nat.le_of_ble_eq_true rfl⟩) (xpvv hP hD hK [2] (by decide) rfl 0 4 rfl rfl (fun _ _ _ => trivial) (fun _ _ _ _ _ _ => trivial)) rfl rfl hl.1 rfl (lv_room (Nat.le_of_ble_eq_true rfl)) dX3_readItem_99 ⟨Nat.le_of_ble_eq_true rfl, Nat.le_of_ble_eq_true rfl⟩) hP hD hS hA [2] rfl rfl rfl rfl (fun H locs hP hD hS => ?_)
                refine lv_iinc (v := v4.1 + 1) (lv' := [(3, .int (v4.1 + 1)), (0, .ref h_this), (1, .ref h_a1), (2, .int u_this.2.2.2.2.1)]) hx hb dX3_readItem_102 hl (k := 3) rfl rfl (by decide) rfl (fun ls hl => ?_)
                refine lv_goto (tgt := 48) hx hb dX3_readItem_105 (by decide) ?_
                exact ih _ (hz1 _ (Option.some.inj hM).symm) _ _ _ hP hD hS (lv_sub hl [1, 2, 3, 0] rfl)
              · have hM := xif c13 hM
                refine lv_iconst (v := 0) hx hb dX3_readItem_91 (by decide) ?_
                obtain rfl := hz2 _ (Option.some.inj hM).symm
                exact xretz hx hb hr hlocks hP hK hD hS dX3_readItem_92 rfl rfl
      exact Lv4 _ _ hM _ _ _ hP hD hS (lv_sub hl [2, 3, 1, 0] rfl)
    · have hM := xit c2 hM
      refine lv_iconst (v := 0) hx hb dX3_readItem_23 (by decide) ?_
      obtain rfl := Option.some.inj hM
      exact xretz hx hb hr hlocks hP hK hD hS dX3_readItem_24 rfl rfl
def s_X3_read_16 (N : Nat) (u_this_bytes : (Nat → Int32)) (v2 : Int32 × K3 × K4) : Option ((Int32 × K3 × K4) ⊕ (Int32 × K3 × K4)) :=
  if (6) < v2.1 then
   (some (.inr (((-10) - v2.2.1.2.2.1), v2.2.1, v2.2.2)))
  else
   ((f_X3_nextToken N v2.2.1 u_this_bytes).bind fun r4 =>
    if r4.2.2.2.1 = (0) then
     (some (.inr (v2.1, r4, v2.2.2)))
    else
     ((f_X3_readItem N r4 u_this_bytes v2.2.2).bind fun r6 =>
      if r6.1 = (0) then
       (some (.inr (((-10) - r6.2.1.2.2.1), r6.2.1, r6.2.2)))
      else
       (some (.inl (v2.1 + 1, r6.2.1, r6.2.2)))))
def f_X3_read (N : Nat) (u_this : K3) (u_this_bytes : (Nat → Int32)) (u_a1 : K4) : Option (Int32 × K3 × K4) :=
  (f_X4_beUntold N u_a1).bind fun r1 =>
  xlp (s_X3_read_16 N u_this_bytes) N (0, (u_this.1, 0, u_this.2.2.1, u_this.2.2.2.1, u_this.2.2.2.2.1, 0), r1)
set_option maxHeartbeats 4000000 in
set_option maxRecDepth 100000 in
theorem c_X3_read (l : Launch) (D : va_G) (T : xT) (k : xK) (h_this h_this_bytes h_a1 : Nat) {sz : Nat} {N : Nat} (u_this : K3) (u_this_bytes : (Nat → Int32)) (u_a1 : K4) {rv : Int32 × K3 × K4} (hM : f_X3_read N u_this u_this_bytes u_a1 = some rv) : Met l yX3_read wsX3_read ({ frames := 8, cells := 0, slots := 0, locals := 171 } : Room) (va_Pc [.ref h_this, .ref h_a1] (xPre D T [(h_this, .inr (3, o3 h_this_bytes u_this)), (h_this_bytes, .inl (T.1, 300, .inl u_this_bytes)), (h_a1, .inr (4, o4 u_a1))] sz (xE1 k))) (va_Qi (fun (r : Int32) (_ : Unit) => r = rv.1) (fun _ => xPost D T [(h_this, .inr (3, o3 h_this_bytes rv.2.1)), (h_this_bytes, .inl (T.1, 300, .inl u_this_bytes)), (h_a1, .inr (4, o4 rv.2.2))] (va_A [(h_this, .inr (3, o3 h_this_bytes u_this)), (h_this_bytes, .inl (T.1, 300, .inl u_this_bytes)), (h_a1, .inr (4, o4 u_a1))] sz)) (va_A [(h_this, .inr (3, o3 h_this_bytes u_this)), (h_this_bytes, .inl (T.1, 300, .inl u_this_bytes)), (h_a1, .inr (4, o4 u_a1))] sz)) 0 0 (va_A [(h_this, .inr (3, o3 h_this_bytes u_this)), (h_this_bytes, .inl (T.1, 300, .inl u_this_bytes)), (h_a1, .inr (4, o4 u_a1))] sz) := by
  refine xMet (av := [.ref h_this, .ref h_a1]) (Wd := [(h_this, .inr (3, o3 h_this_bytes u_this)), (h_this_bytes, .inl (T.1, 300, .inl u_this_bytes)), (h_a1, .inr (4, o4 u_a1))]) (E := (xE1 k)) (Qc := fun A => (va_Qi (fun (r : Int32) (_ : Unit) => r = rv.1) (fun _ => xPost D T [(h_this, .inr (3, o3 h_this_bytes rv.2.1)), (h_this_bytes, .inl (T.1, 300, .inl u_this_bytes)), (h_a1, .inr (4, o4 rv.2.2))] A) A)) (cc := cX3_read) (maxL := 3) (ret := (some .int)) (by decide) rfl (Nat.le_of_ble_eq_true rfl) ?_
  intro p e s m below meth c A ls hx hb hr hml hts hown hlocks hnm hP hK hD hS hA hE hl
  have hown : s.vm.findClass RX3 = some m.cls := hown
  have hl : lv_has ls 3 [(0, .ref h_this), (1, .ref h_a1)] := hl
  unfold f_X3_read at hM
  refine lv_aload_n hx hb dX3_read_0 rfl (lv_at hl 0 rfl) ?_
  refine lv_iconst (v := 0) hx hb dX3_read_1 (by decide) ?_
  refine va_put (D := D) (ci := 3) (v := .int (0)) (C := RX3) (T := TX3) (N := 7) hx hb hts (fun w h => List.mem_cons_of_mem _ (List.mem_append_left _ (List.mem_append_right _ h))) tyX3 tyX3_ok nmX3 hown hK hP hD hS 0 rfl rfl 2 (by decide) (hts _ (List.mem_of_getElem? (i := 1) rfl)) (fun _ h9 => h9) rfl (tyX3_ok 2 (by decide)) rfl rfl (Nat.le_of_ble_eq_true rfl) dX3_read_2 (fun H locs hP hD hS => ?_)
  have hP : va_P D vwCl [(h_this, .inr (3, o3 h_this_bytes (u_this.1, 0, u_this.2.2.1, u_this.2.2.2.1, u_this.2.2.2.2.1, u_this.2.2.2.2.2))), (h_this_bytes, .inl (T.1, 300, .inl u_this_bytes)), (h_a1, .inr (4, o4 u_a1))] H := hP
  have hD : va_D A [(h_this, .inr (3, o3 h_this_bytes (u_this.1, 0, u_this.2.2.1, u_this.2.2.2.1, u_this.2.2.2.2.1, u_this.2.2.2.2.2))), (h_this_bytes, .inl (T.1, 300, .inl u_this_bytes)), (h_a1, .inr (4, o4 u_a1))] := hD
  refine lv_aload_n hx hb dX3_read_5 rfl (lv_at hl 0 rfl) ?_
  refine lv_iconst (v := 0) hx hb dX3_read_6 (by decide) ?_
  refine va_put (D := D) (ci := 3) (v := .int (0)) (C := RX3) (T := TX3) (N := 7) hx hb hts (fun w h => List.mem_cons_of_mem _ (List.mem_append_left _ (List.mem_append_right _ h))) tyX3 tyX3_ok nmX3 hown hK hP hD hS 0 rfl rfl 6 (by decide) (hts _ (List.mem_of_getElem? (i := 2) rfl)) (fun _ h9 => h9) rfl (tyX3_ok 6 (by decide)) rfl rfl (Nat.le_of_ble_eq_true rfl) dX3_read_7 (fun H locs hP hD hS => ?_)
  have hP : va_P D vwCl [(h_this, .inr (3, o3 h_this_bytes (u_this.1, 0, u_this.2.2.1, u_this.2.2.2.1, u_this.2.2.2.2.1, 0))), (h_this_bytes, .inl (T.1, 300, .inl u_this_bytes)), (h_a1, .inr (4, o4 u_a1))] H := hP
  have hD : va_D A [(h_this, .inr (3, o3 h_this_bytes (u_this.1, 0, u_this.2.2.1, u_this.2.2.2.1, u_this.2.2.2.2.1, 0))), (h_this_bytes, .inl (T.1, 300, .inl u_this_bytes)), (h_a1, .inr (4, o4 u_a1))] := hD
  refine lv_aload_n hx hb dX3_read_10 rfl (lv_at hl 1 rfl) ?_
  obtain ⟨r1, er1, hM⟩ := xbd hM
  refine xaftv (W2 := [(h_this, .inr (3, o3 h_this_bytes (u_this.1, 0, u_this.2.2.1, u_this.2.2.2.1, u_this.2.2.2.2.1, 0))), (h_this_bytes, .inl (T.1, 300, .inl u_this_bytes)), (h_a1, .inr (4, o4 r1))]) (va_runV (As := []) (rest := []) ⟨hx, hb, hml, hown, hts⟩ (c_X4_beUntold l D T k h_a1 u_a1 er1) (cwV 0 hts gX3_read_X4_beUntold rfl rfl rfl (by decide +kernel) ⟨Nat.le_of_ble_eq_true rfl, Nat.le_of_ble_eq_true rfl⟩) (xpvv hP hD hK [2] (by decide) rfl 0 4 rfl rfl (fun U hU hW => xE1_at hE hS hU hW (va_free hD hS hA [2] rfl)) xE1_blind) rfl rfl hl.1 rfl (lv_room (Nat.le_of_ble_eq_true rfl)) dX3_read_11 ⟨Nat.le_of_ble_eq_true rfl, Nat.le_of_ble_eq_true rfl⟩) hP hD hS hA [2] rfl rfl rfl rfl (fun H locs hP hD hS => ?_)
  refine lv_iconst (v := 0) hx hb dX3_read_14 (by decide) ?_
  refine lv_istore_n (lv' := [(2, .int (0)), (0, .ref h_this), (1, .ref h_a1)]) hx hb dX3_read_15 rfl hl (by decide) rfl (fun ls hl => ?_)
  have Lv2 : ∀ (n : Nat) (v2 : Int32 × K3 × K4), xlp (s_X3_read_16 N u_this_bytes) n v2 = some rv → ∀ (H : Heap) (locs : List Loc) (ls : Array Slot), va_P D vwCl [(h_this, .inr (3, o3 h_this_bytes v2.2.1)), (h_this_bytes, .inl (T.1, 300, .inl u_this_bytes)), (h_a1, .inr (4, o4 v2.2.2))] H → va_D A [(h_this, .inr (3, o3 h_this_bytes v2.2.1)), (h_this_bytes, .inl (T.1, 300, .inl u_this_bytes)), (h_a1, .inr (4, o4 v2.2.2))] → va_S A s.heap H locs → lv_has ls 3 [(0, .ref h_this), (1, .ref h_a1), (2, .int v2.1)] → W p l e ({ frames := 8, cells := 0, slots := 0, locals := 171 } : Room) s m ([.ref h_this, .ref h_a1] : List Value).toArray below meth c H locs 0 0 (MQ below (va_Qi (fun (r : Int32) (_ : Unit) => r = rv.1) (fun _ => xPost D T [(h_this, .inr (3, o3 h_this_bytes rv.2.1)), (h_this_bytes, .inl (T.1, 300, .inl u_this_bytes)), (h_a1, .inr (4, o4 rv.2.2))] A) A) ([.ref h_this, .ref h_a1] : List Value).toArray s 0 0 A) (F0 m 16 ls []) := by
    intro n
    induction n with
    | zero => exact fun _ h => (xlp_0 h).elim
    | succ n ih =>
      intro v2 hM H locs ls hP hD hS hl
      obtain ⟨z, hM, hz1, hz2⟩ := xlp_s hM
      unfold s_X3_read_16 at hM
      refine lv_iload_n hx hb dX3_read_16 rfl (lv_at hl 2 rfl) ?_
      refine lv_bipush (v := 6) hx hb dX3_read_17 (by decide) ?_
      refine lv_icmp_gt (tgt := 52) hx hb dX3_read_19 (by decide) (fun c3 => ?_) (fun c3 => ?_)
      · have hM := xit c3 hM
        refine lv_bipush (v := (-10)) hx hb dX3_read_52 (by decide) ?_
        refine lv_aload_n hx hb dX3_read_54 rfl (lv_at hl 0 rfl) ?_
        refine va_get (D := D) (ci := 3) (v := .int v2.2.1.2.2.1) (C := RX3) (T := TX3) (N := 7) hx hb hts (fun w h => List.mem_cons_of_mem _ (List.mem_append_left _ (List.mem_append_right _ h))) hown hK hP 0 rfl rfl 3 (by decide) (hts _ (List.mem_of_getElem? (i := 4) rfl)) (fun _ h9 => h9) rfl dX3_read_55 ?_
        refine lv_isub hx hb dX3_read_58 ?_
        obtain rfl := hz2 _ (Option.some.inj hM).symm
        exact xreti hx hb hr hlocks hP hK hD hS dX3_read_59 rfl
      · have hM := xif c3 hM
        refine lv_aload_n hx hb dX3_read_22 rfl (lv_at hl 0 rfl) ?_
        obtain ⟨r4, er4, hM⟩ := xbd hM
        refine xaftv (W2 := [(h_this, .inr (3, o3 h_this_bytes r4)), (h_this_bytes, .inl (T.1, 300, .inl u_this_bytes)), (h_a1, .inr (4, o4 v2.2.2))]) (va_runV (As := []) (rest := []) ⟨hx, hb, hml, hown, hts⟩ (c_X3_nextToken l D T k h_this h_this_bytes v2.2.1 u_this_bytes er4) (cwV 0 hts gX3_read_X3_nextToken rfl rfl rfl (by decide +kernel) ⟨Nat.le_of_ble_eq_true rfl, Nat.le_of_ble_eq_true rfl⟩) (xpvv hP hD hK [0, 1] (by decide) rfl 0 3 rfl rfl (fun U hU hW => xE1_at hE hS hU hW (va_free hD hS hA [0, 1] rfl)) xE1_blind) rfl rfl hl.1 rfl (lv_room (Nat.le_of_ble_eq_true rfl)) dX3_read_23 ⟨Nat.le_of_ble_eq_true rfl, Nat.le_of_ble_eq_true rfl⟩) hP hD hS hA [0, 1] rfl rfl rfl rfl (fun H locs hP hD hS => ?_)
        refine lv_aload_n hx hb dX3_read_26 rfl (lv_at hl 0 rfl) ?_
        refine va_get (D := D) (ci := 3) (v := .int r4.2.2.2.1) (C := RX3) (T := TX3) (N := 7) hx hb hts (fun w h => List.mem_cons_of_mem _ (List.mem_append_left _ (List.mem_append_right _ h))) hown hK hP 0 rfl rfl 4 (by decide) (hts _ (List.mem_of_getElem? (i := 3) rfl)) (fun _ h9 => h9) rfl dX3_read_27 ?_
        refine lv_if_ne (tgt := 35) hx hb dX3_read_30 (by decide) (fun c5 => ?_) (fun c5 => ?_)
        · have hM := xif c5 hM
          refine lv_aload_n hx hb dX3_read_35 rfl (lv_at hl 0 rfl) ?_
          refine lv_aload_n hx hb dX3_read_36 rfl (lv_at hl 1 rfl) ?_
          obtain ⟨r6, er6, hM⟩ := xbd hM
          refine xafti (rv := r6.1) (W2 := [(h_this, .inr (3, o3 h_this_bytes r6.2.1)), (h_this_bytes, .inl (T.1, 300, .inl u_this_bytes)), (h_a1, .inr (4, o4 r6.2.2))]) (va_runV (As := [.ref h_a1]) (rest := []) ⟨hx, hb, hml, hown, hts⟩ (c_X3_readItem l D T k h_this h_this_bytes h_a1 r4 u_this_bytes v2.2.2 er6) (cwV 1 hts gX3_read_X3_readItem rfl rfl rfl (by decide +kernel) ⟨Nat.le_of_ble_eq_true rfl, Nat.le_of_ble_eq_true rfl⟩) (xpvv hP hD hK [0, 1, 2] (by decide) rfl 0 3 rfl rfl (fun U hU hW => xE1_at hE hS hU hW (va_free hD hS hA [0, 1, 2] rfl)) xE1_blind) rfl rfl hl.1 rfl (lv_room (Nat.le_of_ble_eq_true rfl)) dX3_read_37 ⟨Nat.le_of_ble_eq_true rfl, Nat.le_of_ble_eq_true rfl⟩) hP hD hS hA [0, 1, 2] rfl rfl rfl rfl (fun H locs hP hD hS => ?_)
          refine lv_if_ne (tgt := 46) hx hb dX3_read_40 (by decide) (fun c7 => ?_) (fun c7 => ?_)
          · have hM := xif c7 hM
            refine lv_iinc (v := v2.1 + 1) (lv' := [(2, .int (v2.1 + 1)), (0, .ref h_this), (1, .ref h_a1)]) hx hb dX3_read_46 hl (k := 2) rfl rfl (by decide) rfl (fun ls hl => ?_)
            refine lv_goto (tgt := 16) hx hb dX3_read_49 (by decide) ?_
            exact ih _ (hz1 _ (Option.some.inj hM).symm) _ _ _ hP hD hS (lv_sub hl [1, 2, 0] rfl)
          · have hM := xit c7 hM
            refine lv_goto (tgt := 52) hx hb dX3_read_43 (by decide) ?_
            refine lv_bipush (v := (-10)) hx hb dX3_read_52 (by decide) ?_
            refine lv_aload_n hx hb dX3_read_54 rfl (lv_at hl 0 rfl) ?_
            refine va_get (D := D) (ci := 3) (v := .int r6.2.1.2.2.1) (C := RX3) (T := TX3) (N := 7) hx hb hts (fun w h => List.mem_cons_of_mem _ (List.mem_append_left _ (List.mem_append_right _ h))) hown hK hP 0 rfl rfl 3 (by decide) (hts _ (List.mem_of_getElem? (i := 4) rfl)) (fun _ h9 => h9) rfl dX3_read_55 ?_
            refine lv_isub hx hb dX3_read_58 ?_
            obtain rfl := hz2 _ (Option.some.inj hM).symm
            exact xreti hx hb hr hlocks hP hK hD hS dX3_read_59 rfl
        · have hM := xit c5 hM
          refine lv_iload_n hx hb dX3_read_33 rfl (lv_at hl 2 rfl) ?_
          obtain rfl := hz2 _ (Option.some.inj hM).symm
          exact xreti hx hb hr hlocks hP hK hD hS dX3_read_34 rfl
  exact Lv2 _ _ hM _ _ _ hP hD hS (lv_sub hl [1, 2, 0] rfl)
