/-! laid by wip/whole/gen.py out of the decode rows: functional readings and contracts -/
def f_X1_add (u_this : K1) (u_this_paces : (Nat → Int32)) (u_this_sandy : (Nat → Int32)) (p1 : Int32) (p2 : Int32) : Option (Int32 × K1 × (Nat → Int32) × (Nat → Int32)) :=
  if u_this < (30) then
   (if xin u_this 30 = true then
    (some ((u_this + (1)), (u_this + (1)), (upd u_this_paces u_this.toNatClampNeg p1), (upd u_this_sandy u_this.toNatClampNeg p2)))
    else none)
  else
   (some ((-3), u_this, u_this_paces, u_this_sandy))
set_option maxHeartbeats 4000000 in
set_option maxRecDepth 100000 in
theorem c_X1_add (l : Launch) (D : va_G) (T : xT) (h_this h_this_paces h_this_sandy : Nat) {sz : Nat} (u_this : K1) (u_this_paces : (Nat → Int32)) (u_this_sandy : (Nat → Int32)) (p1 : Int32) (p2 : Int32) {rv : Int32 × K1 × (Nat → Int32) × (Nat → Int32)} (hM : f_X1_add u_this u_this_paces u_this_sandy p1 p2 = some rv) : Met l yX1_add wsX1_add ({ frames := 0, cells := 0, slots := 0, locals := 0 } : Room) (va_Pc [.ref h_this, .int p1, .int p2] (xPre D T [(h_this, .inr (1, o1 h_this_paces h_this_sandy u_this)), (h_this_paces, .inl (T.1, 30, .inl u_this_paces)), (h_this_sandy, .inl (T.1, 30, .inl u_this_sandy))] sz xE0)) (va_Qi (fun (r : Int32) (_ : Unit) => r = rv.1) (fun _ => xPost D T [(h_this, .inr (1, o1 h_this_paces h_this_sandy rv.2.1)), (h_this_paces, .inl (T.1, 30, .inl rv.2.2.1)), (h_this_sandy, .inl (T.1, 30, .inl rv.2.2.2))] (va_A [(h_this, .inr (1, o1 h_this_paces h_this_sandy u_this)), (h_this_paces, .inl (T.1, 30, .inl u_this_paces)), (h_this_sandy, .inl (T.1, 30, .inl u_this_sandy))] sz)) (va_A [(h_this, .inr (1, o1 h_this_paces h_this_sandy u_this)), (h_this_paces, .inl (T.1, 30, .inl u_this_paces)), (h_this_sandy, .inl (T.1, 30, .inl u_this_sandy))] sz)) 0 0 (va_A [(h_this, .inr (1, o1 h_this_paces h_this_sandy u_this)), (h_this_paces, .inl (T.1, 30, .inl u_this_paces)), (h_this_sandy, .inl (T.1, 30, .inl u_this_sandy))] sz) := by
  refine xMet (av := [.ref h_this, .int p1, .int p2]) (Wd := [(h_this, .inr (1, o1 h_this_paces h_this_sandy u_this)), (h_this_paces, .inl (T.1, 30, .inl u_this_paces)), (h_this_sandy, .inl (T.1, 30, .inl u_this_sandy))]) (E := xE0) (Qc := fun A => (va_Qi (fun (r : Int32) (_ : Unit) => r = rv.1) (fun _ => xPost D T [(h_this, .inr (1, o1 h_this_paces h_this_sandy rv.2.1)), (h_this_paces, .inl (T.1, 30, .inl rv.2.2.1)), (h_this_sandy, .inl (T.1, 30, .inl rv.2.2.2))] A) A)) (cc := cX1_add) (maxL := 3) (ret := (some .int)) (by decide) rfl (Nat.le_of_ble_eq_true rfl) ?_
  intro p e s m below meth c A ls hx hb hr hml hts hown hlocks hnm hP hK hD hS hA hE hl
  have hown : s.vm.findClass RX1 = some m.cls := hown
  have hl : lv_has ls 3 [(0, .ref h_this), (1, .int p1), (2, .int p2)] := hl
  unfold f_X1_add at hM
  refine lv_aload_n hx hb dX1_add_0 rfl (lv_at hl 0 rfl) ?_
  refine va_get (D := D) (ci := 1) (v := .int u_this) (C := RX1) (T := TX1) (N := 3) hx hb hts (fun w h => List.mem_cons_of_mem _ (List.mem_append_right _ h)) hown hK hP 0 rfl rfl 2 (by decide) (hts _ (List.mem_of_getElem? (i := 1) rfl)) (fun _ h9 => h9) rfl dX1_add_1 ?_
  refine lv_aload_n hx hb dX1_add_4 rfl (lv_at hl 0 rfl) ?_
  refine va_get (D := D) (ci := 1) (v := .ref h_this_paces) (C := RX1) (T := TX1) (N := 3) hx hb hts (fun w h => List.mem_cons_of_mem _ (List.mem_append_right _ h)) hown hK hP 0 rfl rfl 0 (by decide) (hts _ (List.mem_of_getElem? (i := 2) rfl)) (fun _ h9 => h9) rfl dX1_add_5 ?_
  refine va_alen (v := 30) hx hb hK hP 1 0 rfl rfl (show Int32.ofNat 30 = 30 by decide) dX1_add_8 ?_
  refine lv_icmp_lt (tgt := 15) hx hb dX1_add_9 (by decide) (fun c1 => ?_) (fun c1 => ?_)
  · have hM := xit c1 hM
    refine lv_aload_n hx hb dX1_add_15 rfl (lv_at hl 0 rfl) ?_
    refine va_get (D := D) (ci := 1) (v := .ref h_this_paces) (C := RX1) (T := TX1) (N := 3) hx hb hts (fun w h => List.mem_cons_of_mem _ (List.mem_append_right _ h)) hown hK hP 0 rfl rfl 0 (by decide) (hts _ (List.mem_of_getElem? (i := 2) rfl)) (fun _ h9 => h9) rfl dX1_add_16 ?_
    refine lv_aload_n hx hb dX1_add_19 rfl (lv_at hl 0 rfl) ?_
    refine va_get (D := D) (ci := 1) (v := .int u_this) (C := RX1) (T := TX1) (N := 3) hx hb hts (fun w h => List.mem_cons_of_mem _ (List.mem_append_right _ h)) hown hK hP 0 rfl rfl 2 (by decide) (hts _ (List.mem_of_getElem? (i := 1) rfl)) (fun _ h9 => h9) rfl dX1_add_20 ?_
    refine lv_iload_n hx hb dX1_add_23 rfl (lv_at hl 1 rfl) ?_
    obtain ⟨g2, hM⟩ := xck hM
    refine xast hx hb hK hP hD hS 1 0 rfl rfl g2 rfl dX1_add_24 (fun H locs hP hD hS => ?_)
    have hP : va_P D vwCl [(h_this, .inr (1, o1 h_this_paces h_this_sandy u_this)), (h_this_paces, .inl (T.1, 30, .inl (upd u_this_paces u_this.toNatClampNeg p1))), (h_this_sandy, .inl (T.1, 30, .inl u_this_sandy))] H := hP
    have hD : va_D A [(h_this, .inr (1, o1 h_this_paces h_this_sandy u_this)), (h_this_paces, .inl (T.1, 30, .inl (upd u_this_paces u_this.toNatClampNeg p1))), (h_this_sandy, .inl (T.1, 30, .inl u_this_sandy))] := hD
    refine lv_aload_n hx hb dX1_add_25 rfl (lv_at hl 0 rfl) ?_
    refine va_get (D := D) (ci := 1) (v := .ref h_this_sandy) (C := RX1) (T := TX1) (N := 3) hx hb hts (fun w h => List.mem_cons_of_mem _ (List.mem_append_right _ h)) hown hK hP 0 rfl rfl 1 (by decide) (hts _ (List.mem_of_getElem? (i := 3) rfl)) (fun _ h9 => h9) rfl dX1_add_26 ?_
    refine lv_aload_n hx hb dX1_add_29 rfl (lv_at hl 0 rfl) ?_
    refine va_get (D := D) (ci := 1) (v := .int u_this) (C := RX1) (T := TX1) (N := 3) hx hb hts (fun w h => List.mem_cons_of_mem _ (List.mem_append_right _ h)) hown hK hP 0 rfl rfl 2 (by decide) (hts _ (List.mem_of_getElem? (i := 1) rfl)) (fun _ h9 => h9) rfl dX1_add_30 ?_
    refine lv_iload_n hx hb dX1_add_33 rfl (lv_at hl 2 rfl) ?_
    refine xast hx hb hK hP hD hS 2 0 rfl rfl g2 rfl dX1_add_34 (fun H locs hP hD hS => ?_)
    have hP : va_P D vwCl [(h_this, .inr (1, o1 h_this_paces h_this_sandy u_this)), (h_this_paces, .inl (T.1, 30, .inl (upd u_this_paces u_this.toNatClampNeg p1))), (h_this_sandy, .inl (T.1, 30, .inl (upd u_this_sandy u_this.toNatClampNeg p2)))] H := hP
    have hD : va_D A [(h_this, .inr (1, o1 h_this_paces h_this_sandy u_this)), (h_this_paces, .inl (T.1, 30, .inl (upd u_this_paces u_this.toNatClampNeg p1))), (h_this_sandy, .inl (T.1, 30, .inl (upd u_this_sandy u_this.toNatClampNeg p2)))] := hD
    refine lv_aload_n hx hb dX1_add_35 rfl (lv_at hl 0 rfl) ?_
    refine lv_dup hx hb dX1_add_36 rfl ?_
    refine va_get (D := D) (ci := 1) (v := .int u_this) (C := RX1) (T := TX1) (N := 3) hx hb hts (fun w h => List.mem_cons_of_mem _ (List.mem_append_right _ h)) hown hK hP 0 rfl rfl 2 (by decide) (hts _ (List.mem_of_getElem? (i := 1) rfl)) (fun _ h9 => h9) rfl dX1_add_37 ?_
    refine lv_iconst (v := 1) hx hb dX1_add_40 (by decide) ?_
    refine lv_iadd hx hb dX1_add_41 ?_
    refine va_put (D := D) (ci := 1) (v := .int (u_this + (1))) (C := RX1) (T := TX1) (N := 3) hx hb hts (fun w h => List.mem_cons_of_mem _ (List.mem_append_right _ h)) tyX1 tyX1_ok nmX1 hown hK hP hD hS 0 rfl rfl 2 (by decide) (hts _ (List.mem_of_getElem? (i := 1) rfl)) (fun _ h9 => h9) rfl (tyX1_ok 2 (by decide)) rfl rfl (Nat.le_of_ble_eq_true rfl) dX1_add_42 (fun H locs hP hD hS => ?_)
    have hP : va_P D vwCl [(h_this, .inr (1, o1 h_this_paces h_this_sandy (u_this + (1)))), (h_this_paces, .inl (T.1, 30, .inl (upd u_this_paces u_this.toNatClampNeg p1))), (h_this_sandy, .inl (T.1, 30, .inl (upd u_this_sandy u_this.toNatClampNeg p2)))] H := hP
    have hD : va_D A [(h_this, .inr (1, o1 h_this_paces h_this_sandy (u_this + (1)))), (h_this_paces, .inl (T.1, 30, .inl (upd u_this_paces u_this.toNatClampNeg p1))), (h_this_sandy, .inl (T.1, 30, .inl (upd u_this_sandy u_this.toNatClampNeg p2)))] := hD
    refine lv_aload_n hx hb dX1_add_45 rfl (lv_at hl 0 rfl) ?_
    refine va_get (D := D) (ci := 1) (v := .int (u_this + (1))) (C := RX1) (T := TX1) (N := 3) hx hb hts (fun w h => List.mem_cons_of_mem _ (List.mem_append_right _ h)) hown hK hP 0 rfl rfl 2 (by decide) (hts _ (List.mem_of_getElem? (i := 1) rfl)) (fun _ h9 => h9) rfl dX1_add_46 ?_
    obtain rfl := Option.some.inj hM
    exact xreti hx hb hr hlocks hP hK hD hS dX1_add_49 rfl
  · have hM := xif c1 hM
    refine lv_bipush (v := (-3)) hx hb dX1_add_12 (by decide) ?_
    obtain rfl := Option.some.inj hM
    exact xreti hx hb hr hlocks hP hK hD hS dX1_add_14 rfl
def s_X1_greatestClean_4 (u_this : K1) (u_this_paces : (Nat → Int32)) (u_this_sandy : (Nat → Int32)) (v1 : Int32 × Int32) : Option ((Int32 × Int32) ⊕ (Int32 × Int32)) :=
  if u_this ≤ v1.2 then
   (some (.inr (v1.1, v1.2)))
  else
   (if xin v1.2 30 = true then
    (if (u_this_sandy v1.2.toNatClampNeg) = (0) then
      (some (.inl ((xmax v1.1 (u_this_paces v1.2.toNatClampNeg)), v1.2 + 1)))
     else
      (some (.inl (v1.1, v1.2 + 1))))
    else none)
def f_X1_greatestClean (N : Nat) (u_this : K1) (u_this_paces : (Nat → Int32)) (u_this_sandy : (Nat → Int32)) : Option (Int32) :=
  (xlp (s_X1_greatestClean_4 u_this u_this_paces u_this_sandy) N (0, 0)).bind fun v5 =>
  some v5.1
set_option maxHeartbeats 4000000 in
set_option maxRecDepth 100000 in
theorem c_X1_greatestClean (l : Launch) (D : va_G) (T : xT) (h_this h_this_paces h_this_sandy : Nat) {sz : Nat} {N : Nat} (u_this : K1) (u_this_paces : (Nat → Int32)) (u_this_sandy : (Nat → Int32)) {rv : Int32} (hM : f_X1_greatestClean N u_this u_this_paces u_this_sandy = some rv) : Met l yX1_greatestClean wsX1_greatestClean ({ frames := 1, cells := 0, slots := 0, locals := 13 } : Room) (va_Pc [.ref h_this] (xPre D T [(h_this, .inr (1, o1 h_this_paces h_this_sandy u_this)), (h_this_paces, .inl (T.1, 30, .inl u_this_paces)), (h_this_sandy, .inl (T.1, 30, .inl u_this_sandy))] sz xE0)) (va_Qi (fun (r : Int32) (_ : Unit) => r = rv) (fun _ => xPost D T [(h_this, .inr (1, o1 h_this_paces h_this_sandy u_this)), (h_this_paces, .inl (T.1, 30, .inl u_this_paces)), (h_this_sandy, .inl (T.1, 30, .inl u_this_sandy))] (va_A [(h_this, .inr (1, o1 h_this_paces h_this_sandy u_this)), (h_this_paces, .inl (T.1, 30, .inl u_this_paces)), (h_this_sandy, .inl (T.1, 30, .inl u_this_sandy))] sz)) (va_A [(h_this, .inr (1, o1 h_this_paces h_this_sandy u_this)), (h_this_paces, .inl (T.1, 30, .inl u_this_paces)), (h_this_sandy, .inl (T.1, 30, .inl u_this_sandy))] sz)) 0 0 (va_A [(h_this, .inr (1, o1 h_this_paces h_this_sandy u_this)), (h_this_paces, .inl (T.1, 30, .inl u_this_paces)), (h_this_sandy, .inl (T.1, 30, .inl u_this_sandy))] sz) := by
  refine xMet (av := [.ref h_this]) (Wd := [(h_this, .inr (1, o1 h_this_paces h_this_sandy u_this)), (h_this_paces, .inl (T.1, 30, .inl u_this_paces)), (h_this_sandy, .inl (T.1, 30, .inl u_this_sandy))]) (E := xE0) (Qc := fun A => (va_Qi (fun (r : Int32) (_ : Unit) => r = rv) (fun _ => xPost D T [(h_this, .inr (1, o1 h_this_paces h_this_sandy u_this)), (h_this_paces, .inl (T.1, 30, .inl u_this_paces)), (h_this_sandy, .inl (T.1, 30, .inl u_this_sandy))] A) A)) (cc := cX1_greatestClean) (maxL := 3) (ret := (some .int)) (by decide) rfl (Nat.le_of_ble_eq_true rfl) ?_
  intro p e s m below meth c A ls hx hb hr hml hts hown hlocks hnm hP hK hD hS hA hE hl
  have hown : s.vm.findClass RX1 = some m.cls := hown
  have hl : lv_has ls 3 [(0, .ref h_this)] := hl
  unfold f_X1_greatestClean at hM
  refine lv_iconst (v := 0) hx hb dX1_greatestClean_0 (by decide) ?_
  refine lv_istore_n (lv' := [(1, .int (0)), (0, .ref h_this)]) hx hb dX1_greatestClean_1 rfl hl (by decide) rfl (fun ls hl => ?_)
  refine lv_iconst (v := 0) hx hb dX1_greatestClean_2 (by decide) ?_
  refine lv_istore_n (lv' := [(2, .int (0)), (1, .int (0)), (0, .ref h_this)]) hx hb dX1_greatestClean_3 rfl hl (by decide) rfl (fun ls hl => ?_)
  obtain ⟨v5, hM, hNv5⟩ := xbd hM
  have hQv5 := hM
  have Kv5 : ∀ (H : Heap) (locs : List Loc) (ls : Array Slot), va_P D vwCl [(h_this, .inr (1, o1 h_this_paces h_this_sandy u_this)), (h_this_paces, .inl (T.1, 30, .inl u_this_paces)), (h_this_sandy, .inl (T.1, 30, .inl u_this_sandy))] H → va_D A [(h_this, .inr (1, o1 h_this_paces h_this_sandy u_this)), (h_this_paces, .inl (T.1, 30, .inl u_this_paces)), (h_this_sandy, .inl (T.1, 30, .inl u_this_sandy))] → va_S A s.heap H locs → lv_has ls 3 [(1, .int v5.1)] → W p l e ({ frames := 1, cells := 0, slots := 0, locals := 13 } : Room) s m ([.ref h_this] : List Value).toArray below meth c H locs 0 0 (MQ below (va_Qi (fun (r : Int32) (_ : Unit) => r = rv) (fun _ => xPost D T [(h_this, .inr (1, o1 h_this_paces h_this_sandy u_this)), (h_this_paces, .inl (T.1, 30, .inl u_this_paces)), (h_this_sandy, .inl (T.1, 30, .inl u_this_sandy))] A) A) ([.ref h_this] : List Value).toArray s 0 0 A) (F0 m 38 ls []) := by
    intro H locs ls hP hD hS hl
    have hM := hNv5
    refine lv_iload_n hx hb dX1_greatestClean_38 rfl (lv_at hl 0 rfl) ?_
    obtain rfl := Option.some.inj hM
    exact xreti hx hb hr hlocks hP hK hD hS dX1_greatestClean_39 rfl
  have Lv1 : ∀ (n : Nat) (v1 : Int32 × Int32), xlp (s_X1_greatestClean_4 u_this u_this_paces u_this_sandy) n v1 = some v5 → ∀ (H : Heap) (locs : List Loc) (ls : Array Slot), va_P D vwCl [(h_this, .inr (1, o1 h_this_paces h_this_sandy u_this)), (h_this_paces, .inl (T.1, 30, .inl u_this_paces)), (h_this_sandy, .inl (T.1, 30, .inl u_this_sandy))] H → va_D A [(h_this, .inr (1, o1 h_this_paces h_this_sandy u_this)), (h_this_paces, .inl (T.1, 30, .inl u_this_paces)), (h_this_sandy, .inl (T.1, 30, .inl u_this_sandy))] → va_S A s.heap H locs → lv_has ls 3 [(0, .ref h_this), (1, .int v1.1), (2, .int v1.2)] → W p l e ({ frames := 1, cells := 0, slots := 0, locals := 13 } : Room) s m ([.ref h_this] : List Value).toArray below meth c H locs 0 0 (MQ below (va_Qi (fun (r : Int32) (_ : Unit) => r = rv) (fun _ => xPost D T [(h_this, .inr (1, o1 h_this_paces h_this_sandy u_this)), (h_this_paces, .inl (T.1, 30, .inl u_this_paces)), (h_this_sandy, .inl (T.1, 30, .inl u_this_sandy))] A) A) ([.ref h_this] : List Value).toArray s 0 0 A) (F0 m 4 ls []) := by
    intro n
    induction n with
    | zero => exact fun _ h => (xlp_0 h).elim
    | succ n ih =>
      intro v1 hM H locs ls hP hD hS hl
      obtain ⟨z, hM, hz1, hz2⟩ := xlp_s hM
      unfold s_X1_greatestClean_4 at hM
      refine lv_iload_n hx hb dX1_greatestClean_4 rfl (lv_at hl 2 rfl) ?_
      refine lv_aload_n hx hb dX1_greatestClean_5 rfl (lv_at hl 0 rfl) ?_
      refine va_get (D := D) (ci := 1) (v := .int u_this) (C := RX1) (T := TX1) (N := 3) hx hb hts (fun w h => List.mem_cons_of_mem _ (List.mem_append_right _ h)) hown hK hP 0 rfl rfl 2 (by decide) (hts _ (List.mem_of_getElem? (i := 1) rfl)) (fun _ h9 => h9) rfl dX1_greatestClean_6 ?_
      refine lv_icmp_ge (tgt := 38) hx hb dX1_greatestClean_9 (by decide) (fun c2 => ?_) (fun c2 => ?_)
      · have hM := xit c2 hM
        obtain rfl := hz2 _ (Option.some.inj hM).symm
        exact Kv5 _ _ _ hP hD hS (lv_sub hl [1] rfl)
      · have hM := xif c2 hM
        refine lv_aload_n hx hb dX1_greatestClean_12 rfl (lv_at hl 0 rfl) ?_
        refine va_get (D := D) (ci := 1) (v := .ref h_this_sandy) (C := RX1) (T := TX1) (N := 3) hx hb hts (fun w h => List.mem_cons_of_mem _ (List.mem_append_right _ h)) hown hK hP 0 rfl rfl 1 (by decide) (hts _ (List.mem_of_getElem? (i := 2) rfl)) (fun _ h9 => h9) rfl dX1_greatestClean_13 ?_
        refine lv_iload_n hx hb dX1_greatestClean_16 rfl (lv_at hl 2 rfl) ?_
        obtain ⟨g3, hM⟩ := xck hM
        refine xald (v := (u_this_sandy v1.2.toNatClampNeg)) hx hb hK hP 2 0 rfl rfl g3 rfl dX1_greatestClean_17 ?_
        refine lv_if_ne (tgt := 32) hx hb dX1_greatestClean_18 (by decide) (fun c4 => ?_) (fun c4 => ?_)
        · have hM := xif c4 hM
          refine lv_iinc (v := v1.2 + 1) (lv' := [(2, .int (v1.2 + 1)), (0, .ref h_this), (1, .int v1.1)]) hx hb dX1_greatestClean_32 hl (k := 2) rfl rfl (by decide) rfl (fun ls hl => ?_)
          refine lv_goto (tgt := 4) hx hb dX1_greatestClean_35 (by decide) ?_
          exact ih _ (hz1 _ (Option.some.inj hM).symm) _ _ _ hP hD hS (lv_sub hl [1, 2, 0] rfl)
        · have hM := xit c4 hM
          refine lv_iload_n hx hb dX1_greatestClean_21 rfl (lv_at hl 1 rfl) ?_
          refine lv_aload_n hx hb dX1_greatestClean_22 rfl (lv_at hl 0 rfl) ?_
          refine va_get (D := D) (ci := 1) (v := .ref h_this_paces) (C := RX1) (T := TX1) (N := 3) hx hb hts (fun w h => List.mem_cons_of_mem _ (List.mem_append_right _ h)) hown hK hP 0 rfl rfl 0 (by decide) (hts _ (List.mem_of_getElem? (i := 3) rfl)) (fun _ h9 => h9) rfl dX1_greatestClean_23 ?_
          refine lv_iload_n hx hb dX1_greatestClean_26 rfl (lv_at hl 2 rfl) ?_
          refine xald (v := (u_this_paces v1.2.toNatClampNeg)) hx hb hK hP 1 0 rfl rfl g3 rfl dX1_greatestClean_27 ?_
          refine va_mmax hx hb (hml.trans hl.1.symm) hown (hts _ (List.mem_of_getElem? (i := 4) rfl)) (hts _ (List.mem_of_getElem? (i := 5) rfl)) (hts _ (List.mem_of_getElem? (i := 6) rfl)) (hts _ (List.mem_of_getElem? (i := 7) rfl)) (Nat.le_of_ble_eq_true rfl) (Nat.le_of_ble_eq_true rfl) (Nat.zero_le _) (Nat.zero_le _) dX1_greatestClean_28 ?_
          refine lv_istore_n (lv' := [(1, .int (xmax v1.1 (u_this_paces v1.2.toNatClampNeg))), (0, .ref h_this), (2, .int v1.2)]) hx hb dX1_greatestClean_31 rfl hl (by decide) rfl (fun ls hl => ?_)
          refine lv_iinc (v := v1.2 + 1) (lv' := [(2, .int (v1.2 + 1)), (1, .int (xmax v1.1 (u_this_paces v1.2.toNatClampNeg))), (0, .ref h_this)]) hx hb dX1_greatestClean_32 hl (k := 2) rfl rfl (by decide) rfl (fun ls hl => ?_)
          refine lv_goto (tgt := 4) hx hb dX1_greatestClean_35 (by decide) ?_
          exact ih _ (hz1 _ (Option.some.inj hM).symm) _ _ _ hP hD hS (lv_sub hl [2, 1, 0] rfl)
  exact Lv1 _ _ hM _ _ _ hP hD hS (lv_sub hl [2, 1, 0] rfl)
def s_X1_leastSandy_5 (u_this : K1) (u_this_paces : (Nat → Int32)) (u_this_sandy : (Nat → Int32)) (v1 : Int32 × Int32) : Option ((Int32 × Int32) ⊕ (Int32 × Int32)) :=
  if u_this ≤ v1.2 then
   (some (.inr (v1.1, v1.2)))
  else
   (if xin v1.2 30 = true then
    (if (u_this_sandy v1.2.toNatClampNeg) = (1) then
      (if v1.1 = (-9) then
        (some (.inl ((u_this_paces v1.2.toNatClampNeg), v1.2 + 1)))
       else
        (if v1.1 ≤ (u_this_paces v1.2.toNatClampNeg) then
          (some (.inl (v1.1, v1.2 + 1)))
         else
          (some (.inl ((u_this_paces v1.2.toNatClampNeg), v1.2 + 1)))))
     else
      (some (.inl (v1.1, v1.2 + 1))))
    else none)
def f_X1_leastSandy (N : Nat) (u_this : K1) (u_this_paces : (Nat → Int32)) (u_this_sandy : (Nat → Int32)) : Option (Int32) :=
  (xlp (s_X1_leastSandy_5 u_this u_this_paces u_this_sandy) N ((-9), 0)).bind fun v7 =>
  some v7.1
set_option maxHeartbeats 4000000 in
set_option maxRecDepth 100000 in
theorem c_X1_leastSandy (l : Launch) (D : va_G) (T : xT) (h_this h_this_paces h_this_sandy : Nat) {sz : Nat} {N : Nat} (u_this : K1) (u_this_paces : (Nat → Int32)) (u_this_sandy : (Nat → Int32)) {rv : Int32} (hM : f_X1_leastSandy N u_this u_this_paces u_this_sandy = some rv) : Met l yX1_leastSandy wsX1_leastSandy ({ frames := 0, cells := 0, slots := 0, locals := 0 } : Room) (va_Pc [.ref h_this] (xPre D T [(h_this, .inr (1, o1 h_this_paces h_this_sandy u_this)), (h_this_paces, .inl (T.1, 30, .inl u_this_paces)), (h_this_sandy, .inl (T.1, 30, .inl u_this_sandy))] sz xE0)) (va_Qi (fun (r : Int32) (_ : Unit) => r = rv) (fun _ => xPost D T [(h_this, .inr (1, o1 h_this_paces h_this_sandy u_this)), (h_this_paces, .inl (T.1, 30, .inl u_this_paces)), (h_this_sandy, .inl (T.1, 30, .inl u_this_sandy))] (va_A [(h_this, .inr (1, o1 h_this_paces h_this_sandy u_this)), (h_this_paces, .inl (T.1, 30, .inl u_this_paces)), (h_this_sandy, .inl (T.1, 30, .inl u_this_sandy))] sz)) (va_A [(h_this, .inr (1, o1 h_this_paces h_this_sandy u_this)), (h_this_paces, .inl (T.1, 30, .inl u_this_paces)), (h_this_sandy, .inl (T.1, 30, .inl u_this_sandy))] sz)) 0 0 (va_A [(h_this, .inr (1, o1 h_this_paces h_this_sandy u_this)), (h_this_paces, .inl (T.1, 30, .inl u_this_paces)), (h_this_sandy, .inl (T.1, 30, .inl u_this_sandy))] sz) := by
  refine xMet (av := [.ref h_this]) (Wd := [(h_this, .inr (1, o1 h_this_paces h_this_sandy u_this)), (h_this_paces, .inl (T.1, 30, .inl u_this_paces)), (h_this_sandy, .inl (T.1, 30, .inl u_this_sandy))]) (E := xE0) (Qc := fun A => (va_Qi (fun (r : Int32) (_ : Unit) => r = rv) (fun _ => xPost D T [(h_this, .inr (1, o1 h_this_paces h_this_sandy u_this)), (h_this_paces, .inl (T.1, 30, .inl u_this_paces)), (h_this_sandy, .inl (T.1, 30, .inl u_this_sandy))] A) A)) (cc := cX1_leastSandy) (maxL := 3) (ret := (some .int)) (by decide) rfl (Nat.le_of_ble_eq_true rfl) ?_
  intro p e s m below meth c A ls hx hb hr hml hts hown hlocks hnm hP hK hD hS hA hE hl
  have hown : s.vm.findClass RX1 = some m.cls := hown
  have hl : lv_has ls 3 [(0, .ref h_this)] := hl
  unfold f_X1_leastSandy at hM
  refine lv_bipush (v := (-9)) hx hb dX1_leastSandy_0 (by decide) ?_
  refine lv_istore_n (lv' := [(1, .int (-9)), (0, .ref h_this)]) hx hb dX1_leastSandy_2 rfl hl (by decide) rfl (fun ls hl => ?_)
  refine lv_iconst (v := 0) hx hb dX1_leastSandy_3 (by decide) ?_
  refine lv_istore_n (lv' := [(2, .int (0)), (1, .int (-9)), (0, .ref h_this)]) hx hb dX1_leastSandy_4 rfl hl (by decide) rfl (fun ls hl => ?_)
  obtain ⟨v7, hM, hNv7⟩ := xbd hM
  have hQv7 := hM
  have Kv7 : ∀ (H : Heap) (locs : List Loc) (ls : Array Slot), va_P D vwCl [(h_this, .inr (1, o1 h_this_paces h_this_sandy u_this)), (h_this_paces, .inl (T.1, 30, .inl u_this_paces)), (h_this_sandy, .inl (T.1, 30, .inl u_this_sandy))] H → va_D A [(h_this, .inr (1, o1 h_this_paces h_this_sandy u_this)), (h_this_paces, .inl (T.1, 30, .inl u_this_paces)), (h_this_sandy, .inl (T.1, 30, .inl u_this_sandy))] → va_S A s.heap H locs → lv_has ls 3 [(1, .int v7.1)] → W p l e ({ frames := 0, cells := 0, slots := 0, locals := 0 } : Room) s m ([.ref h_this] : List Value).toArray below meth c H locs 0 0 (MQ below (va_Qi (fun (r : Int32) (_ : Unit) => r = rv) (fun _ => xPost D T [(h_this, .inr (1, o1 h_this_paces h_this_sandy u_this)), (h_this_paces, .inl (T.1, 30, .inl u_this_paces)), (h_this_sandy, .inl (T.1, 30, .inl u_this_sandy))] A) A) ([.ref h_this] : List Value).toArray s 0 0 A) (F0 m 52 ls []) := by
    intro H locs ls hP hD hS hl
    have hM := hNv7
    refine lv_iload_n hx hb dX1_leastSandy_52 rfl (lv_at hl 0 rfl) ?_
    obtain rfl := Option.some.inj hM
    exact xreti hx hb hr hlocks hP hK hD hS dX1_leastSandy_53 rfl
  have Lv1 : ∀ (n : Nat) (v1 : Int32 × Int32), xlp (s_X1_leastSandy_5 u_this u_this_paces u_this_sandy) n v1 = some v7 → ∀ (H : Heap) (locs : List Loc) (ls : Array Slot), va_P D vwCl [(h_this, .inr (1, o1 h_this_paces h_this_sandy u_this)), (h_this_paces, .inl (T.1, 30, .inl u_this_paces)), (h_this_sandy, .inl (T.1, 30, .inl u_this_sandy))] H → va_D A [(h_this, .inr (1, o1 h_this_paces h_this_sandy u_this)), (h_this_paces, .inl (T.1, 30, .inl u_this_paces)), (h_this_sandy, .inl (T.1, 30, .inl u_this_sandy))] → va_S A s.heap H locs → lv_has ls 3 [(0, .ref h_this), (1, .int v1.1), (2, .int v1.2)] → W p l e ({ frames := 0, cells := 0, slots := 0, locals := 0 } : Room) s m ([.ref h_this] : List Value).toArray below meth c H locs 0 0 (MQ below (va_Qi (fun (r : Int32) (_ : Unit) => r = rv) (fun _ => xPost D T [(h_this, .inr (1, o1 h_this_paces h_this_sandy u_this)), (h_this_paces, .inl (T.1, 30, .inl u_this_paces)), (h_this_sandy, .inl (T.1, 30, .inl u_this_sandy))] A) A) ([.ref h_this] : List Value).toArray s 0 0 A) (F0 m 5 ls []) := by
    intro n
    induction n with
    | zero => exact fun _ h => (xlp_0 h).elim
    | succ n ih =>
      intro v1 hM H locs ls hP hD hS hl
      obtain ⟨z, hM, hz1, hz2⟩ := xlp_s hM
      unfold s_X1_leastSandy_5 at hM
      refine lv_iload_n hx hb dX1_leastSandy_5 rfl (lv_at hl 2 rfl) ?_
      refine lv_aload_n hx hb dX1_leastSandy_6 rfl (lv_at hl 0 rfl) ?_
      refine va_get (D := D) (ci := 1) (v := .int u_this) (C := RX1) (T := TX1) (N := 3) hx hb hts (fun w h => List.mem_cons_of_mem _ (List.mem_append_right _ h)) hown hK hP 0 rfl rfl 2 (by decide) (hts _ (List.mem_of_getElem? (i := 1) rfl)) (fun _ h9 => h9) rfl dX1_leastSandy_7 ?_
      refine lv_icmp_ge (tgt := 52) hx hb dX1_leastSandy_10 (by decide) (fun c2 => ?_) (fun c2 => ?_)
      · have hM := xit c2 hM
        obtain rfl := hz2 _ (Option.some.inj hM).symm
        exact Kv7 _ _ _ hP hD hS (lv_sub hl [1] rfl)
      · have hM := xif c2 hM
        refine lv_aload_n hx hb dX1_leastSandy_13 rfl (lv_at hl 0 rfl) ?_
        refine va_get (D := D) (ci := 1) (v := .ref h_this_sandy) (C := RX1) (T := TX1) (N := 3) hx hb hts (fun w h => List.mem_cons_of_mem _ (List.mem_append_right _ h)) hown hK hP 0 rfl rfl 1 (by decide) (hts _ (List.mem_of_getElem? (i := 2) rfl)) (fun _ h9 => h9) rfl dX1_leastSandy_14 ?_
        refine lv_iload_n hx hb dX1_leastSandy_17 rfl (lv_at hl 2 rfl) ?_
        obtain ⟨g3, hM⟩ := xck hM
        refine xald (v := (u_this_sandy v1.2.toNatClampNeg)) hx hb hK hP 2 0 rfl rfl g3 rfl dX1_leastSandy_18 ?_
        refine lv_iconst (v := 1) hx hb dX1_leastSandy_19 (by decide) ?_
        refine lv_icmp_ne (tgt := 46) hx hb dX1_leastSandy_20 (by decide) (fun c4 => ?_) (fun c4 => ?_)
        · have hM := xif c4 hM
          refine lv_iinc (v := v1.2 + 1) (lv' := [(2, .int (v1.2 + 1)), (0, .ref h_this), (1, .int v1.1)]) hx hb dX1_leastSandy_46 hl (k := 2) rfl rfl (by decide) rfl (fun ls hl => ?_)
          refine lv_goto (tgt := 5) hx hb dX1_leastSandy_49 (by decide) ?_
          exact ih _ (hz1 _ (Option.some.inj hM).symm) _ _ _ hP hD hS (lv_sub hl [1, 2, 0] rfl)
        · have hM := xit c4 hM
          refine lv_iload_n hx hb dX1_leastSandy_23 rfl (lv_at hl 1 rfl) ?_
          refine lv_bipush (v := (-9)) hx hb dX1_leastSandy_24 (by decide) ?_
          refine lv_icmp_eq (tgt := 39) hx hb dX1_leastSandy_26 (by decide) (fun c5 => ?_) (fun c5 => ?_)
          · have hM := xit c5 hM
            refine lv_aload_n hx hb dX1_leastSandy_39 rfl (lv_at hl 0 rfl) ?_
            refine va_get (D := D) (ci := 1) (v := .ref h_this_paces) (C := RX1) (T := TX1) (N := 3) hx hb hts (fun w h => List.mem_cons_of_mem _ (List.mem_append_right _ h)) hown hK hP 0 rfl rfl 0 (by decide) (hts _ (List.mem_of_getElem? (i := 3) rfl)) (fun _ h9 => h9) rfl dX1_leastSandy_40 ?_
            refine lv_iload_n hx hb dX1_leastSandy_43 rfl (lv_at hl 2 rfl) ?_
            refine xald (v := (u_this_paces v1.2.toNatClampNeg)) hx hb hK hP 1 0 rfl rfl g3 rfl dX1_leastSandy_44 ?_
            refine lv_istore_n (lv' := [(1, .int (u_this_paces v1.2.toNatClampNeg)), (0, .ref h_this), (2, .int v1.2)]) hx hb dX1_leastSandy_45 rfl hl (by decide) rfl (fun ls hl => ?_)
            refine lv_iinc (v := v1.2 + 1) (lv' := [(2, .int (v1.2 + 1)), (1, .int (u_this_paces v1.2.toNatClampNeg)), (0, .ref h_this)]) hx hb dX1_leastSandy_46 hl (k := 2) rfl rfl (by decide) rfl (fun ls hl => ?_)
            refine lv_goto (tgt := 5) hx hb dX1_leastSandy_49 (by decide) ?_
            exact ih _ (hz1 _ (Option.some.inj hM).symm) _ _ _ hP hD hS (lv_sub hl [2, 1, 0] rfl)
          · have hM := xif c5 hM
            refine lv_aload_n hx hb dX1_leastSandy_29 rfl (lv_at hl 0 rfl) ?_
            refine va_get (D := D) (ci := 1) (v := .ref h_this_paces) (C := RX1) (T := TX1) (N := 3) hx hb hts (fun w h => List.mem_cons_of_mem _ (List.mem_append_right _ h)) hown hK hP 0 rfl rfl 0 (by decide) (hts _ (List.mem_of_getElem? (i := 3) rfl)) (fun _ h9 => h9) rfl dX1_leastSandy_30 ?_
            refine lv_iload_n hx hb dX1_leastSandy_33 rfl (lv_at hl 2 rfl) ?_
            refine xald (v := (u_this_paces v1.2.toNatClampNeg)) hx hb hK hP 1 0 rfl rfl g3 rfl dX1_leastSandy_34 ?_
            refine lv_iload_n hx hb dX1_leastSandy_35 rfl (lv_at hl 1 rfl) ?_
            refine lv_icmp_ge (tgt := 46) hx hb dX1_leastSandy_36 (by decide) (fun c6 => ?_) (fun c6 => ?_)
            · have hM := xit c6 hM
              refine lv_iinc (v := v1.2 + 1) (lv' := [(2, .int (v1.2 + 1)), (0, .ref h_this), (1, .int v1.1)]) hx hb dX1_leastSandy_46 hl (k := 2) rfl rfl (by decide) rfl (fun ls hl => ?_)
              refine lv_goto (tgt := 5) hx hb dX1_leastSandy_49 (by decide) ?_
              exact ih _ (hz1 _ (Option.some.inj hM).symm) _ _ _ hP hD hS (lv_sub hl [1, 2, 0] rfl)
            · have hM := xif c6 hM
              refine lv_aload_n hx hb dX1_leastSandy_39 rfl (lv_at hl 0 rfl) ?_
              refine va_get (D := D) (ci := 1) (v := .ref h_this_paces) (C := RX1) (T := TX1) (N := 3) hx hb hts (fun w h => List.mem_cons_of_mem _ (List.mem_append_right _ h)) hown hK hP 0 rfl rfl 0 (by decide) (hts _ (List.mem_of_getElem? (i := 3) rfl)) (fun _ h9 => h9) rfl dX1_leastSandy_40 ?_
              refine lv_iload_n hx hb dX1_leastSandy_43 rfl (lv_at hl 2 rfl) ?_
              refine xald (v := (u_this_paces v1.2.toNatClampNeg)) hx hb hK hP 1 0 rfl rfl g3 rfl dX1_leastSandy_44 ?_
              refine lv_istore_n (lv' := [(1, .int (u_this_paces v1.2.toNatClampNeg)), (0, .ref h_this), (2, .int v1.2)]) hx hb dX1_leastSandy_45 rfl hl (by decide) rfl (fun ls hl => ?_)
              refine lv_iinc (v := v1.2 + 1) (lv' := [(2, .int (v1.2 + 1)), (1, .int (u_this_paces v1.2.toNatClampNeg)), (0, .ref h_this)]) hx hb dX1_leastSandy_46 hl (k := 2) rfl rfl (by decide) rfl (fun ls hl => ?_)
              refine lv_goto (tgt := 5) hx hb dX1_leastSandy_49 (by decide) ?_
              exact ih _ (hz1 _ (Option.some.inj hM).symm) _ _ _ hP hD hS (lv_sub hl [2, 1, 0] rfl)
  exact Lv1 _ _ hM _ _ _ hP hD hS (lv_sub hl [2, 1, 0] rfl)
def f_X2_add (u_this : K2) (u_this_hours : (Nat → Int32)) (u_this_seen : (Nat → Int32)) (u_this_whats : (Nat → Int32)) (p1 : Int32) (p2 : Int32) (p3 : Int32) : Option (Int32 × K2 × (Nat → Int32) × (Nat → Int32) × (Nat → Int32)) :=
  if u_this < (6) then
   (if xin u_this 6 = true then
    (some ((u_this + (1)), (u_this + (1)), (upd u_this_hours u_this.toNatClampNeg p2), (upd u_this_seen u_this.toNatClampNeg p3), (upd u_this_whats u_this.toNatClampNeg p1)))
    else none)
  else
   (some ((-3), u_this, u_this_hours, u_this_seen, u_this_whats))
set_option maxHeartbeats 4000000 in
set_option maxRecDepth 100000 in
theorem c_X2_add (l : Launch) (D : va_G) (T : xT) (h_this h_this_whats h_this_hours h_this_seen : Nat) {sz : Nat} (u_this : K2) (u_this_hours : (Nat → Int32)) (u_this_seen : (Nat → Int32)) (u_this_whats : (Nat → Int32)) (p1 : Int32) (p2 : Int32) (p3 : Int32) {rv : Int32 × K2 × (Nat → Int32) × (Nat → Int32) × (Nat → Int32)} (hM : f_X2_add u_this u_this_hours u_this_seen u_this_whats p1 p2 p3 = some rv) : Met l yX2_add wsX2_add ({ frames := 0, cells := 0, slots := 0, locals := 0 } : Room) (va_Pc [.ref h_this, .int p1, .int p2, .int p3] (xPre D T [(h_this, .inr (2, o2 h_this_whats h_this_hours h_this_seen u_this)), (h_this_hours, .inl (T.1, 6, .inl u_this_hours)), (h_this_seen, .inl (T.1, 6, .inl u_this_seen)), (h_this_whats, .inl (T.1, 6, .inl u_this_whats))] sz xE0)) (va_Qi (fun (r : Int32) (_ : Unit) => r = rv.1) (fun _ => xPost D T [(h_this, .inr (2, o2 h_this_whats h_this_hours h_this_seen rv.2.1)), (h_this_hours, .inl (T.1, 6, .inl rv.2.2.1)), (h_this_seen, .inl (T.1, 6, .inl rv.2.2.2.1)), (h_this_whats, .inl (T.1, 6, .inl rv.2.2.2.2))] (va_A [(h_this, .inr (2, o2 h_this_whats h_this_hours h_this_seen u_this)), (h_this_hours, .inl (T.1, 6, .inl u_this_hours)), (h_this_seen, .inl (T.1, 6, .inl u_this_seen)), (h_this_whats, .inl (T.1, 6, .inl u_this_whats))] sz)) (va_A [(h_this, .inr (2, o2 h_this_whats h_this_hours h_this_seen u_this)), (h_this_hours, .inl (T.1, 6, .inl u_this_hours)), (h_this_seen, .inl (T.1, 6, .inl u_this_seen)), (h_this_whats, .inl (T.1, 6, .inl u_this_whats))] sz)) 0 0 (va_A [(h_this, .inr (2, o2 h_this_whats h_this_hours h_this_seen u_this)), (h_this_hours, .inl (T.1, 6, .inl u_this_hours)), (h_this_seen, .inl (T.1, 6, .inl u_this_seen)), (h_this_whats, .inl (T.1, 6, .inl u_this_whats))] sz) := by
  refine xMet (av := [.ref h_this, .int p1, .int p2, .int p3]) (Wd := [(h_this, .inr (2, o2 h_this_whats h_this_hours h_this_seen u_this)), (h_this_hours, .inl (T.1, 6, .inl u_this_hours)), (h_this_seen, .inl (T.1, 6, .inl u_this_seen)), (h_this_whats, .inl (T.1, 6, .inl u_this_whats))]) (E := xE0) (Qc := fun A => (va_Qi (fun (r : Int32) (_ : Unit) => r = rv.1) (fun _ => xPost D T [(h_this, .inr (2, o2 h_this_whats h_this_hours h_this_seen rv.2.1)), (h_this_hours, .inl (T.1, 6, .inl rv.2.2.1)), (h_this_seen, .inl (T.1, 6, .inl rv.2.2.2.1)), (h_this_whats, .inl (T.1, 6, .inl rv.2.2.2.2))] A) A)) (cc := cX2_add) (maxL := 4) (ret := (some .int)) (by decide) rfl (Nat.le_of_ble_eq_true rfl) ?_
  intro p e s m below meth c A ls hx hb hr hml hts hown hlocks hnm hP hK hD hS hA hE hl
  have hown : s.vm.findClass RX2 = some m.cls := hown
  have hl : lv_has ls 4 [(0, .ref h_this), (1, .int p1), (2, .int p2), (3, .int p3)] := hl
  unfold f_X2_add at hM
  refine lv_aload_n hx hb dX2_add_0 rfl (lv_at hl 0 rfl) ?_
  refine va_get (D := D) (ci := 2) (v := .int u_this) (C := RX2) (T := TX2) (N := 4) hx hb hts (fun w h => List.mem_cons_of_mem _ (List.mem_append_right _ h)) hown hK hP 0 rfl rfl 3 (by decide) (hts _ (List.mem_of_getElem? (i := 1) rfl)) (fun _ h9 => h9) rfl dX2_add_1 ?_
  refine lv_aload_n hx hb dX2_add_4 rfl (lv_at hl 0 rfl) ?_
  refine va_get (D := D) (ci := 2) (v := .ref h_this_whats) (C := RX2) (T := TX2) (N := 4) hx hb hts (fun w h => List.mem_cons_of_mem _ (List.mem_append_right _ h)) hown hK hP 0 rfl rfl 0 (by decide) (hts _ (List.mem_of_getElem? (i := 2) rfl)) (fun _ h9 => h9) rfl dX2_add_5 ?_
  refine va_alen (v := 6) hx hb hK hP 3 0 rfl rfl (show Int32.ofNat 6 = 6 by decide) dX2_add_8 ?_
  refine lv_icmp_lt (tgt := 15) hx hb dX2_add_9 (by decide) (fun c1 => ?_) (fun c1 => ?_)
  · have hM := xit c1 hM
    refine lv_aload_n hx hb dX2_add_15 rfl (lv_at hl 0 rfl) ?_
    refine va_get (D := D) (ci := 2) (v := .ref h_this_whats) (C := RX2) (T := TX2) (N := 4) hx hb hts (fun w h => List.mem_cons_of_mem _ (List.mem_append_right _ h)) hown hK hP 0 rfl rfl 0 (by decide) (hts _ (List.mem_of_getElem? (i := 2) rfl)) (fun _ h9 => h9) rfl dX2_add_16 ?_
    refine lv_aload_n hx hb dX2_add_19 rfl (lv_at hl 0 rfl) ?_
    refine va_get (D := D) (ci := 2) (v := .int u_this) (C := RX2) (T := TX2) (N := 4) hx hb hts (fun w h => List.mem_cons_of_mem _ (List.mem_append_right _ h)) hown hK hP 0 rfl rfl 3 (by decide) (hts _ (List.mem_of_getElem? (i := 1) rfl)) (fun _ h9 => h9) rfl dX2_add_20 ?_
    refine lv_iload_n hx hb dX2_add_23 rfl (lv_at hl 1 rfl) ?_
    obtain ⟨g2, hM⟩ := xck hM
    refine xast hx hb hK hP hD hS 3 0 rfl rfl g2 rfl dX2_add_24 (fun H locs hP hD hS => ?_)
    have hP : va_P D vwCl [(h_this, .inr (2, o2 h_this_whats h_this_hours h_this_seen u_this)), (h_this_hours, .inl (T.1, 6, .inl u_this_hours)), (h_this_seen, .inl (T.1, 6, .inl u_this_seen)), (h_this_whats, .inl (T.1, 6, .inl (upd u_this_whats u_this.toNatClampNeg p1)))] H := hP
    have hD : va_D A [(h_this, .inr (2, o2 h_this_whats h_this_hours h_this_seen u_this)), (h_this_hours, .inl (T.1, 6, .inl u_this_hours)), (h_this_seen, .inl (T.1, 6, .inl u_this_seen)), (h_this_whats, .inl (T.1, 6, .inl (upd u_this_whats u_this.toNatClampNeg p1)))] := hD
    refine lv_aload_n hx hb dX2_add_25 rfl (lv_at hl 0 rfl) ?_
    refine va_get (D := D) (ci := 2) (v := .ref h_this_hours) (C := RX2) (T := TX2) (N := 4) hx hb hts (fun w h => List.mem_cons_of_mem _ (List.mem_append_right _ h)) hown hK hP 0 rfl rfl 1 (by decide) (hts _ (List.mem_of_getElem? (i := 3) rfl)) (fun _ h9 => h9) rfl dX2_add_26 ?_
    refine lv_aload_n hx hb dX2_add_29 rfl (lv_at hl 0 rfl) ?_
    refine va_get (D := D) (ci := 2) (v := .int u_this) (C := RX2) (T := TX2) (N := 4) hx hb hts (fun w h => List.mem_cons_of_mem _ (List.mem_append_right _ h)) hown hK hP 0 rfl rfl 3 (by decide) (hts _ (List.mem_of_getElem? (i := 1) rfl)) (fun _ h9 => h9) rfl dX2_add_30 ?_
    refine lv_iload_n hx hb dX2_add_33 rfl (lv_at hl 2 rfl) ?_
    refine xast hx hb hK hP hD hS 1 0 rfl rfl g2 rfl dX2_add_34 (fun H locs hP hD hS => ?_)
    have hP : va_P D vwCl [(h_this, .inr (2, o2 h_this_whats h_this_hours h_this_seen u_this)), (h_this_hours, .inl (T.1, 6, .inl (upd u_this_hours u_this.toNatClampNeg p2))), (h_this_seen, .inl (T.1, 6, .inl u_this_seen)), (h_this_whats, .inl (T.1, 6, .inl (upd u_this_whats u_this.toNatClampNeg p1)))] H := hP
    have hD : va_D A [(h_this, .inr (2, o2 h_this_whats h_this_hours h_this_seen u_this)), (h_this_hours, .inl (T.1, 6, .inl (upd u_this_hours u_this.toNatClampNeg p2))), (h_this_seen, .inl (T.1, 6, .inl u_this_seen)), (h_this_whats, .inl (T.1, 6, .inl (upd u_this_whats u_this.toNatClampNeg p1)))] := hD
    refine lv_aload_n hx hb dX2_add_35 rfl (lv_at hl 0 rfl) ?_
    refine va_get (D := D) (ci := 2) (v := .ref h_this_seen) (C := RX2) (T := TX2) (N := 4) hx hb hts (fun w h => List.mem_cons_of_mem _ (List.mem_append_right _ h)) hown hK hP 0 rfl rfl 2 (by decide) (hts _ (List.mem_of_getElem? (i := 4) rfl)) (fun _ h9 => h9) rfl dX2_add_36 ?_
    refine lv_aload_n hx hb dX2_add_39 rfl (lv_at hl 0 rfl) ?_
    refine va_get (D := D) (ci := 2) (v := .int u_this) (C := RX2) (T := TX2) (N := 4) hx hb hts (fun w h => List.mem_cons_of_mem _ (List.mem_append_right _ h)) hown hK hP 0 rfl rfl 3 (by decide) (hts _ (List.mem_of_getElem? (i := 1) rfl)) (fun _ h9 => h9) rfl dX2_add_40 ?_
    refine lv_iload_n hx hb dX2_add_43 rfl (lv_at hl 3 rfl) ?_
    refine xast hx hb hK hP hD hS 2 0 rfl rfl g2 rfl dX2_add_44 (fun H locs hP hD hS => ?_)
    have hP : va_P D vwCl [(h_this, .inr (2, o2 h_this_whats h_this_hours h_this_seen u_this)), (h_this_hours, .inl (T.1, 6, .inl (upd u_this_hours u_this.toNatClampNeg p2))), (h_this_seen, .inl (T.1, 6, .inl (upd u_this_seen u_this.toNatClampNeg p3))), (h_this_whats, .inl (T.1, 6, .inl (upd u_this_whats u_this.toNatClampNeg p1)))] H := hP
    have hD : va_D A [(h_this, .inr (2, o2 h_this_whats h_this_hours h_this_seen u_this)), (h_this_hours, .inl (T.1, 6, .inl (upd u_this_hours u_this.toNatClampNeg p2))), (h_this_seen, .inl (T.1, 6, .inl (upd u_this_seen u_this.toNatClampNeg p3))), (h_this_whats, .inl (T.1, 6, .inl (upd u_this_whats u_this.toNatClampNeg p1)))] := hD
    refine lv_aload_n hx hb dX2_add_45 rfl (lv_at hl 0 rfl) ?_
    refine lv_dup hx hb dX2_add_46 rfl ?_
    refine va_get (D := D) (ci := 2) (v := .int u_this) (C := RX2) (T := TX2) (N := 4) hx hb hts (fun w h => List.mem_cons_of_mem _ (List.mem_append_right _ h)) hown hK hP 0 rfl rfl 3 (by decide) (hts _ (List.mem_of_getElem? (i := 1) rfl)) (fun _ h9 => h9) rfl dX2_add_47 ?_
    refine lv_iconst (v := 1) hx hb dX2_add_50 (by decide) ?_
    refine lv_iadd hx hb dX2_add_51 ?_
    refine va_put (D := D) (ci := 2) (v := .int (u_this + (1))) (C := RX2) (T := TX2) (N := 4) hx hb hts (fun w h => List.mem_cons_of_mem _ (List.mem_append_right _ h)) tyX2 tyX2_ok nmX2 hown hK hP hD hS 0 rfl rfl 3 (by decide) (hts _ (List.mem_of_getElem? (i := 1) rfl)) (fun _ h9 => h9) rfl (tyX2_ok 3 (by decide)) rfl rfl (Nat.le_of_ble_eq_true rfl) dX2_add_52 (fun H locs hP hD hS => ?_)
    have hP : va_P D vwCl [(h_this, .inr (2, o2 h_this_whats h_this_hours h_this_seen (u_this + (1)))), (h_this_hours, .inl (T.1, 6, .inl (upd u_this_hours u_this.toNatClampNeg p2))), (h_this_seen, .inl (T.1, 6, .inl (upd u_this_seen u_this.toNatClampNeg p3))), (h_this_whats, .inl (T.1, 6, .inl (upd u_this_whats u_this.toNatClampNeg p1)))] H := hP
    have hD : va_D A [(h_this, .inr (2, o2 h_this_whats h_this_hours h_this_seen (u_this + (1)))), (h_this_hours, .inl (T.1, 6, .inl (upd u_this_hours u_this.toNatClampNeg p2))), (h_this_seen, .inl (T.1, 6, .inl (upd u_this_seen u_this.toNatClampNeg p3))), (h_this_whats, .inl (T.1, 6, .inl (upd u_this_whats u_this.toNatClampNeg p1)))] := hD
    refine lv_aload_n hx hb dX2_add_55 rfl (lv_at hl 0 rfl) ?_
    refine va_get (D := D) (ci := 2) (v := .int (u_this + (1))) (C := RX2) (T := TX2) (N := 4) hx hb hts (fun w h => List.mem_cons_of_mem _ (List.mem_append_right _ h)) hown hK hP 0 rfl rfl 3 (by decide) (hts _ (List.mem_of_getElem? (i := 1) rfl)) (fun _ h9 => h9) rfl dX2_add_56 ?_
    obtain rfl := Option.some.inj hM
    exact xreti hx hb hr hlocks hP hK hD hS dX2_add_59 rfl
  · have hM := xif c1 hM
    refine lv_bipush (v := (-3)) hx hb dX2_add_12 (by decide) ?_
    obtain rfl := Option.some.inj hM
    exact xreti hx hb hr hlocks hP hK hD hS dX2_add_14 rfl
def f_X2_empty (u_this : K2) : Int32 × K2 :=
  (u_this, 0)
set_option maxHeartbeats 4000000 in
set_option maxRecDepth 100000 in
theorem c_X2_empty (l : Launch) (D : va_G) (T : xT) (h_this h_this_whats h_this_hours h_this_seen : Nat) {sz : Nat} (u_this : K2) {rv : Int32 × K2} (hM : f_X2_empty u_this = rv) : Met l yX2_empty wsX2_empty ({ frames := 0, cells := 0, slots := 0, locals := 0 } : Room) (va_Pc [.ref h_this] (xPre D T [(h_this, .inr (2, o2 h_this_whats h_this_hours h_this_seen u_this))] sz xE0)) (va_Qi (fun (r : Int32) (_ : Unit) => r = rv.1) (fun _ => xPost D T [(h_this, .inr (2, o2 h_this_whats h_this_hours h_this_seen rv.2))] (va_A [(h_this, .inr (2, o2 h_this_whats h_this_hours h_this_seen u_this))] sz)) (va_A [(h_this, .inr (2, o2 h_this_whats h_this_hours h_this_seen u_this))] sz)) 0 0 (va_A [(h_this, .inr (2, o2 h_this_whats h_this_hours h_this_seen u_this))] sz) := by
  refine xMet (av := [.ref h_this]) (Wd := [(h_this, .inr (2, o2 h_this_whats h_this_hours h_this_seen u_this))]) (E := xE0) (Qc := fun A => (va_Qi (fun (r : Int32) (_ : Unit) => r = rv.1) (fun _ => xPost D T [(h_this, .inr (2, o2 h_this_whats h_this_hours h_this_seen rv.2))] A) A)) (cc := cX2_empty) (maxL := 2) (ret := (some .int)) (by decide) rfl (Nat.le_of_ble_eq_true rfl) ?_
  intro p e s m below meth c A ls hx hb hr hml hts hown hlocks hnm hP hK hD hS hA hE hl
  have hown : s.vm.findClass RX2 = some m.cls := hown
  have hl : lv_has ls 2 [(0, .ref h_this)] := hl
  unfold f_X2_empty at hM
  refine lv_aload_n hx hb dX2_empty_0 rfl (lv_at hl 0 rfl) ?_
  refine va_get (D := D) (ci := 2) (v := .int u_this) (C := RX2) (T := TX2) (N := 4) hx hb hts (fun w h => List.mem_cons_of_mem _ (List.mem_append_right _ h)) hown hK hP 0 rfl rfl 3 (by decide) (hts _ (List.mem_of_getElem? (i := 1) rfl)) (fun _ h9 => h9) rfl dX2_empty_1 ?_
  refine lv_istore_n (lv' := [(1, .int u_this), (0, .ref h_this)]) hx hb dX2_empty_4 rfl hl (by decide) rfl (fun ls hl => ?_)
  refine lv_aload_n hx hb dX2_empty_5 rfl (lv_at hl 1 rfl) ?_
  refine lv_iconst (v := 0) hx hb dX2_empty_6 (by decide) ?_
  refine va_put (D := D) (ci := 2) (v := .int (0)) (C := RX2) (T := TX2) (N := 4) hx hb hts (fun w h => List.mem_cons_of_mem _ (List.mem_append_right _ h)) tyX2 tyX2_ok nmX2 hown hK hP hD hS 0 rfl rfl 3 (by decide) (hts _ (List.mem_of_getElem? (i := 1) rfl)) (fun _ h9 => h9) rfl (tyX2_ok 3 (by decide)) rfl rfl (Nat.le_of_ble_eq_true rfl) dX2_empty_7 (fun H locs hP hD hS => ?_)
  have hP : va_P D vwCl [(h_this, .inr (2, o2 h_this_whats h_this_hours h_this_seen (0)))] H := hP
  have hD : va_D A [(h_this, .inr (2, o2 h_this_whats h_this_hours h_this_seen (0)))] := hD
  refine lv_iload_n hx hb dX2_empty_10 rfl (lv_at hl 0 rfl) ?_
  obtain rfl := hM
  exact xreti hx hb hr hlocks hP hK hD hS dX2_empty_11 rfl
def f_X6_outside (p1 : Int32) (p2 : Int32) (p3 : Int32) : Int32 :=
  if p1 < p2 then
   (1)
  else
   (if p1 ≤ p3 then
     (0)
    else
     (1))
set_option maxHeartbeats 4000000 in
set_option maxRecDepth 100000 in
theorem c_X6_outside (l : Launch) (D : va_G) (T : xT)  {sz : Nat} (p1 : Int32) (p2 : Int32) (p3 : Int32) {rv : Int32} (hM : f_X6_outside p1 p2 p3 = rv) : Met l yX6_outside wsX6_outside ({ frames := 0, cells := 0, slots := 0, locals := 0 } : Room) (va_Pc [.int p1, .int p2, .int p3] (xPre D T [] sz xE0)) (va_Qi (fun (r : Int32) (_ : Unit) => r = rv) (fun _ => xPost D T [] (va_A [] sz)) (va_A [] sz)) 0 0 (va_A [] sz) := by
  refine xMet (av := [.int p1, .int p2, .int p3]) (Wd := []) (E := xE0) (Qc := fun A => (va_Qi (fun (r : Int32) (_ : Unit) => r = rv) (fun _ => xPost D T [] A) A)) (cc := cX6_outside) (maxL := 3) (ret := (some .boolean)) (by decide) rfl (Nat.le_of_ble_eq_true rfl) ?_
  intro p e s m below meth c A ls hx hb hr hml hts hown hlocks hnm hP hK hD hS hA hE hl
  have hown : s.vm.findClass RX6 = some m.cls := hown
  have hl : lv_has ls 3 [(0, .int p1), (1, .int p2), (2, .int p3)] := hl
  unfold f_X6_outside at hM
  refine lv_iload_n hx hb dX6_outside_0 rfl (lv_at hl 0 rfl) ?_
  refine lv_iload_n hx hb dX6_outside_1 rfl (lv_at hl 1 rfl) ?_
  refine lv_icmp_lt (tgt := 10) hx hb dX6_outside_2 (by decide) (fun c1 => ?_) (fun c1 => ?_)
  · have hM := xit c1 hM
    refine lv_iconst (v := 1) hx hb dX6_outside_10 (by decide) ?_
    refine lv_goto (tgt := 15) hx hb dX6_outside_11 (by decide) ?_
    obtain rfl := hM
    exact xretz hx hb hr hlocks hP hK hD hS dX6_outside_15 rfl rfl
  · have hM := xif c1 hM
    refine lv_iload_n hx hb dX6_outside_5 rfl (lv_at hl 0 rfl) ?_
    refine lv_iload_n hx hb dX6_outside_6 rfl (lv_at hl 2 rfl) ?_
    refine lv_icmp_le (tgt := 14) hx hb dX6_outside_7 (by decide) (fun c2 => ?_) (fun c2 => ?_)
    · have hM := xit c2 hM
      refine lv_iconst (v := 0) hx hb dX6_outside_14 (by decide) ?_
      obtain rfl := hM
      exact xretz hx hb hr hlocks hP hK hD hS dX6_outside_15 rfl rfl
    · have hM := xif c2 hM
      refine lv_iconst (v := 1) hx hb dX6_outside_10 (by decide) ?_
      refine lv_goto (tgt := 15) hx hb dX6_outside_11 (by decide) ?_
      obtain rfl := hM
      exact xretz hx hb hr hlocks hP hK hD hS dX6_outside_15 rfl rfl
def f_X5_add (u_this : K5) (u_this_springs : (Nat → Int32)) (u_this_summers : (Nat → Int32)) (p1 : Int32) (p2 : Int32) : Option (Int32 × K5 × (Nat → Int32) × (Nat → Int32)) :=
  if u_this < (20) then
   (if xin u_this 20 = true then
    (some ((u_this + (1)), (u_this + (1)), (upd u_this_springs u_this.toNatClampNeg p1), (upd u_this_summers u_this.toNatClampNeg p2)))
    else none)
  else
   (some ((-3), u_this, u_this_springs, u_this_summers))
set_option maxHeartbeats 4000000 in
set_option maxRecDepth 100000 in
theorem c_X5_add (l : Launch) (D : va_G) (T : xT) (h_this h_this_springs h_this_summers : Nat) {sz : Nat} (u_this : K5) (u_this_springs : (Nat → Int32)) (u_this_summers : (Nat → Int32)) (p1 : Int32) (p2 : Int32) {rv : Int32 × K5 × (Nat → Int32) × (Nat → Int32)} (hM : f_X5_add u_this u_this_springs u_this_summers p1 p2 = some rv) : Met l yX5_add wsX5_add ({ frames := 0, cells := 0, slots := 0, locals := 0 } : Room) (va_Pc [.ref h_this, .int p1, .int p2] (xPre D T [(h_this, .inr (5, o5 h_this_springs h_this_summers u_this)), (h_this_springs, .inl (T.1, 20, .inl u_this_springs)), (h_this_summers, .inl (T.1, 20, .inl u_this_summers))] sz xE0)) (va_Qi (fun (r : Int32) (_ : Unit) => r = rv.1) (fun _ => xPost D T [(h_this, .inr (5, o5 h_this_springs h_this_summers rv.2.1)), (h_this_springs, .inl (T.1, 20, .inl rv.2.2.1)), (h_this_summers, .inl (T.1, 20, .inl rv.2.2.2))] (va_A [(h_this, .inr (5, o5 h_this_springs h_this_summers u_this)), (h_this_springs, .inl (T.1, 20, .inl u_this_springs)), (h_this_summers, .inl (T.1, 20, .inl u_this_summers))] sz)) (va_A [(h_this, .inr (5, o5 h_this_springs h_this_summers u_this)), (h_this_springs, .inl (T.1, 20, .inl u_this_springs)), (h_this_summers, .inl (T.1, 20, .inl u_this_summers))] sz)) 0 0 (va_A [(h_this, .inr (5, o5 h_this_springs h_this_summers u_this)), (h_this_springs, .inl (T.1, 20, .inl u_this_springs)), (h_this_summers, .inl (T.1, 20, .inl u_this_summers))] sz) := by
  refine xMet (av := [.ref h_this, .int p1, .int p2]) (Wd := [(h_this, .inr (5, o5 h_this_springs h_this_summers u_this)), (h_this_springs, .inl (T.1, 20, .inl u_this_springs)), (h_this_summers, .inl (T.1, 20, .inl u_this_summers))]) (E := xE0) (Qc := fun A => (va_Qi (fun (r : Int32) (_ : Unit) => r = rv.1) (fun _ => xPost D T [(h_this, .inr (5, o5 h_this_springs h_this_summers rv.2.1)), (h_this_springs, .inl (T.1, 20, .inl rv.2.2.1)), (h_this_summers, .inl (T.1, 20, .inl rv.2.2.2))] A) A)) (cc := cX5_add) (maxL := 3) (ret := (some .int)) (by decide) rfl (Nat.le_of_ble_eq_true rfl) ?_
  intro p e s m below meth c A ls hx hb hr hml hts hown hlocks hnm hP hK hD hS hA hE hl
  have hown : s.vm.findClass RX5 = some m.cls := hown
  have hl : lv_has ls 3 [(0, .ref h_this), (1, .int p1), (2, .int p2)] := hl
  unfold f_X5_add at hM
  refine lv_aload_n hx hb dX5_add_0 rfl (lv_at hl 0 rfl) ?_
  refine va_get (D := D) (ci := 5) (v := .int u_this) (C := RX5) (T := TX5) (N := 3) hx hb hts (fun w h => List.mem_cons_of_mem _ (List.mem_append_right _ h)) hown hK hP 0 rfl rfl 2 (by decide) (hts _ (List.mem_of_getElem? (i := 1) rfl)) (fun _ h9 => h9) rfl dX5_add_1 ?_
  refine lv_aload_n hx hb dX5_add_4 rfl (lv_at hl 0 rfl) ?_
  refine va_get (D := D) (ci := 5) (v := .ref h_this_springs) (C := RX5) (T := TX5) (N := 3) hx hb hts (fun w h => List.mem_cons_of_mem _ (List.mem_append_right _ h)) hown hK hP 0 rfl rfl 0 (by decide) (hts _ (List.mem_of_getElem? (i := 2) rfl)) (fun _ h9 => h9) rfl dX5_add_5 ?_
  refine va_alen (v := 20) hx hb hK hP 1 0 rfl rfl (show Int32.ofNat 20 = 20 by decide) dX5_add_8 ?_
  refine lv_icmp_lt (tgt := 15) hx hb dX5_add_9 (by decide) (fun c1 => ?_) (fun c1 => ?_)
  · have hM := xit c1 hM
    refine lv_aload_n hx hb dX5_add_15 rfl (lv_at hl 0 rfl) ?_
    refine va_get (D := D) (ci := 5) (v := .ref h_this_springs) (C := RX5) (T := TX5) (N := 3) hx hb hts (fun w h => List.mem_cons_of_mem _ (List.mem_append_right _ h)) hown hK hP 0 rfl rfl 0 (by decide) (hts _ (List.mem_of_getElem? (i := 2) rfl)) (fun _ h9 => h9) rfl dX5_add_16 ?_
    refine lv_aload_n hx hb dX5_add_19 rfl (lv_at hl 0 rfl) ?_
    refine va_get (D := D) (ci := 5) (v := .int u_this) (C := RX5) (T := TX5) (N := 3) hx hb hts (fun w h => List.mem_cons_of_mem _ (List.mem_append_right _ h)) hown hK hP 0 rfl rfl 2 (by decide) (hts _ (List.mem_of_getElem? (i := 1) rfl)) (fun _ h9 => h9) rfl dX5_add_20 ?_
    refine lv_iload_n hx hb dX5_add_23 rfl (lv_at hl 1 rfl) ?_
    obtain ⟨g2, hM⟩ := xck hM
    refine xast hx hb hK hP hD hS 1 0 rfl rfl g2 rfl dX5_add_24 (fun H locs hP hD hS => ?_)
    have hP : va_P D vwCl [(h_this, .inr (5, o5 h_this_springs h_this_summers u_this)), (h_this_springs, .inl (T.1, 20, .inl (upd u_this_springs u_this.toNatClampNeg p1))), (h_this_summers, .inl (T.1, 20, .inl u_this_summers))] H := hP
    have hD : va_D A [(h_this, .inr (5, o5 h_this_springs h_this_summers u_this)), (h_this_springs, .inl (T.1, 20, .inl (upd u_this_springs u_this.toNatClampNeg p1))), (h_this_summers, .inl (T.1, 20, .inl u_this_summers))] := hD
    refine lv_aload_n hx hb dX5_add_25 rfl (lv_at hl 0 rfl) ?_
    refine va_get (D := D) (ci := 5) (v := .ref h_this_summers) (C := RX5) (T := TX5) (N := 3) hx hb hts (fun w h => List.mem_cons_of_mem _ (List.mem_append_right _ h)) hown hK hP 0 rfl rfl 1 (by decide) (hts _ (List.mem_of_getElem? (i := 3) rfl)) (fun _ h9 => h9) rfl dX5_add_26 ?_
    refine lv_aload_n hx hb dX5_add_29 rfl (lv_at hl 0 rfl) ?_
    refine va_get (D := D) (ci := 5) (v := .int u_this) (C := RX5) (T := TX5) (N := 3) hx hb hts (fun w h => List.mem_cons_of_mem _ (List.mem_append_right _ h)) hown hK hP 0 rfl rfl 2 (by decide) (hts _ (List.mem_of_getElem? (i := 1) rfl)) (fun _ h9 => h9) rfl dX5_add_30 ?_
    refine lv_iload_n hx hb dX5_add_33 rfl (lv_at hl 2 rfl) ?_
    refine xast hx hb hK hP hD hS 2 0 rfl rfl g2 rfl dX5_add_34 (fun H locs hP hD hS => ?_)
    have hP : va_P D vwCl [(h_this, .inr (5, o5 h_this_springs h_this_summers u_this)), (h_this_springs, .inl (T.1, 20, .inl (upd u_this_springs u_this.toNatClampNeg p1))), (h_this_summers, .inl (T.1, 20, .inl (upd u_this_summers u_this.toNatClampNeg p2)))] H := hP
    have hD : va_D A [(h_this, .inr (5, o5 h_this_springs h_this_summers u_this)), (h_this_springs, .inl (T.1, 20, .inl (upd u_this_springs u_this.toNatClampNeg p1))), (h_this_summers, .inl (T.1, 20, .inl (upd u_this_summers u_this.toNatClampNeg p2)))] := hD
    refine lv_aload_n hx hb dX5_add_35 rfl (lv_at hl 0 rfl) ?_
    refine lv_dup hx hb dX5_add_36 rfl ?_
    refine va_get (D := D) (ci := 5) (v := .int u_this) (C := RX5) (T := TX5) (N := 3) hx hb hts (fun w h => List.mem_cons_of_mem _ (List.mem_append_right _ h)) hown hK hP 0 rfl rfl 2 (by decide) (hts _ (List.mem_of_getElem? (i := 1) rfl)) (fun _ h9 => h9) rfl dX5_add_37 ?_
    refine lv_iconst (v := 1) hx hb dX5_add_40 (by decide) ?_
    refine lv_iadd hx hb dX5_add_41 ?_
    refine va_put (D := D) (ci := 5) (v := .int (u_this + (1))) (C := RX5) (T := TX5) (N := 3) hx hb hts (fun w h => List.mem_cons_of_mem _ (List.mem_append_right _ h)) tyX5 tyX5_ok nmX5 hown hK hP hD hS 0 rfl rfl 2 (by decide) (hts _ (List.mem_of_getElem? (i := 1) rfl)) (fun _ h9 => h9) rfl (tyX5_ok 2 (by decide)) rfl rfl (Nat.le_of_ble_eq_true rfl) dX5_add_42 (fun H locs hP hD hS => ?_)
    have hP : va_P D vwCl [(h_this, .inr (5, o5 h_this_springs h_this_summers (u_this + (1)))), (h_this_springs, .inl (T.1, 20, .inl (upd u_this_springs u_this.toNatClampNeg p1))), (h_this_summers, .inl (T.1, 20, .inl (upd u_this_summers u_this.toNatClampNeg p2)))] H := hP
    have hD : va_D A [(h_this, .inr (5, o5 h_this_springs h_this_summers (u_this + (1)))), (h_this_springs, .inl (T.1, 20, .inl (upd u_this_springs u_this.toNatClampNeg p1))), (h_this_summers, .inl (T.1, 20, .inl (upd u_this_summers u_this.toNatClampNeg p2)))] := hD
    refine lv_aload_n hx hb dX5_add_45 rfl (lv_at hl 0 rfl) ?_
    refine va_get (D := D) (ci := 5) (v := .int (u_this + (1))) (C := RX5) (T := TX5) (N := 3) hx hb hts (fun w h => List.mem_cons_of_mem _ (List.mem_append_right _ h)) hown hK hP 0 rfl rfl 2 (by decide) (hts _ (List.mem_of_getElem? (i := 1) rfl)) (fun _ h9 => h9) rfl dX5_add_46 ?_
    obtain rfl := Option.some.inj hM
    exact xreti hx hb hr hlocks hP hK hD hS dX5_add_49 rfl
  · have hM := xif c1 hM
    refine lv_bipush (v := (-3)) hx hb dX5_add_12 (by decide) ?_
    obtain rfl := Option.some.inj hM
    exact xreti hx hb hr hlocks hP hK hD hS dX5_add_14 rfl
