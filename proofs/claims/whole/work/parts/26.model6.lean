/-! laid by wip/whole/gen.py out of the decode rows: functional readings and contracts -/
def s_X7_cupsBy_186 (u_this : K7) (r1 : (Nat → Int32)) (v3 : Int32) (v5 : Int32) (v7 : Int32) (v10 : Int32) (v13 : Int32) (v16 : Int32 × Int32 × (Nat → Int32)) : Option ((Int32 × Int32 × (Nat → Int32)) ⊕ (Int32 × Int32 × (Nat → Int32))) :=
  if (60) ≤ v16.2.1 then
   (some (.inr (v16.1, v16.2.1, v16.2.2)))
  else
   ((f_X7_stroke u_this (upd (upd (upd (upd (upd r1 (8) v3) (5) v5) (7) v7) (0) v10) (3) v13) v16.2.2).bind fun r18 =>
    some (.inl ((v16.1 + r18.1), v16.2.1 + 1, r18.2)))
def f_X7_cupsBy (N : Nat) (u_this : K7) (u_this_told : (Nat → Int32)) (u_this_par : (Nat → Int32)) (u_this_try0 : (Nat → Int32)) (p1 : Int32) : Option (Int32 × (Nat → Int32) × (Nat → Int32)) :=
  (f_X7_takeTold N u_this u_this_told u_this_par).bind fun r1 =>
  ((if (p1 &&& (1)) = (1) then
     (some (100))
    else
     (some (r1 8)) : Option (Int32))).bind fun v3 =>
  ((if (p1 &&& (2)) = (2) then
     (some (0))
    else
     (some ((upd r1 (8) v3) 5)) : Option (Int32))).bind fun v5 =>
  ((if (p1 &&& (4)) = (4) then
     (some (0))
    else
     (some ((upd (upd r1 (8) v3) (5) v5) 7)) : Option (Int32))).bind fun v7 =>
  ((if (p1 &&& (8)) = (8) then
     ((some (f_X7_within (((upd (upd (upd r1 (8) v3) (5) v5) (7) v7) 0) + (20)) (1) (99)) : Option (Int32)).bind fun r9 =>
      some r9)
    else
     (some ((upd (upd (upd r1 (8) v3) (5) v5) (7) v7) 0)) : Option (Int32))).bind fun v10 =>
  ((if (p1 &&& (16)) = (16) then
     ((some (f_X7_within ((2) * ((upd (upd (upd (upd r1 (8) v3) (5) v5) (7) v7) (0) v10) 3)) (0) (99)) : Option (Int32)).bind fun r12 =>
      some r12)
    else
     (some ((upd (upd (upd (upd r1 (8) v3) (5) v5) (7) v7) (0) v10) 3)) : Option (Int32))).bind fun v13 =>
  (f_X7_begin N u_this u_this_try0 ((10) * ((upd (upd (upd (upd (upd r1 (8) v3) (5) v5) (7) v7) (0) v10) (3) v13) 2)) ((upd (upd (upd (upd (upd r1 (8) v3) (5) v5) (7) v7) (0) v10) (3) v13) 8)).bind fun r14 =>
  (f_X7_pour u_this r14 (20)).bind fun r15 =>
  (xlp (s_X7_cupsBy_186 u_this r1 v3 v5 v7 v10 v13) N (0, 0, r15.2)).bind fun v19 =>
  some (v19.1, (upd (upd (upd (upd (upd r1 (8) v3) (5) v5) (7) v7) (0) v10) (3) v13), v19.2.2)
set_option maxHeartbeats 4000000 in
set_option maxRecDepth 100000 in
theorem c_X7_cupsBy (l : Launch) (D : va_G) (T : xT) (x : Nat → Nat) {sz : Nat} {N : Nat} (u_this : K7) (u_this_told : (Nat → Int32)) (u_this_par : (Nat → Int32)) (u_this_try0 : (Nat → Int32)) (p1 : Int32) {rv : Int32 × (Nat → Int32) × (Nat → Int32)} (hM : f_X7_cupsBy N u_this u_this_told u_this_par u_this_try0 p1 = some rv) : Met l yX7_cupsBy wsX7_cupsBy ({ frames := 4, cells := 0, slots := 0, locals := 87 } : Room) (va_Pc [.ref (x 0), .int p1] (xPre D T [((x 0), .inr (7, o7 x u_this)), ((x 2), .inl (T.1, 22, .inl u_this_told)), ((x 3), .inl (T.1, 11, .inl u_this_par)), ((x 4), .inl (T.1, 7, .inl u_this_try0))] sz xE0)) (va_Qi (fun (r : Int32) (_ : Unit) => r = rv.1) (fun _ => xPost D T [((x 0), .inr (7, o7 x u_this)), ((x 2), .inl (T.1, 22, .inl u_this_told)), ((x 3), .inl (T.1, 11, .inl rv.2.1)), ((x 4), .inl (T.1, 7, .inl rv.2.2))] (va_A [((x 0), .inr (7, o7 x u_this)), ((x 2), .inl (T.1, 22, .inl u_this_told)), ((x 3), .inl (T.1, 11, .inl u_this_par)), ((x 4), .inl (T.1, 7, .inl u_this_try0))] sz)) (va_A [((x 0), .inr (7, o7 x u_this)), ((x 2), .inl (T.1, 22, .inl u_this_told)), ((x 3), .inl (T.1, 11, .inl u_this_par)), ((x 4), .inl (T.1, 7, .inl u_this_try0))] sz)) 0 0 (va_A [((x 0), .inr (7, o7 x u_this)), ((x 2), .inl (T.1, 22, .inl u_this_told)), ((x 3), .inl (T.1, 11, .inl u_this_par)), ((x 4), .inl (T.1, 7, .inl u_this_try0))] sz) := by
  refine xMet (av := [.ref (x 0), .int p1]) (Wd := [((x 0), .inr (7, o7 x u_this)), ((x 2), .inl (T.1, 22, .inl u_this_told)), ((x 3), .inl (T.1, 11, .inl u_this_par)), ((x 4), .inl (T.1, 7, .inl u_this_try0))]) (E := xE0) (Qc := fun A => (va_Qi (fun (r : Int32) (_ : Unit) => r = rv.1) (fun _ => xPost D T [((x 0), .inr (7, o7 x u_this)), ((x 2), .inl (T.1, 22, .inl u_this_told)), ((x 3), .inl (T.1, 11, .inl rv.2.1)), ((x 4), .inl (T.1, 7, .inl rv.2.2))] A) A)) (cc := cX7_cupsBy) (maxL := 4) (ret := (some .int)) (by decide) rfl (Nat.le_of_ble_eq_true rfl) ?_
  intro p e s m below meth c A ls hx hb hr hml hts hown hlocks hnm hP hK hD hS hA hE hl
  have hown : s.vm.findClass RX7 = some m.cls := hown
  have hl : lv_has ls 4 [(0, .ref (x 0)), (1, .int p1)] := hl
  unfold f_X7_cupsBy at hM
  refine lv_aload_n hx hb dX7_cupsBy_0 rfl (lv_at hl 0 rfl) ?_
  obtain ⟨r1, er1, hM⟩ := xbd hM
  refine xaftv (W2 := [((x 0), .inr (7, o7 x u_this)), ((x 2), .inl (T.1, 22, .inl u_this_told)), ((x 3), .inl (T.1, 11, .inl r1)), ((x 4), .inl (T.1, 7, .inl u_this_try0))]) (va_runV (As := []) (rest := []) ⟨hx, hb, hml, hown, hts⟩ (c_X7_takeTold l D T x u_this u_this_told u_this_par er1) (cwV 0 hts gX7_cupsBy_X7_takeTold rfl rfl rfl (by decide +kernel) ⟨Nat.le_of_ble_eq_true rfl, Nat.le_of_ble_eq_true rfl⟩) (xpvv hP hD hK [0, 1, 2] (by decide) rfl 0 7 rfl rfl (fun _ _ _ => trivial) (fun _ _ _ _ _ _ => trivial)) rfl rfl hl.1 rfl (lv_room (Nat.le_of_ble_eq_true rfl)) dX7_cupsBy_1 ⟨Nat.le_of_ble_eq_true rfl, Nat.le_of_ble_eq_true rfl⟩) hP hD hS hA [0, 1, 2] rfl rfl rfl rfl (fun H locs hP hD hS => ?_)
  refine lv_aload_n hx hb dX7_cupsBy_4 rfl (lv_at hl 0 rfl) ?_
  refine va_get (D := D) (ci := 7) (v := .ref (x 3)) (C := RX7) (T := TX7) (N := 30) hx hb hts (fun w h => List.mem_cons_of_mem _ (List.mem_append_right _ h)) hown hK hP 0 rfl rfl 9 (by decide) (hts _ (List.mem_of_getElem? (i := 1) rfl)) (fun _ h9 => h9) rfl dX7_cupsBy_5 ?_
  refine lv_bipush (v := 8) hx hb dX7_cupsBy_8 (by decide) ?_
  refine lv_iload_n hx hb dX7_cupsBy_10 rfl (lv_at hl 1 rfl) ?_
  refine lv_iconst (v := 1) hx hb dX7_cupsBy_11 (by decide) ?_
  refine lv_iand hx hb dX7_cupsBy_12 ?_
  refine lv_iconst (v := 1) hx hb dX7_cupsBy_13 (by decide) ?_
  obtain ⟨v3, hM, hNv3⟩ := xbd hM
  have Kv3 : ∀ (H : Heap) (locs : List Loc) (ls : Array Slot), va_P D vwCl [((x 0), .inr (7, o7 x u_this)), ((x 2), .inl (T.1, 22, .inl u_this_told)), ((x 3), .inl (T.1, 11, .inl r1)), ((x 4), .inl (T.1, 7, .inl u_this_try0))] H → va_D A [((x 0), .inr (7, o7 x u_this)), ((x 2), .inl (T.1, 22, .inl u_this_told)), ((x 3), .inl (T.1, 11, .inl r1)), ((x 4), .inl (T.1, 7, .inl u_this_try0))] → va_S A s.heap H locs → lv_has ls 4 [(0, .ref (x 0)), (1, .int p1)] → W p l e ({ frames := 4, cells := 0, slots := 0, locals := 87 } : Room) s m ([.ref (x 0), .int p1] : List Value).toArray below meth c H locs 0 0 (MQ below (va_Qi (fun (r : Int32) (_ : Unit) => r = rv.1) (fun _ => xPost D T [((x 0), .inr (7, o7 x u_this)), ((x 2), .inl (T.1, 22, .inl u_this_told)), ((x 3), .inl (T.1, 11, .inl rv.2.1)), ((x 4), .inl (T.1, 7, .inl rv.2.2))] A) A) ([.ref (x 0), .int p1] : List Value).toArray s 0 0 A) (F0 m 29 ls [.int v3, .int (8), .ref (x 3)]) := by
    intro H locs ls hP hD hS hl
    have hM := hNv3
    refine xast hx hb hK hP hD hS 2 0 rfl rfl (xin_vp (by decide)) (show (8 : Int32).toNatClampNeg = 8 by decide) dX7_cupsBy_29 (fun H locs hP hD hS => ?_)
    have hP : va_P D vwCl [((x 0), .inr (7, o7 x u_this)), ((x 2), .inl (T.1, 22, .inl u_this_told)), ((x 3), .inl (T.1, 11, .inl (upd r1 (8) v3))), ((x 4), .inl (T.1, 7, .inl u_this_try0))] H := hP
    have hD : va_D A [((x 0), .inr (7, o7 x u_this)), ((x 2), .inl (T.1, 22, .inl u_this_told)), ((x 3), .inl (T.1, 11, .inl (upd r1 (8) v3))), ((x 4), .inl (T.1, 7, .inl u_this_try0))] := hD
    refine lv_aload_n hx hb dX7_cupsBy_30 rfl (lv_at hl 0 rfl) ?_
    refine va_get (D := D) (ci := 7) (v := .ref (x 3)) (C := RX7) (T := TX7) (N := 30) hx hb hts (fun w h => List.mem_cons_of_mem _ (List.mem_append_right _ h)) hown hK hP 0 rfl rfl 9 (by decide) (hts _ (List.mem_of_getElem? (i := 1) rfl)) (fun _ h9 => h9) rfl dX7_cupsBy_31 ?_
    refine lv_iconst (v := 5) hx hb dX7_cupsBy_34 (by decide) ?_
    refine lv_iload_n hx hb dX7_cupsBy_35 rfl (lv_at hl 1 rfl) ?_
    refine lv_iconst (v := 2) hx hb dX7_cupsBy_36 (by decide) ?_
    refine lv_iand hx hb dX7_cupsBy_37 ?_
    refine lv_iconst (v := 2) hx hb dX7_cupsBy_38 (by decide) ?_
    obtain ⟨v5, hM, hNv5⟩ := xbd hM
    have Kv5 : ∀ (H : Heap) (locs : List Loc) (ls : Array Slot), va_P D vwCl [((x 0), .inr (7, o7 x u_this)), ((x 2), .inl (T.1, 22, .inl u_this_told)), ((x 3), .inl (T.1, 11, .inl (upd r1 (8) v3))), ((x 4), .inl (T.1, 7, .inl u_this_try0))] H → va_D A [((x 0), .inr (7, o7 x u_this)), ((x 2), .inl (T.1, 22, .inl u_this_told)), ((x 3), .inl (T.1, 11, .inl (upd r1 (8) v3))), ((x 4), .inl (T.1, 7, .inl u_this_try0))] → va_S A s.heap H locs → lv_has ls 4 [(0, .ref (x 0)), (1, .int p1)] → W p l e ({ frames := 4, cells := 0, slots := 0, locals := 87 } : Room) s m ([.ref (x 0), .int p1] : List Value).toArray below meth c H locs 0 0 (MQ below (va_Qi (fun (r : Int32) (_ : Unit) => r = rv.1) (fun _ => xPost D T [((x 0), .inr (7, o7 x u_this)), ((x 2), .inl (T.1, 22, .inl u_this_told)), ((x 3), .inl (T.1, 11, .inl rv.2.1)), ((x 4), .inl (T.1, 7, .inl rv.2.2))] A) A) ([.ref (x 0), .int p1] : List Value).toArray s 0 0 A) (F0 m 52 ls [.int v5, .int (5), .ref (x 3)]) := by
      intro H locs ls hP hD hS hl
      have hM := hNv5
      refine xast hx hb hK hP hD hS 2 0 rfl rfl (xin_vp (by decide)) (show (5 : Int32).toNatClampNeg = 5 by decide) dX7_cupsBy_52 (fun H locs hP hD hS => ?_)
      have hP : va_P D vwCl [((x 0), .inr (7, o7 x u_this)), ((x 2), .inl (T.1, 22, .inl u_this_told)), ((x 3), .inl (T.1, 11, .inl (upd (upd r1 (8) v3) (5) v5))), ((x 4), .inl (T.1, 7, .inl u_this_try0))] H := hP
      have hD : va_D A [((x 0), .inr (7, o7 x u_this)), ((x 2), .inl (T.1, 22, .inl u_this_told)), ((x 3), .inl (T.1, 11, .inl (upd (upd r1 (8) v3) (5) v5))), ((x 4), .inl (T.1, 7, .inl u_this_try0))] := hD
      refine lv_aload_n hx hb dX7_cupsBy_53 rfl (lv_at hl 0 rfl) ?_
      refine va_get (D := D) (ci := 7) (v := .ref (x 3)) (C := RX7) (T := TX7) (N := 30) hx hb hts (fun w h => List.mem_cons_of_mem _ (List.mem_append_right _ h)) hown hK hP 0 rfl rfl 9 (by decide) (hts _ (List.mem_of_getElem? (i := 1) rfl)) (fun _ h9 => h9) rfl dX7_cupsBy_54 ?_
      refine lv_bipush (v := 7) hx hb dX7_cupsBy_57 (by decide) ?_
      refine lv_iload_n hx hb dX7_cupsBy_59 rfl (lv_at hl 1 rfl) ?_
      refine lv_iconst (v := 4) hx hb dX7_cupsBy_60 (by decide) ?_
      refine lv_iand hx hb dX7_cupsBy_61 ?_
      refine lv_iconst (v := 4) hx hb dX7_cupsBy_62 (by decide) ?_
      obtain ⟨v7, hM, hNv7⟩ := xbd hM
      have Kv7 : ∀ (H : Heap) (locs : List Loc) (ls : Array Slot), va_P D vwCl [((x 0), .inr (7, o7 x u_this)), ((x 2), .inl (T.1, 22, .inl u_this_told)), ((x 3), .inl (T.1, 11, .inl (upd (upd r1 (8) v3) (5) v5))), ((x 4), .inl (T.1, 7, .inl u_this_try0))] H → va_D A [((x 0), .inr (7, o7 x u_this)), ((x 2), .inl (T.1, 22, .inl u_this_told)), ((x 3), .inl (T.1, 11, .inl (upd (upd r1 (8) v3) (5) v5))), ((x 4), .inl (T.1, 7, .inl u_this_try0))] → va_S A s.heap H locs → lv_has ls 4 [(0, .ref (x 0)), (1, .int p1)] → W p l e ({ frames := 4, cells := 0, slots := 0, locals := 87 } : Room) s m ([.ref (x 0), .int p1] : List Value).toArray below meth c H locs 0 0 (MQ below (va_Qi (fun (r : Int32) (_ : Unit) => r = rv.1) (fun _ => xPost D T [((x 0), .inr (7, o7 x u_this)), ((x 2), .inl (T.1, 22, .inl u_this_told)), ((x 3), .inl (T.1, 11, .inl rv.2.1)), ((x 4), .inl (T.1, 7, .inl rv.2.2))] A) A) ([.ref (x 0), .int p1] : List Value).toArray s 0 0 A) (F0 m 77 ls [.int v7, .int (7), .ref (x 3)]) := by
        intro H locs ls hP hD hS hl
        have hM := hNv7
        refine xast hx hb hK hP hD hS 2 0 rfl rfl (xin_vp (by decide)) (show (7 : Int32).toNatClampNeg = 7 by decide) dX7_cupsBy_77 (fun H locs hP hD hS => ?_)
        have hP : va_P D vwCl [((x 0), .inr (7, o7 x u_this)), ((x 2), .inl (T.1, 22, .inl u_this_told)), ((x 3), .inl (T.1, 11, .inl (upd (upd (upd r1 (8) v3) (5) v5) (7) v7))), ((x 4), .inl (T.1, 7, .inl u_this_try0))] H := hP
        have hD : va_D A [((x 0), .inr (7, o7 x u_this)), ((x 2), .inl (T.1, 22, .inl u_this_told)), ((x 3), .inl (T.1, 11, .inl (upd (upd (upd r1 (8) v3) (5) v5) (7) v7))), ((x 4), .inl (T.1, 7, .inl u_this_try0))] := hD
        refine lv_aload_n hx hb dX7_cupsBy_78 rfl (lv_at hl 0 rfl) ?_
        refine va_get (D := D) (ci := 7) (v := .ref (x 3)) (C := RX7) (T := TX7) (N := 30) hx hb hts (fun w h => List.mem_cons_of_mem _ (List.mem_append_right _ h)) hown hK hP 0 rfl rfl 9 (by decide) (hts _ (List.mem_of_getElem? (i := 1) rfl)) (fun _ h9 => h9) rfl dX7_cupsBy_79 ?_
        refine lv_iconst (v := 0) hx hb dX7_cupsBy_82 (by decide) ?_
        refine lv_iload_n hx hb dX7_cupsBy_83 rfl (lv_at hl 1 rfl) ?_
        refine lv_bipush (v := 8) hx hb dX7_cupsBy_84 (by decide) ?_
        refine lv_iand hx hb dX7_cupsBy_86 ?_
        refine lv_bipush (v := 8) hx hb dX7_cupsBy_87 (by decide) ?_
        obtain ⟨v10, hM, hNv10⟩ := xbd hM
        have Kv10 : ∀ (H : Heap) (locs : List Loc) (ls : Array Slot), va_P D vwCl [((x 0), .inr (7, o7 x u_this)), ((x 2), .inl (T.1, 22, .inl u_this_told)), ((x 3), .inl (T.1, 11, .inl (upd (upd (upd r1 (8) v3) (5) v5) (7) v7))), ((x 4), .inl (T.1, 7, .inl u_this_try0))] H → va_D A [((x 0), .inr (7, o7 x u_this)), ((x 2), .inl (T.1, 22, .inl u_this_told)), ((x 3), .inl (T.1, 11, .inl (upd (upd (upd r1 (8) v3) (5) v5) (7) v7))), ((x 4), .inl (T.1, 7, .inl u_this_try0))] → va_S A s.heap H locs → lv_has ls 4 [(0, .ref (x 0)), (1, .int p1)] → W p l e ({ frames := 4, cells := 0, slots := 0, locals := 87 } : Room) s m ([.ref (x 0), .int p1] : List Value).toArray below meth c H locs 0 0 (MQ below (va_Qi (fun (r : Int32) (_ : Unit) => r = rv.1) (fun _ => xPost D T [((x 0), .inr (7, o7 x u_this)), ((x 2), .inl (T.1, 22, .inl u_this_told)), ((x 3), .inl (T.1, 11, .inl rv.2.1)), ((x 4), .inl (T.1, 7, .inl rv.2.2))] A) A) ([.ref (x 0), .int p1] : List Value).toArray s 0 0 A) (F0 m 116 ls [.int v10, .int (0), .ref (x 3)]) := by
          intro H locs ls hP hD hS hl
          have hM := hNv10
          refine xast hx hb hK hP hD hS 2 0 rfl rfl (xin_vp (by decide)) (show (0 : Int32).toNatClampNeg = 0 by decide) dX7_cupsBy_116 (fun H locs hP hD hS => ?_)
          have hP : va_P D vwCl [((x 0), .inr (7, o7 x u_this)), ((x 2), .inl (T.1, 22, .inl u_this_told)), ((x 3), .inl (T.1, 11, .inl (upd (upd (upd (upd r1 (8) v3) (5) v5) (7) v7) (0) v10))), ((x 4), .inl (T.1, 7, .inl u_this_try0))] H := hP
          have hD : va_D A [((x 0), .inr (7, o7 x u_this)), ((x 2), .inl (T.1, 22, .inl u_this_told)), ((x 3), .inl (T.1, 11, .inl (upd (upd (upd (upd r1 (8) v3) (5) v5) (7) v7) (0) v10))), ((x 4), .inl (T.1, 7, .inl u_this_try0))] := hD
          refine lv_aload_n hx hb dX7_cupsBy_117 rfl (lv_at hl 0 rfl) ?_
          refine va_get (D := D) (ci := 7) (v := .ref (x 3)) (C := RX7) (T := TX7) (N := 30) hx hb hts (fun w h => List.mem_cons_of_mem _ (List.mem_append_right _ h)) hown hK hP 0 rfl rfl 9 (by decide) (hts _ (List.mem_of_getElem? (i := 1) rfl)) (fun _ h9 => h9) rfl dX7_cupsBy_118 ?_
          refine lv_iconst (v := 3) hx hb dX7_cupsBy_121 (by decide) ?_
          refine lv_iload_n hx hb dX7_cupsBy_122 rfl (lv_at hl 1 rfl) ?_
          refine lv_bipush (v := 16) hx hb dX7_cupsBy_123 (by decide) ?_
          refine lv_iand hx hb dX7_cupsBy_125 ?_
          refine lv_bipush (v := 16) hx hb dX7_cupsBy_126 (by decide) ?_
          obtain ⟨v13, hM, hNv13⟩ := xbd hM
          have Kv13 : ∀ (H : Heap) (locs : List Loc) (ls : Array Slot), va_P D vwCl [((x 0), .inr (7, o7 x u_this)), ((x 2), .inl (T.1, 22, .inl u_this_told)), ((x 3), .inl (T.1, 11, .inl (upd (upd (upd (upd r1 (8) v3) (5) v5) (7) v7) (0) v10))), ((x 4), .inl (T.1, 7, .inl u_this_try0))] H → va_D A [((x 0), .inr (7, o7 x u_this)), ((x 2), .inl (T.1, 22, .inl u_this_told)), ((x 3), .inl (T.1, 11, .inl (upd (upd (upd (upd r1 (8) v3) (5) v5) (7) v7) (0) v10))), ((x 4), .inl (T.1, 7, .inl u_this_try0))] → va_S A s.heap H locs → lv_has ls 4 [(0, .ref (x 0))] → W p l e ({ frames := 4, cells := 0, slots := 0, locals := 87 } : Room) s m ([.ref (x 0), .int p1] : List Value).toArray below meth c H locs 0 0 (MQ below (va_Qi (fun (r : Int32) (_ : Unit) => r = rv.1) (fun _ => xPost D T [((x 0), .inr (7, o7 x u_this)), ((x 2), .inl (T.1, 22, .inl u_this_told)), ((x 3), .inl (T.1, 11, .inl rv.2.1)), ((x 4), .inl (T.1, 7, .inl rv.2.2))] A) A) ([.ref (x 0), .int p1] : List Value).toArray s 0 0 A) (F0 m 154 ls [.int v13, .int (3), .ref (x 3)]) := by
            intro H locs ls hP hD hS hl
            have hM := hNv13
            refine xast hx hb hK hP hD hS 2 0 rfl rfl (xin_vp (by decide)) (show (3 : Int32).toNatClampNeg = 3 by decide) dX7_cupsBy_154 (fun H locs hP hD hS => ?_)
            have hP : va_P D vwCl [((x 0), .inr (7, o7 x u_this)), ((x 2), .inl (T.1, 22, .inl u_this_told)), ((x 3), .inl (T.1, 11, .inl (upd (upd (upd (upd (upd r1 (8) v3) (5) v5) (7) v7) (0) v10) (3) v13))), ((x 4), .inl (T.1, 7, .inl u_this_try0))] H := hP
            have hD : va_D A [((x 0), .inr (7, o7 x u_this)), ((x 2), .inl (T.1, 22, .inl u_this_told)), ((x 3), .inl (T.1, 11, .inl (upd (upd (upd (upd (upd r1 (8) v3) (5) v5) (7) v7) (0) v10) (3) v13))), ((x 4), .inl (T.1, 7, .inl u_this_try0))] := hD
            refine lv_aload_n hx hb dX7_cupsBy_155 rfl (lv_at hl 0 rfl) ?_
            refine lv_bipush (v := 10) hx hb dX7_cupsBy_156 (by decide) ?_
            refine lv_aload_n hx hb dX7_cupsBy_158 rfl (lv_at hl 0 rfl) ?_
            refine va_get (D := D) (ci := 7) (v := .ref (x 3)) (C := RX7) (T := TX7) (N := 30) hx hb hts (fun w h => List.mem_cons_of_mem _ (List.mem_append_right _ h)) hown hK hP 0 rfl rfl 9 (by decide) (hts _ (List.mem_of_getElem? (i := 1) rfl)) (fun _ h9 => h9) rfl dX7_cupsBy_159 ?_
            refine lv_iconst (v := 2) hx hb dX7_cupsBy_162 (by decide) ?_
            refine xald (v := ((upd (upd (upd (upd (upd r1 (8) v3) (5) v5) (7) v7) (0) v10) (3) v13) 2)) hx hb hK hP 2 0 rfl rfl (xin_vp (by decide)) (congrArg _ (show (2 : Int32).toNatClampNeg = 2 by decide)) dX7_cupsBy_163 ?_
            refine lv_imul hx hb dX7_cupsBy_164 ?_
            refine lv_aload_n hx hb dX7_cupsBy_165 rfl (lv_at hl 0 rfl) ?_
            refine va_get (D := D) (ci := 7) (v := .ref (x 3)) (C := RX7) (T := TX7) (N := 30) hx hb hts (fun w h => List.mem_cons_of_mem _ (List.mem_append_right _ h)) hown hK hP 0 rfl rfl 9 (by decide) (hts _ (List.mem_of_getElem? (i := 1) rfl)) (fun _ h9 => h9) rfl dX7_cupsBy_166 ?_
            refine lv_bipush (v := 8) hx hb dX7_cupsBy_169 (by decide) ?_
            refine xald (v := ((upd (upd (upd (upd (upd r1 (8) v3) (5) v5) (7) v7) (0) v10) (3) v13) 8)) hx hb hK hP 2 0 rfl rfl (xin_vp (by decide)) (congrArg _ (show (8 : Int32).toNatClampNeg = 8 by decide)) dX7_cupsBy_171 ?_
            obtain ⟨r14, er14, hM⟩ := xbd hM
            refine xaftv (W2 := [((x 0), .inr (7, o7 x u_this)), ((x 2), .inl (T.1, 22, .inl u_this_told)), ((x 3), .inl (T.1, 11, .inl (upd (upd (upd (upd (upd r1 (8) v3) (5) v5) (7) v7) (0) v10) (3) v13))), ((x 4), .inl (T.1, 7, .inl r14))]) (va_runV (As := [.int ((10) * ((upd (upd (upd (upd (upd r1 (8) v3) (5) v5) (7) v7) (0) v10) (3) v13) 2)), .int ((upd (upd (upd (upd (upd r1 (8) v3) (5) v5) (7) v7) (0) v10) (3) v13) 8)]) (rest := []) ⟨hx, hb, hml, hown, hts⟩ (c_X7_begin l D T x u_this u_this_try0 ((10) * ((upd (upd (upd (upd (upd r1 (8) v3) (5) v5) (7) v7) (0) v10) (3) v13) 2)) ((upd (upd (upd (upd (upd r1 (8) v3) (5) v5) (7) v7) (0) v10) (3) v13) 8) er14) (cwV 2 hts gX7_cupsBy_X7_begin rfl rfl rfl (by decide +kernel) ⟨Nat.le_of_ble_eq_true rfl, Nat.le_of_ble_eq_true rfl⟩) (xpvv hP hD hK [0, 3] (by decide) rfl 0 7 rfl rfl (fun _ _ _ => trivial) (fun _ _ _ _ _ _ => trivial)) rfl rfl hl.1 rfl (lv_room (Nat.le_of_ble_eq_true rfl)) dX7_cupsBy_172 ⟨Nat.le_of_ble_eq_true rfl, Nat.le_of_ble_eq_true rfl⟩) hP hD hS hA [0, 3] rfl rfl rfl rfl (fun H locs hP hD hS => ?_)
            refine lv_aload_n hx hb dX7_cupsBy_175 rfl (lv_at hl 0 rfl) ?_
            refine lv_bipush (v := 20) hx hb dX7_cupsBy_176 (by decide) ?_
            obtain ⟨r15, er15, hM⟩ := xbd hM
            refine xafti (rv := r15.1) (W2 := [((x 0), .inr (7, o7 x u_this)), ((x 2), .inl (T.1, 22, .inl u_this_told)), ((x 3), .inl (T.1, 11, .inl (upd (upd (upd (upd (upd r1 (8) v3) (5) v5) (7) v7) (0) v10) (3) v13))), ((x 4), .inl (T.1, 7, .inl r15.2))]) (va_runV (As := [.int (20)]) (rest := []) ⟨hx, hb, hml, hown, hts⟩ (c_X7_pour l D T x u_this r14 (20) er15) (cwV 1 hts gX7_cupsBy_X7_pour rfl rfl rfl (by decide +kernel) ⟨Nat.le_of_ble_eq_true rfl, Nat.le_of_ble_eq_true rfl⟩) (xpvv hP hD hK [0, 3] (by decide) rfl 0 7 rfl rfl (fun _ _ _ => trivial) (fun _ _ _ _ _ _ => trivial)) rfl rfl hl.1 rfl (lv_room (Nat.le_of_ble_eq_true rfl)) dX7_cupsBy_178 ⟨Nat.le_of_ble_eq_true rfl, Nat.le_of_ble_eq_true rfl⟩) hP hD hS hA [0, 3] rfl rfl rfl rfl (fun H locs hP hD hS => ?_)
            refine lv_pop hx hb dX7_cupsBy_181 rfl ?_
            refine lv_iconst (v := 0) hx hb dX7_cupsBy_182 (by decide) ?_
            refine lv_istore_n (lv' := [(2, .int (0)), (0, .ref (x 0))]) hx hb dX7_cupsBy_183 rfl hl (by decide) rfl (fun ls hl => ?_)
            refine lv_iconst (v := 0) hx hb dX7_cupsBy_184 (by decide) ?_
            refine lv_istore_n (lv' := [(3, .int (0)), (2, .int (0)), (0, .ref (x 0))]) hx hb dX7_cupsBy_185 rfl hl (by decide) rfl (fun ls hl => ?_)
            obtain ⟨v19, hM, hNv19⟩ := xbd hM
            have hQv19 := hM
            have Kv19 : ∀ (H : Heap) (locs : List Loc) (ls : Array Slot), va_P D vwCl [((x 0), .inr (7, o7 x u_this)), ((x 2), .inl (T.1, 22, .inl u_this_told)), ((x 3), .inl (T.1, 11, .inl (upd (upd (upd (upd (upd r1 (8) v3) (5) v5) (7) v7) (0) v10) (3) v13))), ((x 4), .inl (T.1, 7, .inl v19.2.2))] H → va_D A [((x 0), .inr (7, o7 x u_this)), ((x 2), .inl (T.1, 22, .inl u_this_told)), ((x 3), .inl (T.1, 11, .inl (upd (upd (upd (upd (upd r1 (8) v3) (5) v5) (7) v7) (0) v10) (3) v13))), ((x 4), .inl (T.1, 7, .inl v19.2.2))] → va_S A s.heap H locs → lv_has ls 4 [(2, .int v19.1)] → W p l e ({ frames := 4, cells := 0, slots := 0, locals := 87 } : Room) s m ([.ref (x 0), .int p1] : List Value).toArray below meth c H locs 0 0 (MQ below (va_Qi (fun (r : Int32) (_ : Unit) => r = rv.1) (fun _ => xPost D T [((x 0), .inr (7, o7 x u_this)), ((x 2), .inl (T.1, 22, .inl u_this_told)), ((x 3), .inl (T.1, 11, .inl rv.2.1)), ((x 4), .inl (T.1, 7, .inl rv.2.2))] A) A) ([.ref (x 0), .int p1] : List Value).toArray s 0 0 A) (F0 m 205 ls []) := by
              intro H locs ls hP hD hS hl
              have hM := hNv19
              refine lv_iload_n hx hb dX7_cupsBy_205 rfl (lv_at hl 0 rfl) ?_
              obtain rfl := Option.some.inj hM
              exact xreti hx hb hr hlocks hP hK hD hS dX7_cupsBy_206 rfl
            have Lv16 : ∀ (n : Nat) (v16 : Int32 × Int32 × (Nat → Int32)), xlp (s_X7_cupsBy_186 u_this r1 v3 v5 v7 v10 v13) n v16 = some v19 → ∀ (H : Heap) (locs : List Loc) (ls : Array Slot), va_P D vwCl [((x 0), .inr (7, o7 x u_this)), ((x 2), .inl (T.1, 22, .inl u_this_told)), ((x 3), .inl (T.1, 11, .inl (upd (upd (upd (upd (upd r1 (8) v3) (5) v5) (7) v7) (0) v10) (3) v13))), ((x 4), .inl (T.1, 7, .inl v16.2.2))] H → va_D A [((x 0), .inr (7, o7 x u_this)), ((x 2), .inl (T.1, 22, .inl u_this_told)), ((x 3), .inl (T.1, 11, .inl (upd (upd (upd (upd (upd r1 (8) v3) (5) v5) (7) v7) (0) v10) (3) v13))), ((x 4), .inl (T.1, 7, .inl v16.2.2))] → va_S A s.heap H locs → lv_has ls 4 [(0, .ref (x 0)), (2, .int v16.1), (3, .int v16.2.1)] → W p l e ({ frames := 4, cells := 0, slots := 0, locals := 87 } : Room) s m ([.ref (x 0), .int p1] : List Value).toArray below meth c H locs 0 0 (MQ below (va_Qi (fun (r : Int32) (_ : Unit) => r = rv.1) (fun _ => xPost D T [((x 0), .inr (7, o7 x u_this)), ((x 2), .inl (T.1, 22, .inl u_this_told)), ((x 3), .inl (T.1, 11, .inl rv.2.1)), ((x 4), .inl (T.1, 7, .inl rv.2.2))] A) A) ([.ref (x 0), .int p1] : List Value).toArray s 0 0 A) (F0 m 186 ls []) := by
              intro n
              induction n with
              | zero => exact fun _ h => (xlp_0 h).elim
              | succ n ih =>
                intro v16 hM H locs ls hP hD hS hl
                obtain ⟨z, hM, hz1, hz2⟩ := xlp_s hM
                unfold s_X7_cupsBy_186 at hM
                refine lv_iload_n hx hb dX7_cupsBy_186 rfl (lv_at hl 2 rfl) ?_
                refine lv_bipush (v := 60) hx hb dX7_cupsBy_187 (by decide) ?_
                refine lv_icmp_ge (tgt := 205) hx hb dX7_cupsBy_189 (by decide) (fun c17 => ?_) (fun c17 => ?_)
                · have hM := xit c17 hM
                  obtain rfl := hz2 _ (Option.some.inj hM).symm
                  exact Kv19 _ _ _ hP hD hS (lv_sub hl [1] rfl)
                · have hM := xif c17 hM
                  refine lv_iload_n hx hb dX7_cupsBy_192 rfl (lv_at hl 1 rfl) ?_
                  refine lv_aload_n hx hb dX7_cupsBy_193 rfl (lv_at hl 0 rfl) ?_
                  obtain ⟨r18, er18, hM⟩ := xbd hM
                  refine xafti (rv := r18.1) (W2 := [((x 0), .inr (7, o7 x u_this)), ((x 2), .inl (T.1, 22, .inl u_this_told)), ((x 3), .inl (T.1, 11, .inl (upd (upd (upd (upd (upd r1 (8) v3) (5) v5) (7) v7) (0) v10) (3) v13))), ((x 4), .inl (T.1, 7, .inl r18.2))]) (va_runV (As := []) (rest := [.int v16.1]) ⟨hx, hb, hml, hown, hts⟩ (c_X7_stroke l D T x u_this (upd (upd (upd (upd (upd r1 (8) v3) (5) v5) (7) v7) (0) v10) (3) v13) v16.2.2 er18) (cwV 0 hts gX7_cupsBy_X7_stroke rfl rfl rfl (by decide +kernel) ⟨Nat.le_of_ble_eq_true rfl, Nat.le_of_ble_eq_true rfl⟩) (xpvv hP hD hK [0, 2, 3] (by decide) rfl 0 7 rfl rfl (fun _ _ _ => trivial) (fun _ _ _ _ _ _ => trivial)) rfl rfl hl.1 rfl (lv_room (Nat.le_of_ble_eq_true rfl)) dX7_cupsBy_194 ⟨Nat.le_of_ble_eq_true rfl, Nat.le_of_ble_eq_true rfl⟩) hP hD hS hA [0, 2, 3] rfl rfl rfl rfl (fun H locs hP hD hS => ?_)
                  refine lv_iadd hx hb dX7_cupsBy_197 ?_
                  refine lv_istore_n (lv' := [(2, .int (v16.1 + r18.1)), (0, .ref (x 0)), (3, .int v16.2.1)]) hx hb dX7_cupsBy_198 rfl hl (by decide) rfl (fun ls hl => ?_)
                  refine lv_iinc (v := v16.2.1 + 1) (lv' := [(3, .int (v16.2.1 + 1)), (2, .int (v16.1 + r18.1)), (0, .ref (x 0))]) hx hb dX7_cupsBy_199 hl (k := 2) rfl rfl (by decide) rfl (fun ls hl => ?_)
                  refine lv_goto (tgt := 186) hx hb dX7_cupsBy_202 (by decide) ?_
                  exact ih _ (hz1 _ (Option.some.inj hM).symm) _ _ _ hP hD hS (lv_sub hl [2, 1, 0] rfl)
            exact Lv16 _ _ hM _ _ _ hP hD hS (lv_sub hl [2, 1, 0] rfl)
          refine lv_icmp_ne (tgt := 148) hx hb dX7_cupsBy_128 (by decide) (fun c11 => ?_) (fun c11 => ?_)
          · have hM := xif c11 hM
            refine lv_aload_n hx hb dX7_cupsBy_148 rfl (lv_at hl 0 rfl) ?_
            refine va_get (D := D) (ci := 7) (v := .ref (x 3)) (C := RX7) (T := TX7) (N := 30) hx hb hts (fun w h => List.mem_cons_of_mem _ (List.mem_append_right _ h)) hown hK hP 0 rfl rfl 9 (by decide) (hts _ (List.mem_of_getElem? (i := 1) rfl)) (fun _ h9 => h9) rfl dX7_cupsBy_149 ?_
            refine lv_iconst (v := 3) hx hb dX7_cupsBy_152 (by decide) ?_
            refine xald (v := ((upd (upd (upd (upd r1 (8) v3) (5) v5) (7) v7) (0) v10) 3)) hx hb hK hP 2 0 rfl rfl (xin_vp (by decide)) (congrArg _ (show (3 : Int32).toNatClampNeg = 3 by decide)) dX7_cupsBy_153 ?_
            obtain rfl := Option.some.inj hM
            exact Kv13 _ _ _ hP hD hS (lv_sub hl [0] rfl)
          · have hM := xit c11 hM
            refine lv_iconst (v := 2) hx hb dX7_cupsBy_131 (by decide) ?_
            refine lv_aload_n hx hb dX7_cupsBy_132 rfl (lv_at hl 0 rfl) ?_
            refine va_get (D := D) (ci := 7) (v := .ref (x 3)) (C := RX7) (T := TX7) (N := 30) hx hb hts (fun w h => List.mem_cons_of_mem _ (List.mem_append_right _ h)) hown hK hP 0 rfl rfl 9 (by decide) (hts _ (List.mem_of_getElem? (i := 1) rfl)) (fun _ h9 => h9) rfl dX7_cupsBy_133 ?_
            refine lv_iconst (v := 3) hx hb dX7_cupsBy_136 (by decide) ?_
            refine xald (v := ((upd (upd (upd (upd r1 (8) v3) (5) v5) (7) v7) (0) v10) 3)) hx hb hK hP 2 0 rfl rfl (xin_vp (by decide)) (congrArg _ (show (3 : Int32).toNatClampNeg = 3 by decide)) dX7_cupsBy_137 ?_
            refine lv_imul hx hb dX7_cupsBy_138 ?_
            refine lv_iconst (v := 0) hx hb dX7_cupsBy_139 (by decide) ?_
            refine lv_bipush (v := 99) hx hb dX7_cupsBy_140 (by decide) ?_
            obtain ⟨r12, er12, hM⟩ := xbd hM
            refine xafti (rv := r12) (W2 := [((x 0), .inr (7, o7 x u_this)), ((x 2), .inl (T.1, 22, .inl u_this_told)), ((x 3), .inl (T.1, 11, .inl (upd (upd (upd (upd r1 (8) v3) (5) v5) (7) v7) (0) v10))), ((x 4), .inl (T.1, 7, .inl u_this_try0))]) (va_runS (As := [.int ((2) * ((upd (upd (upd (upd r1 (8) v3) (5) v5) (7) v7) (0) v10) 3)), .int (0), .int (99)]) (rest := [.int (3), .ref (x 3)]) ⟨hx, hb, hml, hown, hts⟩ (c_X7_within l D T ((2) * ((upd (upd (upd (upd r1 (8) v3) (5) v5) (7) v7) (0) v10) 3)) (0) (99) (Option.some.inj er12)) (cwS 3 hts gX7_cupsBy_X7_within rfl rfl rfl (by decide +kernel) ⟨Nat.le_of_ble_eq_true rfl, Nat.le_of_ble_eq_true rfl⟩) (xpvs hP hD hK [] (by decide) rfl (fun _ _ _ => trivial) (fun _ _ _ _ _ _ => trivial)) rfl rfl hl.1 rfl (lv_room (Nat.le_of_ble_eq_true rfl)) dX7_cupsBy_142 ⟨Nat.le_of_ble_eq_true rfl, Nat.le_of_ble_eq_true rfl⟩) hP hD hS hA [] rfl rfl rfl rfl (fun H locs hP hD hS => ?_)
            refine lv_goto (tgt := 154) hx hb dX7_cupsBy_145 (by decide) ?_
            obtain rfl := Option.some.inj hM
            exact Kv13 _ _ _ hP hD hS (lv_sub hl [0] rfl)
        refine lv_icmp_ne (tgt := 110) hx hb dX7_cupsBy_89 (by decide) (fun c8 => ?_) (fun c8 => ?_)
        · have hM := xif c8 hM
          refine lv_aload_n hx hb dX7_cupsBy_110 rfl (lv_at hl 0 rfl) ?_
          refine va_get (D := D) (ci := 7) (v := .ref (x 3)) (C := RX7) (T := TX7) (N := 30) hx hb hts (fun w h => List.mem_cons_of_mem _ (List.mem_append_right _ h)) hown hK hP 0 rfl rfl 9 (by decide) (hts _ (List.mem_of_getElem? (i := 1) rfl)) (fun _ h9 => h9) rfl dX7_cupsBy_111 ?_
          refine lv_iconst (v := 0) hx hb dX7_cupsBy_114 (by decide) ?_
          refine xald (v := ((upd (upd (upd r1 (8) v3) (5) v5) (7) v7) 0)) hx hb hK hP 2 0 rfl rfl (xin_vp (by decide)) (congrArg _ (show (0 : Int32).toNatClampNeg = 0 by decide)) dX7_cupsBy_115 ?_
          obtain rfl := Option.some.inj hM
          exact Kv10 _ _ _ hP hD hS (lv_sub hl [0, 1] rfl)
        · have hM := xit c8 hM
          refine lv_aload_n hx hb dX7_cupsBy_92 rfl (lv_at hl 0 rfl) ?_
          refine va_get (D := D) (ci := 7) (v := .ref (x 3)) (C := RX7) (T := TX7) (N := 30) hx hb hts (fun w h => List.mem_cons_of_mem _ (List.mem_append_right _ h)) hown hK hP 0 rfl rfl 9 (by decide) (hts _ (List.mem_of_getElem? (i := 1) rfl)) (fun _ h9 => h9) rfl dX7_cupsBy_93 ?_
          refine lv_iconst (v := 0) hx hb dX7_cupsBy_96 (by decide) ?_
          refine xald (v := ((upd (upd (upd r1 (8) v3) (5) v5) (7) v7) 0)) hx hb hK hP 2 0 rfl rfl (xin_vp (by decide)) (congrArg _ (show (0 : Int32).toNatClampNeg = 0 by decide)) dX7_cupsBy_97 ?_
          refine lv_bipush (v := 20) hx hb dX7_cupsBy_98 (by decide) ?_
          refine lv_iadd hx hb dX7_cupsBy_100 ?_
          refine lv_iconst (v := 1) hx hb dX7_cupsBy_101 (by decide) ?_
          refine lv_bipush (v := 99) hx hb dX7_cupsBy_102 (by decide) ?_
          obtain ⟨r9, er9, hM⟩ := xbd hM
          refine xafti (rv := r9) (W2 := [((x 0), .inr (7, o7 x u_this)), ((x 2), .inl (T.1, 22, .inl u_this_told)), ((x 3), .inl (T.1, 11, .inl (upd (upd (upd r1 (8) v3) (5) v5) (7) v7))), ((x 4), .inl (T.1, 7, .inl u_this_try0))]) (va_runS (As := [.int (((upd (upd (upd r1 (8) v3) (5) v5) (7) v7) 0) + (20)), .int (1), .int (99)]) (rest := [.int (0), .ref (x 3)]) ⟨hx, hb, hml, hown, hts⟩ (c_X7_within l D T (((upd (upd (upd r1 (8) v3) (5) v5) (7) v7) 0) + (20)) (1) (99) (Option.some.inj er9)) (cwS 3 hts gX7_cupsBy_X7_within rfl rfl rfl (by decide +kernel) ⟨Nat.le_of_ble_eq_true rfl, Nat.le_of_ble_eq_true rfl⟩) (xpvs hP hD hK [] (by decide) rfl (fun _ _ _ => trivial) (fun _ _ _ _ _ _ => trivial)) rfl rfl hl.1 rfl (lv_room (Nat.le_of_ble_eq_true rfl)) dX7_cupsBy_104 ⟨Nat.le_of_ble_eq_true rfl, Nat.le_of_ble_eq_true rfl⟩) hP hD hS hA [] rfl rfl rfl rfl (fun H locs hP hD hS => ?_)
          refine lv_goto (tgt := 116) hx hb dX7_cupsBy_107 (by decide) ?_
          obtain rfl := Option.some.inj hM
          exact Kv10 _ _ _ hP hD hS (lv_sub hl [0, 1] rfl)
      refine lv_icmp_ne (tgt := 70) hx hb dX7_cupsBy_63 (by decide) (fun c6 => ?_) (fun c6 => ?_)
      · have hM := xif c6 hM
        refine lv_aload_n hx hb dX7_cupsBy_70 rfl (lv_at hl 0 rfl) ?_
        refine va_get (D := D) (ci := 7) (v := .ref (x 3)) (C := RX7) (T := TX7) (N := 30) hx hb hts (fun w h => List.mem_cons_of_mem _ (List.mem_append_right _ h)) hown hK hP 0 rfl rfl 9 (by decide) (hts _ (List.mem_of_getElem? (i := 1) rfl)) (fun _ h9 => h9) rfl dX7_cupsBy_71 ?_
        refine lv_bipush (v := 7) hx hb dX7_cupsBy_74 (by decide) ?_
        refine xald (v := ((upd (upd r1 (8) v3) (5) v5) 7)) hx hb hK hP 2 0 rfl rfl (xin_vp (by decide)) (congrArg _ (show (7 : Int32).toNatClampNeg = 7 by decide)) dX7_cupsBy_76 ?_
        obtain rfl := Option.some.inj hM
        exact Kv7 _ _ _ hP hD hS (lv_sub hl [0, 1] rfl)
      · have hM := xit c6 hM
        refine lv_iconst (v := 0) hx hb dX7_cupsBy_66 (by decide) ?_
        refine lv_goto (tgt := 77) hx hb dX7_cupsBy_67 (by decide) ?_
        obtain rfl := Option.some.inj hM
        exact Kv7 _ _ _ hP hD hS (lv_sub hl [0, 1] rfl)
    refine lv_icmp_ne (tgt := 46) hx hb dX7_cupsBy_39 (by decide) (fun c4 => ?_) (fun c4 => ?_)
    · have hM := xif c4 hM
      refine lv_aload_n hx hb dX7_cupsBy_46 rfl (lv_at hl 0 rfl) ?_
      refine va_get (D := D) (ci := 7) (v := .ref (x 3)) (C := RX7) (T := TX7) (N := 30) hx hb hts (fun w h => List.mem_cons_of_mem _ (List.mem_append_right _ h)) hown hK hP 0 rfl rfl 9 (by decide) (hts _ (List.mem_of_getElem? (i := 1) rfl)) (fun _ h9 => h9) rfl dX7_cupsBy_47 ?_
      refine lv_iconst (v := 5) hx hb dX7_cupsBy_50 (by decide) ?_
      refine xald (v := ((upd r1 (8) v3) 5)) hx hb hK hP 2 0 rfl rfl (xin_vp (by decide)) (congrArg _ (show (5 : Int32).toNatClampNeg = 5 by decide)) dX7_cupsBy_51 ?_
      obtain rfl := Option.some.inj hM
      exact Kv5 _ _ _ hP hD hS (lv_sub hl [0, 1] rfl)
    · have hM := xit c4 hM
      refine lv_iconst (v := 0) hx hb dX7_cupsBy_42 (by decide) ?_
      refine lv_goto (tgt := 52) hx hb dX7_cupsBy_43 (by decide) ?_
      obtain rfl := Option.some.inj hM
      exact Kv5 _ _ _ hP hD hS (lv_sub hl [0, 1] rfl)
  refine lv_icmp_ne (tgt := 22) hx hb dX7_cupsBy_14 (by decide) (fun c2 => ?_) (fun c2 => ?_)
  · have hM := xif c2 hM
    refine lv_aload_n hx hb dX7_cupsBy_22 rfl (lv_at hl 0 rfl) ?_
    refine va_get (D := D) (ci := 7) (v := .ref (x 3)) (C := RX7) (T := TX7) (N := 30) hx hb hts (fun w h => List.mem_cons_of_mem _ (List.mem_append_right _ h)) hown hK hP 0 rfl rfl 9 (by decide) (hts _ (List.mem_of_getElem? (i := 1) rfl)) (fun _ h9 => h9) rfl dX7_cupsBy_23 ?_
    refine lv_bipush (v := 8) hx hb dX7_cupsBy_26 (by decide) ?_
    refine xald (v := (r1 8)) hx hb hK hP 2 0 rfl rfl (xin_vp (by decide)) (congrArg _ (show (8 : Int32).toNatClampNeg = 8 by decide)) dX7_cupsBy_28 ?_
    obtain rfl := Option.some.inj hM
    exact Kv3 _ _ _ hP hD hS (lv_sub hl [0, 1] rfl)
  · have hM := xit c2 hM
    refine lv_bipush (v := 100) hx hb dX7_cupsBy_17 (by decide) ?_
    refine lv_goto (tgt := 29) hx hb dX7_cupsBy_19 (by decide) ?_
    obtain rfl := Option.some.inj hM
    exact Kv3 _ _ _ hP hD hS (lv_sub hl [0, 1] rfl)
def s_X7_costsOf_4 (u_this_costs : (Nat → Int32)) (p1 : Int32) (v1 : Int32 × Int32) : Option ((Int32 × Int32) ⊕ (Int32 × Int32)) :=
  if (5) ≤ v1.2 then
   (some (.inr (v1.1, v1.2)))
  else
   (if xin v1.2 5 = true then
    (some (.inl ((v1.1 + (((p1 >>> (v1.2 &&& 31)) &&& (1)) * (u_this_costs v1.2.toNatClampNeg))), v1.2 + 1)))
    else none)
def f_X7_costsOf (N : Nat) (u_this : K7) (u_this_costs : (Nat → Int32)) (p1 : Int32) : Option (Int32) :=
  (xlp (s_X7_costsOf_4 u_this_costs p1) N (0, 0)).bind fun v4 =>
  some v4.1
set_option maxHeartbeats 4000000 in
set_option maxRecDepth 100000 in
theorem c_X7_costsOf (l : Launch) (D : va_G) (T : xT) (x : Nat → Nat) {sz : Nat} {N : Nat} (u_this : K7) (u_this_costs : (Nat → Int32)) (p1 : Int32) {rv : Int32} (hM : f_X7_costsOf N u_this u_this_costs p1 = some rv) : Met l yX7_costsOf wsX7_costsOf ({ frames := 0, cells := 0, slots := 0, locals := 0 } : Room) (va_Pc [.ref (x 0), .int p1] (xPre D T [((x 0), .inr (7, o7 x u_this)), ((x 14), .inl (T.1, 5, .inl u_this_costs))] sz xE0)) (va_Qi (fun (r : Int32) (_ : Unit) => r = rv) (fun _ => xPost D T [((x 0), .inr (7, o7 x u_this)), ((x 14), .inl (T.1, 5, .inl u_this_costs))] (va_A [((x 0), .inr (7, o7 x u_this)), ((x 14), .inl (T.1, 5, .inl u_this_costs))] sz)) (va_A [((x 0), .inr (7, o7 x u_this)), ((x 14), .inl (T.1, 5, .inl u_this_costs))] sz)) 0 0 (va_A [((x 0), .inr (7, o7 x u_this)), ((x 14), .inl (T.1, 5, .inl u_this_costs))] sz) := by
  refine xMet (av := [.ref (x 0), .int p1]) (Wd := [((x 0), .inr (7, o7 x u_this)), ((x 14), .inl (T.1, 5, .inl u_this_costs))]) (E := xE0) (Qc := fun A => (va_Qi (fun (r : Int32) (_ : Unit) => r = rv) (fun _ => xPost D T [((x 0), .inr (7, o7 x u_this)), ((x 14), .inl (T.1, 5, .inl u_this_costs))] A) A)) (cc := cX7_costsOf) (maxL := 4) (ret := (some .int)) (by decide) rfl (Nat.le_of_ble_eq_true rfl) ?_
  intro p e s m below meth c A ls hx hb hr hml hts hown hlocks hnm hP hK hD hS hA hE hl
  have hown : s.vm.findClass RX7 = some m.cls := hown
  have hl : lv_has ls 4 [(0, .ref (x 0)), (1, .int p1)] := hl
  unfold f_X7_costsOf at hM
  refine lv_iconst (v := 0) hx hb dX7_costsOf_0 (by decide) ?_
  refine lv_istore_n (lv' := [(2, .int (0)), (0, .ref (x 0)), (1, .int p1)]) hx hb dX7_costsOf_1 rfl hl (by decide) rfl (fun ls hl => ?_)
  refine lv_iconst (v := 0) hx hb dX7_costsOf_2 (by decide) ?_
  refine lv_istore_n (lv' := [(3, .int (0)), (2, .int (0)), (0, .ref (x 0)), (1, .int p1)]) hx hb dX7_costsOf_3 rfl hl (by decide) rfl (fun ls hl => ?_)
  obtain ⟨v4, hM, hNv4⟩ := xbd hM
  have hQv4 := hM
  have Kv4 : ∀ (H : Heap) (locs : List Loc) (ls : Array Slot), va_P D vwCl [((x 0), .inr (7, o7 x u_this)), ((x 14), .inl (T.1, 5, .inl u_this_costs))] H → va_D A [((x 0), .inr (7, o7 x u_this)), ((x 14), .inl (T.1, 5, .inl u_this_costs))] → va_S A s.heap H locs → lv_has ls 4 [(2, .int v4.1)] → W p l e ({ frames := 0, cells := 0, slots := 0, locals := 0 } : Room) s m ([.ref (x 0), .int p1] : List Value).toArray below meth c H locs 0 0 (MQ below (va_Qi (fun (r : Int32) (_ : Unit) => r = rv) (fun _ => xPost D T [((x 0), .inr (7, o7 x u_this)), ((x 14), .inl (T.1, 5, .inl u_this_costs))] A) A) ([.ref (x 0), .int p1] : List Value).toArray s 0 0 A) (F0 m 30 ls []) := by
    intro H locs ls hP hD hS hl
    have hM := hNv4
    refine lv_iload_n hx hb dX7_costsOf_30 rfl (lv_at hl 0 rfl) ?_
    obtain rfl := Option.some.inj hM
    exact xreti hx hb hr hlocks hP hK hD hS dX7_costsOf_31 rfl
  have Lv1 : ∀ (n : Nat) (v1 : Int32 × Int32), xlp (s_X7_costsOf_4 u_this_costs p1) n v1 = some v4 → ∀ (H : Heap) (locs : List Loc) (ls : Array Slot), va_P D vwCl [((x 0), .inr (7, o7 x u_this)), ((x 14), .inl (T.1, 5, .inl u_this_costs))] H → va_D A [((x 0), .inr (7, o7 x u_this)), ((x 14), .inl (T.1, 5, .inl u_this_costs))] → va_S A s.heap H locs → lv_has ls 4 [(0, .ref (x 0)), (1, .int p1), (2, .int v1.1), (3, .int v1.2)] → W p l e ({ frames := 0, cells := 0, slots := 0, locals := 0 } : Room) s m ([.ref (x 0), .int p1] : List Value).toArray below meth c H locs 0 0 (MQ below (va_Qi (fun (r : Int32) (_ : Unit) => r = rv) (fun _ => xPost D T [((x 0), .inr (7, o7 x u_this)), ((x 14), .inl (T.1, 5, .inl u_this_costs))] A) A) ([.ref (x 0), .int p1] : List Value).toArray s 0 0 A) (F0 m 4 ls []) := by
    intro n
    induction n with
    | zero => exact fun _ h => (xlp_0 h).elim
    | succ n ih =>
      intro v1 hM H locs ls hP hD hS hl
      obtain ⟨z, hM, hz1, hz2⟩ := xlp_s hM
      unfold s_X7_costsOf_4 at hM
      refine lv_iload_n hx hb dX7_costsOf_4 rfl (lv_at hl 3 rfl) ?_
      refine lv_iconst (v := 5) hx hb dX7_costsOf_5 (by decide) ?_
      refine lv_icmp_ge (tgt := 30) hx hb dX7_costsOf_6 (by decide) (fun c2 => ?_) (fun c2 => ?_)
      · have hM := xit c2 hM
        obtain rfl := hz2 _ (Option.some.inj hM).symm
        exact Kv4 _ _ _ hP hD hS (lv_sub hl [2] rfl)
      · have hM := xif c2 hM
        refine lv_iload_n hx hb dX7_costsOf_9 rfl (lv_at hl 2 rfl) ?_
        refine lv_iload_n hx hb dX7_costsOf_10 rfl (lv_at hl 1 rfl) ?_
        refine lv_iload_n hx hb dX7_costsOf_11 rfl (lv_at hl 3 rfl) ?_
        refine lv_ishr hx hb dX7_costsOf_12 ?_
        refine lv_iconst (v := 1) hx hb dX7_costsOf_13 (by decide) ?_
        refine lv_iand hx hb dX7_costsOf_14 ?_
        refine lv_aload_n hx hb dX7_costsOf_15 rfl (lv_at hl 0 rfl) ?_
        refine va_get (D := D) (ci := 7) (v := .ref (x 14)) (C := RX7) (T := TX7) (N := 30) hx hb hts (fun w h => List.mem_cons_of_mem _ (List.mem_append_right _ h)) hown hK hP 0 rfl rfl 23 (by decide) (hts _ (List.mem_of_getElem? (i := 1) rfl)) (fun _ h9 => h9) rfl dX7_costsOf_16 ?_
        refine lv_iload_n hx hb dX7_costsOf_19 rfl (lv_at hl 3 rfl) ?_
        obtain ⟨g3, hM⟩ := xck hM
        refine xald (v := (u_this_costs v1.2.toNatClampNeg)) hx hb hK hP 1 0 rfl rfl g3 rfl dX7_costsOf_20 ?_
        refine lv_imul hx hb dX7_costsOf_21 ?_
        refine lv_iadd hx hb dX7_costsOf_22 ?_
        refine lv_istore_n (lv' := [(2, .int (v1.1 + (((p1 >>> (v1.2 &&& 31)) &&& (1)) * (u_this_costs v1.2.toNatClampNeg)))), (0, .ref (x 0)), (1, .int p1), (3, .int v1.2)]) hx hb dX7_costsOf_23 rfl hl (by decide) rfl (fun ls hl => ?_)
        refine lv_iinc (v := v1.2 + 1) (lv' := [(3, .int (v1.2 + 1)), (2, .int (v1.1 + (((p1 >>> (v1.2 &&& 31)) &&& (1)) * (u_this_costs v1.2.toNatClampNeg)))), (0, .ref (x 0)), (1, .int p1)]) hx hb dX7_costsOf_24 hl (k := 3) rfl rfl (by decide) rfl (fun ls hl => ?_)
        refine lv_goto (tgt := 4) hx hb dX7_costsOf_27 (by decide) ?_
        exact ih _ (hz1 _ (Option.some.inj hM).symm) _ _ _ hP hD hS (lv_sub hl [2, 3, 1, 0] rfl)
  exact Lv1 _ _ hM _ _ _ hP hD hS (lv_sub hl [2, 3, 1, 0] rfl)
def s_X7_choice_28 (N : Nat) (u_this : K7) (u_this_told : (Nat → Int32)) (u_this_costs : (Nat → Int32)) (p1 : Int32) (v3 : Int32 × Int32 × (Nat → Int32) × (Nat → Int32)) : Option ((Int32 × Int32 × (Nat → Int32) × (Nat → Int32)) ⊕ (Int32 × Int32 × (Nat → Int32) × (Nat → Int32))) :=
  if (32) ≤ v3.2.1 then
   (some (.inr (v3.1, v3.2.1, v3.2.2.1, v3.2.2.2)))
  else
   (if v3.1 = (-9) then
     ((f_X7_cupsBy N u_this u_this_told v3.2.2.1 v3.2.2.2 v3.2.1).bind fun r6 =>
      if r6.1 < p1 then
       (some (.inl (v3.1, v3.2.1 + 1, r6.2.1, r6.2.2)))
      else
       (some (.inl (v3.2.1, v3.2.1 + 1, r6.2.1, r6.2.2))))
    else
     ((f_X7_costsOf N u_this u_this_costs v3.2.1).bind fun r8 =>
      (f_X7_costsOf N u_this u_this_costs v3.1).bind fun r9 =>
      if r9 ≤ r8 then
       (some (.inl (v3.1, v3.2.1 + 1, v3.2.2.1, v3.2.2.2)))
      else
       ((f_X7_cupsBy N u_this u_this_told v3.2.2.1 v3.2.2.2 v3.2.1).bind fun r11 =>
        if r11.1 < p1 then
         (some (.inl (v3.1, v3.2.1 + 1, r11.2.1, r11.2.2)))
        else
         (some (.inl (v3.2.1, v3.2.1 + 1, r11.2.1, r11.2.2))))))
def f_X7_choice (N : Nat) (u_this : K7) (u_this_told : (Nat → Int32)) (u_this_par : (Nat → Int32)) (u_this_try0 : (Nat → Int32)) (u_this_costs : (Nat → Int32)) (p1 : Int32) (p2 : Int32) : Option (Int32 × (Nat → Int32) × (Nat → Int32)) :=
  if (f_X7_in p1 (0) (9999)) = (0) then
   (some ((-1), u_this_par, u_this_try0))
  else
   (if (f_X7_in p2 (0) (1)) = (0) then
     (some ((-1), u_this_par, u_this_try0))
    else
     ((xlp (s_X7_choice_28 N u_this u_this_told u_this_costs p1) N ((-9), 0, u_this_par, u_this_try0)).bind fun v13 =>
      if v13.1 = (-9) then
       (some (v13.1, v13.2.2.1, v13.2.2.2))
      else
       (if p2 = (0) then
         (some (v13.1, v13.2.2.1, v13.2.2.2))
        else
         ((f_X7_costsOf N u_this u_this_costs v13.1).bind fun r16 =>
          some (r16, v13.2.2.1, v13.2.2.2)))))
set_option maxHeartbeats 4000000 in
set_option maxRecDepth 100000 in
theorem c_X7_choice (l : Launch) (D : va_G) (T : xT) (x : Nat → Nat) {sz : Nat} {N : Nat} (u_this : K7) (u_this_told : (Nat → Int32)) (u_this_par : (Nat → Int32)) (u_this_try0 : (Nat → Int32)) (u_this_costs : (Nat → Int32)) (p1 : Int32) (p2 : Int32) {rv : Int32 × (Nat → Int32) × (Nat → Int32)} (hM : f_X7_choice N u_this u_this_told u_this_par u_this_try0 u_this_costs p1 p2 = some rv) : Met l yX7_choice wsX7_choice ({ frames := 5, cells := 0, slots := 0, locals := 110 } : Room) (va_Pc [.ref (x 0), .int p1, .int p2] (xPre D T [((x 0), .inr (7, o7 x u_this)), ((x 2), .inl (T.1, 22, .inl u_this_told)), ((x 3), .inl (T.1, 11, .inl u_this_par)), ((x 4), .inl (T.1, 7, .inl u_this_try0)), ((x 14), .inl (T.1, 5, .inl u_this_costs))] sz xE0)) (va_Qi (fun (r : Int32) (_ : Unit) => r = rv.1) (fun _ => xPost D T [((x 0), .inr (7, o7 x u_this)), ((x 2), .inl (T.1, 22, .inl u_this_told)), ((x 3), .inl (T.1, 11, .inl rv.2.1)), ((x 4), .inl (T.1, 7, .inl rv.2.2)), ((x 14), .inl (T.1, 5, .inl u_this_costs))] (va_A [((x 0), .inr (7, o7 x u_this)), ((x 2), .inl (T.1, 22, .inl u_this_told)), ((x 3), .inl (T.1, 11, .inl u_this_par)), ((x 4), .inl (T.1, 7, .inl u_this_try0)), ((x 14), .inl (T.1, 5, .inl u_this_costs))] sz)) (va_A [((x 0), .inr (7, o7 x u_this)), ((x 2), .inl (T.1, 22, .inl u_this_told)), ((x 3), .inl (T.1, 11, .inl u_this_par)), ((x 4), .inl (T.1, 7, .inl u_this_try0)), ((x 14), .inl (T.1, 5, .inl u_this_costs))] sz)) 0 0 (va_A [((x 0), .inr (7, o7 x u_this)), ((x 2), .inl (T.1, 22, .inl u_this_told)), ((x 3), .inl (T.1, 11, .inl u_this_par)), ((x 4), .inl (T.1, 7, .inl u_this_try0)), ((x 14), .inl (T.1, 5, .inl u_this_costs))] sz) := by
  refine xMet (av := [.ref (x 0), .int p1, .int p2]) (Wd := [((x 0), .inr (7, o7 x u_this)), ((x 2), .inl (T.1, 22, .inl u_this_told)), ((x 3), .inl (T.1, 11, .inl u_this_par)), ((x 4), .inl (T.1, 7, .inl u_this_try0)), ((x 14), .inl (T.1, 5, .inl u_this_costs))]) (E := xE0) (Qc := fun A => (va_Qi (fun (r : Int32) (_ : Unit) => r = rv.1) (fun _ => xPost D T [((x 0), .inr (7, o7 x u_this)), ((x 2), .inl (T.1, 22, .inl u_this_told)), ((x 3), .inl (T.1, 11, .inl rv.2.1)), ((x 4), .inl (T.1, 7, .inl rv.2.2)), ((x 14), .inl (T.1, 5, .inl u_this_costs))] A) A)) (cc := cX7_choice) (maxL := 5) (ret := (some .int)) (by decide) rfl (Nat.le_of_ble_eq_true rfl) ?_
  intro p e s m below meth c A ls hx hb hr hml hts hown hlocks hnm hP hK hD hS hA hE hl
  have hown : s.vm.findClass RX7 = some m.cls := hown
  have hl : lv_has ls 5 [(0, .ref (x 0)), (1, .int p1), (2, .int p2)] := hl
  unfold f_X7_choice at hM
  refine lv_iload_n hx hb dX7_choice_0 rfl (lv_at hl 1 rfl) ?_
  refine lv_iconst (v := 0) hx hb dX7_choice_1 (by decide) ?_
  refine lv_sipush (v := 9999) hx hb dX7_choice_2 (by decide) ?_
  refine xafti (rv := (f_X7_in p1 (0) (9999))) (W2 := [((x 0), .inr (7, o7 x u_this)), ((x 2), .inl (T.1, 22, .inl u_this_told)), ((x 3), .inl (T.1, 11, .inl u_this_par)), ((x 4), .inl (T.1, 7, .inl u_this_try0)), ((x 14), .inl (T.1, 5, .inl u_this_costs))]) (va_runS (As := [.int p1, .int (0), .int (9999)]) (rest := []) ⟨hx, hb, hml, hown, hts⟩ (c_X7_in (rv := (f_X7_in p1 (0) (9999))) l D T p1 (0) (9999) rfl) (cwS 3 hts gX7_choice_X7_in rfl rfl rfl (by decide +kernel) ⟨Nat.le_of_ble_eq_true rfl, Nat.le_of_ble_eq_true rfl⟩) (xpvs hP hD hK [] (by decide) rfl (fun _ _ _ => trivial) (fun _ _ _ _ _ _ => trivial)) rfl rfl hl.1 rfl (lv_room (Nat.le_of_ble_eq_true rfl)) dX7_choice_5 ⟨Nat.le_of_ble_eq_true rfl, Nat.le_of_ble_eq_true rfl⟩) hP hD hS hA [] rfl rfl rfl rfl (fun H locs hP hD hS => ?_)
  refine lv_if_eq (tgt := 20) hx hb dX7_choice_8 (by decide) (fun c1 => ?_) (fun c1 => ?_)
  · have hM := xit c1 hM
    refine lv_iconst (v := (-1)) hx hb dX7_choice_20 (by decide) ?_
    obtain rfl := Option.some.inj hM
    exact xreti hx hb hr hlocks hP hK hD hS dX7_choice_21 rfl
  · have hM := xif c1 hM
    refine lv_iload_n hx hb dX7_choice_11 rfl (lv_at hl 2 rfl) ?_
    refine lv_iconst (v := 0) hx hb dX7_choice_12 (by decide) ?_
    refine lv_iconst (v := 1) hx hb dX7_choice_13 (by decide) ?_
    refine xafti (rv := (f_X7_in p2 (0) (1))) (W2 := [((x 0), .inr (7, o7 x u_this)), ((x 2), .inl (T.1, 22, .inl u_this_told)), ((x 3), .inl (T.1, 11, .inl u_this_par)), ((x 4), .inl (T.1, 7, .inl u_this_try0)), ((x 14), .inl (T.1, 5, .inl u_this_costs))]) (va_runS (As := [.int p2, .int (0), .int (1)]) (rest := []) ⟨hx, hb, hml, hown, hts⟩ (c_X7_in (rv := (f_X7_in p2 (0) (1))) l D T p2 (0) (1) rfl) (cwS 3 hts gX7_choice_X7_in rfl rfl rfl (by decide +kernel) ⟨Nat.le_of_ble_eq_true rfl, Nat.le_of_ble_eq_true rfl⟩) (xpvs hP hD hK [] (by decide) rfl (fun _ _ _ => trivial) (fun _ _ _ _ _ _ => trivial)) rfl rfl hl.1 rfl (lv_room (Nat.le_of_ble_eq_true rfl)) dX7_choice_14 ⟨Nat.le_of_ble_eq_true rfl, Nat.le_of_ble_eq_true rfl⟩) hP hD hS hA [] rfl rfl rfl rfl (fun H locs hP hD hS => ?_)
    refine lv_if_ne (tgt := 22) hx hb dX7_choice_17 (by decide) (fun c2 => ?_) (fun c2 => ?_)
    · have hM := xif c2 hM
      refine lv_bipush (v := (-9)) hx hb dX7_choice_22 (by decide) ?_
      refine lv_istore_n (lv' := [(3, .int (-9)), (0, .ref (x 0)), (1, .int p1), (2, .int p2)]) hx hb dX7_choice_24 rfl hl (by decide) rfl (fun ls hl => ?_)
      refine lv_iconst (v := 0) hx hb dX7_choice_25 (by decide) ?_
      refine lv_istore (lv' := [(4, .int (0)), (3, .int (-9)), (0, .ref (x 0)), (1, .int p1), (2, .int p2)]) hx hb dX7_choice_26 hl (by decide) rfl (fun ls hl => ?_)
      obtain ⟨v13, hM, hNv13⟩ := xbd hM
      have hQv13 := hM
      have Kv13 : ∀ (H : Heap) (locs : List Loc) (ls : Array Slot), va_P D vwCl [((x 0), .inr (7, o7 x u_this)), ((x 2), .inl (T.1, 22, .inl u_this_told)), ((x 3), .inl (T.1, 11, .inl v13.2.2.1)), ((x 4), .inl (T.1, 7, .inl v13.2.2.2)), ((x 14), .inl (T.1, 5, .inl u_this_costs))] H → va_D A [((x 0), .inr (7, o7 x u_this)), ((x 2), .inl (T.1, 22, .inl u_this_told)), ((x 3), .inl (T.1, 11, .inl v13.2.2.1)), ((x 4), .inl (T.1, 7, .inl v13.2.2.2)), ((x 14), .inl (T.1, 5, .inl u_this_costs))] → va_S A s.heap H locs → lv_has ls 5 [(0, .ref (x 0)), (2, .int p2), (3, .int v13.1)] → W p l e ({ frames := 5, cells := 0, slots := 0, locals := 110 } : Room) s m ([.ref (x 0), .int p1, .int p2] : List Value).toArray below meth c H locs 0 0 (MQ below (va_Qi (fun (r : Int32) (_ : Unit) => r = rv.1) (fun _ => xPost D T [((x 0), .inr (7, o7 x u_this)), ((x 2), .inl (T.1, 22, .inl u_this_told)), ((x 3), .inl (T.1, 11, .inl rv.2.1)), ((x 4), .inl (T.1, 7, .inl rv.2.2)), ((x 14), .inl (T.1, 5, .inl u_this_costs))] A) A) ([.ref (x 0), .int p1, .int p2] : List Value).toArray s 0 0 A) (F0 m 74 ls []) := by
        intro H locs ls hP hD hS hl
        have hM := hNv13
        refine lv_iload_n hx hb dX7_choice_74 rfl (lv_at hl 2 rfl) ?_
        refine lv_bipush (v := (-9)) hx hb dX7_choice_75 (by decide) ?_
        refine lv_icmp_eq (tgt := 84) hx hb dX7_choice_77 (by decide) (fun c14 => ?_) (fun c14 => ?_)
        · have hM := xit c14 hM
          refine lv_iload_n hx hb dX7_choice_84 rfl (lv_at hl 2 rfl) ?_
          refine lv_goto (tgt := 93) hx hb dX7_choice_85 (by decide) ?_
          obtain rfl := Option.some.inj hM
          exact xreti hx hb hr hlocks hP hK hD hS dX7_choice_93 rfl
        · have hM := xif c14 hM
          refine lv_iload_n hx hb dX7_choice_80 rfl (lv_at hl 1 rfl) ?_
          refine lv_if_ne (tgt := 88) hx hb dX7_choice_81 (by decide) (fun c15 => ?_) (fun c15 => ?_)
          · have hM := xif c15 hM
            refine lv_aload_n hx hb dX7_choice_88 rfl (lv_at hl 0 rfl) ?_
            refine lv_iload_n hx hb dX7_choice_89 rfl (lv_at hl 2 rfl) ?_
            obtain ⟨r16, er16, hM⟩ := xbd hM
            refine xafti (rv := r16) (W2 := [((x 0), .inr (7, o7 x u_this)), ((x 2), .inl (T.1, 22, .inl u_this_told)), ((x 3), .inl (T.1, 11, .inl v13.2.2.1)), ((x 4), .inl (T.1, 7, .inl v13.2.2.2)), ((x 14), .inl (T.1, 5, .inl u_this_costs))]) (va_runV (As := [.int v13.1]) (rest := []) ⟨hx, hb, hml, hown, hts⟩ (c_X7_costsOf l D T x u_this u_this_costs v13.1 er16) (cwV 1 hts gX7_choice_X7_costsOf rfl rfl rfl (by decide +kernel) ⟨Nat.le_of_ble_eq_true rfl, Nat.le_of_ble_eq_true rfl⟩) (xpvv hP hD hK [0, 4] (by decide) rfl 0 7 rfl rfl (fun _ _ _ => trivial) (fun _ _ _ _ _ _ => trivial)) rfl rfl hl.1 rfl (lv_room (Nat.le_of_ble_eq_true rfl)) dX7_choice_90 ⟨Nat.le_of_ble_eq_true rfl, Nat.le_of_ble_eq_true rfl⟩) hP hD hS hA [0, 4] rfl rfl rfl rfl (fun H locs hP hD hS => ?_)
            obtain rfl := Option.some.inj hM
            exact xreti hx hb hr hlocks hP hK hD hS dX7_choice_93 rfl
          · have hM := xit c15 hM
            refine lv_iload_n hx hb dX7_choice_84 rfl (lv_at hl 2 rfl) ?_
            refine lv_goto (tgt := 93) hx hb dX7_choice_85 (by decide) ?_
            obtain rfl := Option.some.inj hM
            exact xreti hx hb hr hlocks hP hK hD hS dX7_choice_93 rfl
      have Lv3 : ∀ (n : Nat) (v3 : Int32 × Int32 × (Nat → Int32) × (Nat → Int32)), xlp (s_X7_choice_28 N u_this u_this_told u_this_costs p1) n v3 = some v13 → ∀ (H : Heap) (locs : List Loc) (ls : Array Slot), va_P D vwCl [((x 0), .inr (7, o7 x u_this)), ((x 2), .inl (T.1, 22, .inl u_this_told)), ((x 3), .inl (T.1, 11, .inl v3.2.2.1)), ((x 4), .inl (T.1, 7, .inl v3.2.2.2)), ((x 14), .inl (T.1, 5, .inl u_this_costs))] H → va_D A [((x 0), .inr (7, o7 x u_this)), ((x 2), .inl (T.1, 22, .inl u_this_told)), ((x 3), .inl (T.1, 11, .inl v3.2.2.1)), ((x 4), .inl (T.1, 7, .inl v3.2.2.2)), ((x 14), .inl (T.1, 5, .inl u_this_costs))] → va_S A s.heap H locs → lv_has ls 5 [(0, .ref (x 0)), (1, .int p1), (2, .int p2), (3, .int v3.1), (4, .int v3.2.1)] → W p l e ({ frames := 5, cells := 0, slots := 0, locals := 110 } : Room) s m ([.ref (x 0), .int p1, .int p2] : List Value).toArray below meth c H locs 0 0 (MQ below (va_Qi (fun (r : Int32) (_ : Unit) => r = rv.1) (fun _ => xPost D T [((x 0), .inr (7, o7 x u_this)), ((x 2), .inl (T.1, 22, .inl u_this_told)), ((x 3), .inl (T.1, 11, .inl rv.2.1)), ((x 4), .inl (T.1, 7, .inl rv.2.2)), ((x 14), .inl (T.1, 5, .inl u_this_costs))] A) A) ([.ref (x 0), .int p1, .int p2] : List Value).toArray s 0 0 A) (F0 m 28 ls []) := by
        intro n
        induction n with
        | zero => exact fun _ h => (xlp_0 h).elim
        | succ n ih =>
          intro v3 hM H locs ls hP hD hS hl
          obtain ⟨z, hM, hz1, hz2⟩ := xlp_s hM
          unfold s_X7_choice_28 at hM
          refine lv_iload hx hb dX7_choice_28 (lv_at hl 4 rfl) ?_
          refine lv_bipush (v := 32) hx hb dX7_choice_30 (by decide) ?_
          refine lv_icmp_ge (tgt := 74) hx hb dX7_choice_32 (by decide) (fun c4 => ?_) (fun c4 => ?_)
          · have hM := xit c4 hM
            obtain rfl := hz2 _ (Option.some.inj hM).symm
            exact Kv13 _ _ _ hP hD hS (lv_sub hl [0, 2, 3] rfl)
          · have hM := xif c4 hM
            refine lv_iload_n hx hb dX7_choice_35 rfl (lv_at hl 3 rfl) ?_
            refine lv_bipush (v := (-9)) hx hb dX7_choice_36 (by decide) ?_
            refine lv_icmp_eq (tgt := 55) hx hb dX7_choice_38 (by decide) (fun c5 => ?_) (fun c5 => ?_)
            · have hM := xit c5 hM
              refine lv_aload_n hx hb dX7_choice_55 rfl (lv_at hl 0 rfl) ?_
              refine lv_iload hx hb dX7_choice_56 (lv_at hl 4 rfl) ?_
              obtain ⟨r6, er6, hM⟩ := xbd hM
              refine xafti (rv := r6.1) (W2 := [((x 0), .inr (7, o7 x u_this)), ((x 2), .inl (T.1, 22, .inl u_this_told)), ((x 3), .inl (T.1, 11, .inl r6.2.1)), ((x 4), .inl (T.1, 7, .inl r6.2.2)), ((x 14), .inl (T.1, 5, .inl u_this_costs))]) (va_runV (As := [.int v3.2.1]) (rest := []) ⟨hx, hb, hml, hown, hts⟩ (c_X7_cupsBy l D T x u_this u_this_told v3.2.2.1 v3.2.2.2 v3.2.1 er6) (cwV 1 hts gX7_choice_X7_cupsBy rfl rfl rfl (by decide +kernel) ⟨Nat.le_of_ble_eq_true rfl, Nat.le_of_ble_eq_true rfl⟩) (xpvv hP hD hK [0, 1, 2, 3] (by decide) rfl 0 7 rfl rfl (fun _ _ _ => trivial) (fun _ _ _ _ _ _ => trivial)) rfl rfl hl.1 rfl (lv_room (Nat.le_of_ble_eq_true rfl)) dX7_choice_58 ⟨Nat.le_of_ble_eq_true rfl, Nat.le_of_ble_eq_true rfl⟩) hP hD hS hA [0, 1, 2, 3] rfl rfl rfl rfl (fun H locs hP hD hS => ?_)
              refine lv_iload_n hx hb dX7_choice_61 rfl (lv_at hl 1 rfl) ?_
              refine lv_icmp_lt (tgt := 68) hx hb dX7_choice_62 (by decide) (fun c7 => ?_) (fun c7 => ?_)
              · have hM := xit c7 hM
                refine lv_iinc (v := v3.2.1 + 1) (lv' := [(4, .int (v3.2.1 + 1)), (0, .ref (x 0)), (1, .int p1), (2, .int p2), (3, .int v3.1)]) hx hb dX7_choice_68 hl (k := 4) rfl rfl (by decide) rfl (fun ls hl => ?_)
                refine lv_goto (tgt := 28) hx hb dX7_choice_71 (by decide) ?_
                exact ih _ (hz1 _ (Option.some.inj hM).symm) _ _ _ hP hD hS (lv_sub hl [1, 2, 3, 4, 0] rfl)
              · have hM := xif c7 hM
                refine lv_iload hx hb dX7_choice_65 (lv_at hl 4 rfl) ?_
                refine lv_istore_n (lv' := [(3, .int v3.2.1), (0, .ref (x 0)), (1, .int p1), (2, .int p2), (4, .int v3.2.1)]) hx hb dX7_choice_67 rfl hl (by decide) rfl (fun ls hl => ?_)
                refine lv_iinc (v := v3.2.1 + 1) (lv' := [(4, .int (v3.2.1 + 1)), (3, .int v3.2.1), (0, .ref (x 0)), (1, .int p1), (2, .int p2)]) hx hb dX7_choice_68 hl (k := 4) rfl rfl (by decide) rfl (fun ls hl => ?_)
                refine lv_goto (tgt := 28) hx hb dX7_choice_71 (by decide) ?_
                exact ih _ (hz1 _ (Option.some.inj hM).symm) _ _ _ hP hD hS (lv_sub hl [2, 3, 4, 1, 0] rfl)
            · have hM := xif c5 hM
              refine lv_aload_n hx hb dX7_choice_41 rfl (lv_at hl 0 rfl) ?_
              refine lv_iload hx hb dX7_choice_42 (lv_at hl 4 rfl) ?_
              obtain ⟨r8, er8, hM⟩ := xbd hM
              refine xafti (rv := r8) (W2 := [((x 0), .inr (7, o7 x u_this)), ((x 2), .inl (T.1, 22, .inl u_this_told)), ((x 3), .inl (T.1, 11, .inl v3.2.2.1)), ((x 4), .inl (T.1, 7, .inl v3.2.2.2)), ((x 14), .inl (T.1, 5, .inl u_this_costs))]) (va_runV (As := [.int v3.2.1]) (rest := []) ⟨hx, hb, hml, hown, hts⟩ (c_X7_costsOf l D T x u_this u_this_costs v3.2.1 er8) (cwV 1 hts gX7_choice_X7_costsOf rfl rfl rfl (by decide +kernel) ⟨Nat.le_of_ble_eq_true rfl, Nat.le_of_ble_eq_true rfl⟩) (xpvv hP hD hK [0, 4] (by decide) rfl 0 7 rfl rfl (fun _ _ _ => trivial) (fun _ _ _ _ _ _ => trivial)) rfl rfl hl.1 rfl (lv_room (Nat.le_of_ble_eq_true rfl)) dX7_choice_44 ⟨Nat.le_of_ble_eq_true rfl, Nat.le_of_ble_eq_true rfl⟩) hP hD hS hA [0, 4] rfl rfl rfl rfl (fun H locs hP hD hS => ?_)
              refine lv_aload_n hx hb dX7_choice_47 rfl (lv_at hl 0 rfl) ?_
              refine lv_iload_n hx hb dX7_choice_48 rfl (lv_at hl 3 rfl) ?_
              obtain ⟨r9, er9, hM⟩ := xbd hM
              refine xafti (rv := r9) (W2 := [((x 0), .inr (7, o7 x u_this)), ((x 2), .inl (T.1, 22, .inl u_this_told)), ((x 3), .inl (T.1, 11, .inl v3.2.2.1)), ((x 4), .inl (T.1, 7, .inl v3.2.2.2)), ((x 14), .inl (T.1, 5, .inl u_this_costs))]) (va_runV (As := [.int v3.1]) (rest := [.int r8]) ⟨hx, hb, hml, hown, hts⟩ (c_X7_costsOf l D T x u_this u_this_costs v3.1 er9) (cwV 1 hts gX7_choice_X7_costsOf rfl rfl rfl (by decide +kernel) ⟨Nat.le_of_ble_eq_true rfl, Nat.le_of_ble_eq_true rfl⟩) (xpvv hP hD hK [0, 4] (by decide) rfl 0 7 rfl rfl (fun _ _ _ => trivial) (fun _ _ _ _ _ _ => trivial)) rfl rfl hl.1 rfl (lv_room (Nat.le_of_ble_eq_true rfl)) dX7_choice_49 ⟨Nat.le_of_ble_eq_true rfl, Nat.le_of_ble_eq_true rfl⟩) hP hD hS hA [0, 4] rfl rfl rfl rfl (fun H locs hP hD hS => ?_)
              refine lv_icmp_ge (tgt := 68) hx hb dX7_choice_52 (by decide) (fun c10 => ?_) (fun c10 => ?_)
              · have hM := xit c10 hM
                refine lv_iinc (v := v3.2.1 + 1) (lv' := [(4, .int (v3.2.1 + 1)), (0, .ref (x 0)), (1, .int p1), (2, .int p2), (3, .int v3.1)]) hx hb dX7_choice_68 hl (k := 4) rfl rfl (by decide) rfl (fun ls hl => ?_)
                refine lv_goto (tgt := 28) hx hb dX7_choice_71 (by decide) ?_
                exact ih _ (hz1 _ (Option.some.inj hM).symm) _ _ _ hP hD hS (lv_sub hl [1, 2, 3, 4, 0] rfl)
              · have hM := xif c10 hM
                refine lv_aload_n hx hb dX7_choice_55 rfl (lv_at hl 0 rfl) ?_
                refine lv_iload hx hb dX7_choice_56 (lv_at hl 4 rfl) ?_
                obtain ⟨r11, er11, hM⟩ := xbd hM
                refine xafti (rv := r11.1) (W2 := [((x 0), .inr (7, o7 x u_this)), ((x 2), .inl (T.1, 22, .inl u_this_told)), ((x 3), .inl (T.1, 11, .inl r11.2.1)), ((x 4), .inl (T.1, 7, .inl r11.2.2)), ((x 14), .inl (T.1, 5, .inl u_this_costs))]) (va_runV (As := [.int v3.2.1]) (rest := []) ⟨hx, hb, hml, hown, hts⟩ (c_X7_cupsBy l D T x u_this u_this_told v3.2.2.1 v3.2.2.2 v3.2.1 er11) (cwV 1 hts gX7_choice_X7_cupsBy rfl rfl rfl (by decide +kernel) ⟨Nat.le_of_ble_eq_true rfl, Nat.le_of_ble_eq_true rfl⟩) (xpvv hP hD hK [0, 1, 2, 3] (by decide) rfl 0 7 rfl rfl (fun _ _ _ => trivial) (fun _ _ _ _ _ _ => trivial)) rfl rfl hl.1 rfl (lv_room (Nat.le_of_ble_eq_true rfl)) dX7_choice_58 ⟨Nat.le_of_ble_eq_true rfl, Nat.le_of_ble_eq_true rfl⟩) hP hD hS hA [0, 1, 2, 3] rfl rfl rfl rfl (fun H locs hP hD hS => ?_)
                refine lv_iload_n hx hb dX7_choice_61 rfl (lv_at hl 1 rfl) ?_
                refine lv_icmp_lt (tgt := 68) hx hb dX7_choice_62 (by decide) (fun c12 => ?_) (fun c12 => ?_)
                · have hM := xit c12 hM
                  refine lv_iinc (v := v3.2.1 + 1) (lv' := [(4, .int (v3.2.1 + 1)), (0, .ref (x 0)), (1, .int p1), (2, .int p2), (3, .int v3.1)]) hx hb dX7_choice_68 hl (k := 4) rfl rfl (by decide) rfl (fun ls hl => ?_)
                  refine lv_goto (tgt := 28) hx hb dX7_choice_71 (by decide) ?_
                  exact ih _ (hz1 _ (Option.some.inj hM).symm) _ _ _ hP hD hS (lv_sub hl [1, 2, 3, 4, 0] rfl)
                · have hM := xif c12 hM
                  refine lv_iload hx hb dX7_choice_65 (lv_at hl 4 rfl) ?_
                  refine lv_istore_n (lv' := [(3, .int v3.2.1), (0, .ref (x 0)), (1, .int p1), (2, .int p2), (4, .int v3.2.1)]) hx hb dX7_choice_67 rfl hl (by decide) rfl (fun ls hl => ?_)
                  refine lv_iinc (v := v3.2.1 + 1) (lv' := [(4, .int (v3.2.1 + 1)), (3, .int v3.2.1), (0, .ref (x 0)), (1, .int p1), (2, .int p2)]) hx hb dX7_choice_68 hl (k := 4) rfl rfl (by decide) rfl (fun ls hl => ?_)
                  refine lv_goto (tgt := 28) hx hb dX7_choice_71 (by decide) ?_
                  exact ih _ (hz1 _ (Option.some.inj hM).symm) _ _ _ hP hD hS (lv_sub hl [2, 3, 4, 1, 0] rfl)
      exact Lv3 _ _ hM _ _ _ hP hD hS (lv_sub hl [2, 3, 4, 1, 0] rfl)
    · have hM := xit c2 hM
      refine lv_iconst (v := (-1)) hx hb dX7_choice_20 (by decide) ?_
      obtain rfl := Option.some.inj hM
      exact xreti hx hb hr hlocks hP hK hD hS dX7_choice_21 rfl
def f_X7_sand (u_this : K7) (u_this_triedPace : (Nat → Int32)) (u_this_hadSand : (Nat → Int32)) (p1 : Int32) (p2 : Int32) : Option (Int32 × K7 × (Nat → Int32) × (Nat → Int32)) :=
  if (f_X7_in p1 (1) (200)) = (0) then
   (some ((-1), u_this, u_this_triedPace, u_this_hadSand))
  else
   (if (f_X7_in p2 (0) (1)) = (0) then
     (some ((-1), u_this, u_this_triedPace, u_this_hadSand))
    else
     (if u_this.2.2.2.2.2.2.2.2.2.2.1 = (30) then
       (some ((-3), u_this, u_this_triedPace, u_this_hadSand))
      else
       (if xin u_this.2.2.2.2.2.2.2.2.2.2.1 30 = true then
        (some ((u_this.2.2.2.2.2.2.2.2.2.2.1 + (1)), (u_this.1, u_this.2.1, u_this.2.2.1, u_this.2.2.2.1, u_this.2.2.2.2.1, u_this.2.2.2.2.2.1, u_this.2.2.2.2.2.2.1, u_this.2.2.2.2.2.2.2.1, u_this.2.2.2.2.2.2.2.2.1, u_this.2.2.2.2.2.2.2.2.2.1, (u_this.2.2.2.2.2.2.2.2.2.2.1 + (1)), u_this.2.2.2.2.2.2.2.2.2.2.2), (upd u_this_triedPace u_this.2.2.2.2.2.2.2.2.2.2.1.toNatClampNeg p1), (upd u_this_hadSand u_this.2.2.2.2.2.2.2.2.2.2.1.toNatClampNeg p2)))
        else none)))
set_option maxHeartbeats 4000000 in
set_option maxRecDepth 100000 in
theorem c_X7_sand (l : Launch) (D : va_G) (T : xT) (x : Nat → Nat) {sz : Nat} (u_this : K7) (u_this_triedPace : (Nat → Int32)) (u_this_hadSand : (Nat → Int32)) (p1 : Int32) (p2 : Int32) {rv : Int32 × K7 × (Nat → Int32) × (Nat → Int32)} (hM : f_X7_sand u_this u_this_triedPace u_this_hadSand p1 p2 = some rv) : Met l yX7_sand wsX7_sand ({ frames := 1, cells := 0, slots := 0, locals := 22 } : Room) (va_Pc [.ref (x 0), .int p1, .int p2] (xPre D T [((x 0), .inr (7, o7 x u_this)), ((x 15), .inl (T.1, 30, .inl u_this_triedPace)), ((x 16), .inl (T.1, 30, .inl u_this_hadSand))] sz xE0)) (va_Qi (fun (r : Int32) (_ : Unit) => r = rv.1) (fun _ => xPost D T [((x 0), .inr (7, o7 x rv.2.1)), ((x 15), .inl (T.1, 30, .inl rv.2.2.1)), ((x 16), .inl (T.1, 30, .inl rv.2.2.2))] (va_A [((x 0), .inr (7, o7 x u_this)), ((x 15), .inl (T.1, 30, .inl u_this_triedPace)), ((x 16), .inl (T.1, 30, .inl u_this_hadSand))] sz)) (va_A [((x 0), .inr (7, o7 x u_this)), ((x 15), .inl (T.1, 30, .inl u_this_triedPace)), ((x 16), .inl (T.1, 30, .inl u_this_hadSand))] sz)) 0 0 (va_A [((x 0), .inr (7, o7 x u_this)), ((x 15), .inl (T.1, 30, .inl u_this_triedPace)), ((x 16), .inl (T.1, 30, .inl u_this_hadSand))] sz) := by
  refine xMet (av := [.ref (x 0), .int p1, .int p2]) (Wd := [((x 0), .inr (7, o7 x u_this)), ((x 15), .inl (T.1, 30, .inl u_this_triedPace)), ((x 16), .inl (T.1, 30, .inl u_this_hadSand))]) (E := xE0) (Qc := fun A => (va_Qi (fun (r : Int32) (_ : Unit) => r = rv.1) (fun _ => xPost D T [((x 0), .inr (7, o7 x rv.2.1)), ((x 15), .inl (T.1, 30, .inl rv.2.2.1)), ((x 16), .inl (T.1, 30, .inl rv.2.2.2))] A) A)) (cc := cX7_sand) (maxL := 3) (ret := (some .int)) (by decide) rfl (Nat.le_of_ble_eq_true rfl) ?_
  intro p e s m below meth c A ls hx hb hr hml hts hown hlocks hnm hP hK hD hS hA hE hl
  have hown : s.vm.findClass RX7 = some m.cls := hown
  have hl : lv_has ls 3 [(0, .ref (x 0)), (1, .int p1), (2, .int p2)] := hl
  unfold f_X7_sand at hM
  refine lv_iload_n hx hb dX7_sand_0 rfl (lv_at hl 1 rfl) ?_
  refine lv_iconst (v := 1) hx hb dX7_sand_1 (by decide) ?_
  refine lv_sipush (v := 200) hx hb dX7_sand_2 (by decide) ?_
  refine xafti (rv := (f_X7_in p1 (1) (200))) (W2 := [((x 0), .inr (7, o7 x u_this)), ((x 15), .inl (T.1, 30, .inl u_this_triedPace)), ((x 16), .inl (T.1, 30, .inl u_this_hadSand))]) (va_runS (As := [.int p1, .int (1), .int (200)]) (rest := []) ⟨hx, hb, hml, hown, hts⟩ (c_X7_in (rv := (f_X7_in p1 (1) (200))) l D T p1 (1) (200) rfl) (cwS 3 hts gX7_sand_X7_in rfl rfl rfl (by decide +kernel) ⟨Nat.le_of_ble_eq_true rfl, Nat.le_of_ble_eq_true rfl⟩) (xpvs hP hD hK [] (by decide) rfl (fun _ _ _ => trivial) (fun _ _ _ _ _ _ => trivial)) rfl rfl hl.1 rfl (lv_room (Nat.le_of_ble_eq_true rfl)) dX7_sand_5 ⟨Nat.le_of_ble_eq_true rfl, Nat.le_of_ble_eq_true rfl⟩) hP hD hS hA [] rfl rfl rfl rfl (fun H locs hP hD hS => ?_)
  refine lv_if_eq (tgt := 20) hx hb dX7_sand_8 (by decide) (fun c1 => ?_) (fun c1 => ?_)
  · have hM := xit c1 hM
    refine lv_iconst (v := (-1)) hx hb dX7_sand_20 (by decide) ?_
    obtain rfl := Option.some.inj hM
    exact xreti hx hb hr hlocks hP hK hD hS dX7_sand_21 rfl
  · have hM := xif c1 hM
    refine lv_iload_n hx hb dX7_sand_11 rfl (lv_at hl 2 rfl) ?_
    refine lv_iconst (v := 0) hx hb dX7_sand_12 (by decide) ?_
    refine lv_iconst (v := 1) hx hb dX7_sand_13 (by decide) ?_
    refine xafti (rv := (f_X7_in p2 (0) (1))) (W2 := [((x 0), .inr (7, o7 x u_this)), ((x 15), .inl (T.1, 30, .inl u_this_triedPace)), ((x 16), .inl (T.1, 30, .inl u_this_hadSand))]) (va_runS (As := [.int p2, .int (0), .int (1)]) (rest := []) ⟨hx, hb, hml, hown, hts⟩ (c_X7_in (rv := (f_X7_in p2 (0) (1))) l D T p2 (0) (1) rfl) (cwS 3 hts gX7_sand_X7_in rfl rfl rfl (by decide +kernel) ⟨Nat.le_of_ble_eq_true rfl, Nat.le_of_ble_eq_true rfl⟩) (xpvs hP hD hK [] (by decide) rfl (fun _ _ _ => trivial) (fun _ _ _ _ _ _ => trivial)) rfl rfl hl.1 rfl (lv_room (Nat.le_of_ble_eq_true rfl)) dX7_sand_14 ⟨Nat.le_of_ble_eq_true rfl, Nat.le_of_ble_eq_true rfl⟩) hP hD hS hA [] rfl rfl rfl rfl (fun H locs hP hD hS => ?_)
    refine lv_if_ne (tgt := 22) hx hb dX7_sand_17 (by decide) (fun c2 => ?_) (fun c2 => ?_)
    · have hM := xif c2 hM
      refine lv_aload_n hx hb dX7_sand_22 rfl (lv_at hl 0 rfl) ?_
      refine va_get (D := D) (ci := 7) (v := .int u_this.2.2.2.2.2.2.2.2.2.2.1) (C := RX7) (T := TX7) (N := 30) hx hb hts (fun w h => List.mem_cons_of_mem _ (List.mem_append_right _ h)) hown hK hP 0 rfl rfl 24 (by decide) (hts _ (List.mem_of_getElem? (i := 1) rfl)) (fun _ h9 => h9) rfl dX7_sand_23 ?_
      refine lv_bipush (v := 30) hx hb dX7_sand_26 (by decide) ?_
      refine lv_icmp_ne (tgt := 34) hx hb dX7_sand_28 (by decide) (fun c3 => ?_) (fun c3 => ?_)
      · have hM := xif c3 hM
        refine lv_aload_n hx hb dX7_sand_34 rfl (lv_at hl 0 rfl) ?_
        refine va_get (D := D) (ci := 7) (v := .ref (x 15)) (C := RX7) (T := TX7) (N := 30) hx hb hts (fun w h => List.mem_cons_of_mem _ (List.mem_append_right _ h)) hown hK hP 0 rfl rfl 25 (by decide) (hts _ (List.mem_of_getElem? (i := 2) rfl)) (fun _ h9 => h9) rfl dX7_sand_35 ?_
        refine lv_aload_n hx hb dX7_sand_38 rfl (lv_at hl 0 rfl) ?_
        refine va_get (D := D) (ci := 7) (v := .int u_this.2.2.2.2.2.2.2.2.2.2.1) (C := RX7) (T := TX7) (N := 30) hx hb hts (fun w h => List.mem_cons_of_mem _ (List.mem_append_right _ h)) hown hK hP 0 rfl rfl 24 (by decide) (hts _ (List.mem_of_getElem? (i := 1) rfl)) (fun _ h9 => h9) rfl dX7_sand_39 ?_
        refine lv_iload_n hx hb dX7_sand_42 rfl (lv_at hl 1 rfl) ?_
        obtain ⟨g4, hM⟩ := xck hM
        refine xast hx hb hK hP hD hS 1 0 rfl rfl g4 rfl dX7_sand_43 (fun H locs hP hD hS => ?_)
        have hP : va_P D vwCl [((x 0), .inr (7, o7 x u_this)), ((x 15), .inl (T.1, 30, .inl (upd u_this_triedPace u_this.2.2.2.2.2.2.2.2.2.2.1.toNatClampNeg p1))), ((x 16), .inl (T.1, 30, .inl u_this_hadSand))] H := hP
        have hD : va_D A [((x 0), .inr (7, o7 x u_this)), ((x 15), .inl (T.1, 30, .inl (upd u_this_triedPace u_this.2.2.2.2.2.2.2.2.2.2.1.toNatClampNeg p1))), ((x 16), .inl (T.1, 30, .inl u_this_hadSand))] := hD
        refine lv_aload_n hx hb dX7_sand_44 rfl (lv_at hl 0 rfl) ?_
        refine va_get (D := D) (ci := 7) (v := .ref (x 16)) (C := RX7) (T := TX7) (N := 30) hx hb hts (fun w h => List.mem_cons_of_mem _ (List.mem_append_right _ h)) hown hK hP 0 rfl rfl 26 (by decide) (hts _ (List.mem_of_getElem? (i := 3) rfl)) (fun _ h9 => h9) rfl dX7_sand_45 ?_
        refine lv_aload_n hx hb dX7_sand_48 rfl (lv_at hl 0 rfl) ?_
        refine va_get (D := D) (ci := 7) (v := .int u_this.2.2.2.2.2.2.2.2.2.2.1) (C := RX7) (T := TX7) (N := 30) hx hb hts (fun w h => List.mem_cons_of_mem _ (List.mem_append_right _ h)) hown hK hP 0 rfl rfl 24 (by decide) (hts _ (List.mem_of_getElem? (i := 1) rfl)) (fun _ h9 => h9) rfl dX7_sand_49 ?_
        refine lv_iload_n hx hb dX7_sand_52 rfl (lv_at hl 2 rfl) ?_
        refine xast hx hb hK hP hD hS 2 0 rfl rfl g4 rfl dX7_sand_53 (fun H locs hP hD hS => ?_)
        have hP : va_P D vwCl [((x 0), .inr (7, o7 x u_this)), ((x 15), .inl (T.1, 30, .inl (upd u_this_triedPace u_this.2.2.2.2.2.2.2.2.2.2.1.toNatClampNeg p1))), ((x 16), .inl (T.1, 30, .inl (upd u_this_hadSand u_this.2.2.2.2.2.2.2.2.2.2.1.toNatClampNeg p2)))] H := hP
        have hD : va_D A [((x 0), .inr (7, o7 x u_this)), ((x 15), .inl (T.1, 30, .inl (upd u_this_triedPace u_this.2.2.2.2.2.2.2.2.2.2.1.toNatClampNeg p1))), ((x 16), .inl (T.1, 30, .inl (upd u_this_hadSand u_this.2.2.2.2.2.2.2.2.2.2.1.toNatClampNeg p2)))] := hD
        refine lv_aload_n hx hb dX7_sand_54 rfl (lv_at hl 0 rfl) ?_
        refine lv_dup hx hb dX7_sand_55 rfl ?_
        refine va_get (D := D) (ci := 7) (v := .int u_this.2.2.2.2.2.2.2.2.2.2.1) (C := RX7) (T := TX7) (N := 30) hx hb hts (fun w h => List.mem_cons_of_mem _ (List.mem_append_right _ h)) hown hK hP 0 rfl rfl 24 (by decide) (hts _ (List.mem_of_getElem? (i := 1) rfl)) (fun _ h9 => h9) rfl dX7_sand_56 ?_
        refine lv_iconst (v := 1) hx hb dX7_sand_59 (by decide) ?_
        refine lv_iadd hx hb dX7_sand_60 ?_
        refine va_put (D := D) (ci := 7) (v := .int (u_this.2.2.2.2.2.2.2.2.2.2.1 + (1))) (C := RX7) (T := TX7) (N := 30) hx hb hts (fun w h => List.mem_cons_of_mem _ (List.mem_append_right _ h)) tyX7 tyX7_ok nmX7 hown hK hP hD hS 0 rfl rfl 24 (by decide) (hts _ (List.mem_of_getElem? (i := 1) rfl)) (fun _ h9 => h9) rfl (tyX7_ok 24 (by decide)) rfl rfl (Nat.le_of_ble_eq_true rfl) dX7_sand_61 (fun H locs hP hD hS => ?_)
        have hP : va_P D vwCl [((x 0), .inr (7, o7 x (u_this.1, u_this.2.1, u_this.2.2.1, u_this.2.2.2.1, u_this.2.2.2.2.1, u_this.2.2.2.2.2.1, u_this.2.2.2.2.2.2.1, u_this.2.2.2.2.2.2.2.1, u_this.2.2.2.2.2.2.2.2.1, u_this.2.2.2.2.2.2.2.2.2.1, (u_this.2.2.2.2.2.2.2.2.2.2.1 + (1)), u_this.2.2.2.2.2.2.2.2.2.2.2))), ((x 15), .inl (T.1, 30, .inl (upd u_this_triedPace u_this.2.2.2.2.2.2.2.2.2.2.1.toNatClampNeg p1))), ((x 16), .inl (T.1, 30, .inl (upd u_this_hadSand u_this.2.2.2.2.2.2.2.2.2.2.1.toNatClampNeg p2)))] H := hP
        have hD : va_D A [((x 0), .inr (7, o7 x (u_this.1, u_this.2.1, u_this.2.2.1, u_this.2.2.2.1, u_this.2.2.2.2.1, u_this.2.2.2.2.2.1, u_this.2.2.2.2.2.2.1, u_this.2.2.2.2.2.2.2.1, u_this.2.2.2.2.2.2.2.2.1, u_this.2.2.2.2.2.2.2.2.2.1, (u_this.2.2.2.2.2.2.2.2.2.2.1 + (1)), u_this.2.2.2.2.2.2.2.2.2.2.2))), ((x 15), .inl (T.1, 30, .inl (upd u_this_triedPace u_this.2.2.2.2.2.2.2.2.2.2.1.toNatClampNeg p1))), ((x 16), .inl (T.1, 30, .inl (upd u_this_hadSand u_this.2.2.2.2.2.2.2.2.2.2.1.toNatClampNeg p2)))] := hD
        refine lv_aload_n hx hb dX7_sand_64 rfl (lv_at hl 0 rfl) ?_
        refine va_get (D := D) (ci := 7) (v := .int (u_this.2.2.2.2.2.2.2.2.2.2.1 + (1))) (C := RX7) (T := TX7) (N := 30) hx hb hts (fun w h => List.mem_cons_of_mem _ (List.mem_append_right _ h)) hown hK hP 0 rfl rfl 24 (by decide) (hts _ (List.mem_of_getElem? (i := 1) rfl)) (fun _ h9 => h9) rfl dX7_sand_65 ?_
        obtain rfl := Option.some.inj hM
        exact xreti hx hb hr hlocks hP hK hD hS dX7_sand_68 rfl
      · have hM := xit c3 hM
        refine lv_bipush (v := (-3)) hx hb dX7_sand_31 (by decide) ?_
        obtain rfl := Option.some.inj hM
        exact xreti hx hb hr hlocks hP hK hD hS dX7_sand_33 rfl
    · have hM := xit c2 hM
      refine lv_iconst (v := (-1)) hx hb dX7_sand_20 (by decide) ?_
      obtain rfl := Option.some.inj hM
      exact xreti hx hb hr hlocks hP hK hD hS dX7_sand_21 rfl
def s_X7_line_19 (u_this : K7) (u_this_triedPace : (Nat → Int32)) (u_this_hadSand : (Nat → Int32)) (v2 : Int32 × Int32 × Int32) : Option ((Int32 × Int32 × Int32) ⊕ (Int32 × Int32 × Int32)) :=
  if u_this.2.2.2.2.2.2.2.2.2.2.1 ≤ v2.2.2 then
   (some (.inr (v2.1, v2.2.1, v2.2.2)))
  else
   (if xin v2.2.2 30 = true then
    (((if (u_this_hadSand v2.2.2.toNatClampNeg) = (0) then
        (if (u_this_triedPace v2.2.2.toNatClampNeg) ≤ v2.1 then
          (some v2.1)
         else
          (some (u_this_triedPace v2.2.2.toNatClampNeg)))
       else
        (some v2.1) : Option (Int32))).bind fun v7 =>
     if (u_this_hadSand v2.2.2.toNatClampNeg) = (1) then
      (if v2.2.1 = (-9) then
        (some (.inl (v7, (u_this_triedPace v2.2.2.toNatClampNeg), v2.2.2 + 1)))
       else
        (if v2.2.1 ≤ (u_this_triedPace v2.2.2.toNatClampNeg) then
          (some (.inl (v7, v2.2.1, v2.2.2 + 1)))
         else
          (some (.inl (v7, (u_this_triedPace v2.2.2.toNatClampNeg), v2.2.2 + 1)))))
     else
      (some (.inl (v7, v2.2.1, v2.2.2 + 1))))
    else none)
def f_X7_line (N : Nat) (u_this : K7) (u_this_triedPace : (Nat → Int32)) (u_this_hadSand : (Nat → Int32)) (p1 : Int32) : Option (Int32) :=
  if (f_X7_in p1 (0) (2)) = (0) then
   (some (-1))
  else
   ((xlp (s_X7_line_19 u_this u_this_triedPace u_this_hadSand) N (0, (-9), 0)).bind fun v11 =>
    if p1 = (0) then
     (some v11.1)
    else
     (if p1 = (1) then
       (some v11.2.1)
      else
       (if v11.1 = (0) then
         (some (1))
        else
         (if v11.2.1 = (-9) then
           (some (1))
          else
           (if v11.2.1 ≤ v11.1 then
             (some (0))
            else
             (some (1)))))))
set_option maxHeartbeats 4000000 in
set_option maxRecDepth 100000 in
theorem c_X7_line (l : Launch) (D : va_G) (T : xT) (x : Nat → Nat) {sz : Nat} {N : Nat} (u_this : K7) (u_this_triedPace : (Nat → Int32)) (u_this_hadSand : (Nat → Int32)) (p1 : Int32) {rv : Int32} (hM : f_X7_line N u_this u_this_triedPace u_this_hadSand p1 = some rv) : Met l yX7_line wsX7_line ({ frames := 1, cells := 0, slots := 0, locals := 22 } : Room) (va_Pc [.ref (x 0), .int p1] (xPre D T [((x 0), .inr (7, o7 x u_this)), ((x 15), .inl (T.1, 30, .inl u_this_triedPace)), ((x 16), .inl (T.1, 30, .inl u_this_hadSand))] sz xE0)) (va_Qi (fun (r : Int32) (_ : Unit) => r = rv) (fun _ => xPost D T [((x 0), .inr (7, o7 x u_this)), ((x 15), .inl (T.1, 30, .inl u_this_triedPace)), ((x 16), .inl (T.1, 30, .inl u_this_hadSand))] (va_A [((x 0), .inr (7, o7 x u_this)), ((x 15), .inl (T.1, 30, .inl u_this_triedPace)), ((x 16), .inl (T.1, 30, .inl u_this_hadSand))] sz)) (va_A [((x 0), .inr (7, o7 x u_this)), ((x 15), .inl (T.1, 30, .inl u_this_triedPace)), ((x 16), .inl (T.1, 30, .inl u_this_hadSand))] sz)) 0 0 (va_A [((x 0), .inr (7, o7 x u_this)), ((x 15), .inl (T.1, 30, .inl u_this_triedPace)), ((x 16), .inl (T.1, 30, .inl u_this_hadSand))] sz) := by
  refine xMet (av := [.ref (x 0), .int p1]) (Wd := [((x 0), .inr (7, o7 x u_this)), ((x 15), .inl (T.1, 30, .inl u_this_triedPace)), ((x 16), .inl (T.1, 30, .inl u_this_hadSand))]) (E := xE0) (Qc := fun A => (va_Qi (fun (r : Int32) (_ : Unit) => r = rv) (fun _ => xPost D T [((x 0), .inr (7, o7 x u_this)), ((x 15), .inl (T.1, 30, .inl u_this_triedPace)), ((x 16), .inl (T.1, 30, .inl u_this_hadSand))] A) A)) (cc := cX7_line) (maxL := 6) (ret := (some .int)) (by decide) rfl (Nat.le_of_ble_eq_true rfl) ?_
  intro p e s m below meth c A ls hx hb hr hml hts hown hlocks hnm hP hK hD hS hA hE hl
  have hown : s.vm.findClass RX7 = some m.cls := hown
  have hl : lv_has ls 6 [(0, .ref (x 0)), (1, .int p1)] := hl
  unfold f_X7_line at hM
  refine lv_iload_n hx hb dX7_line_0 rfl (lv_at hl 1 rfl) ?_
  refine lv_iconst (v := 0) hx hb dX7_line_1 (by decide) ?_
  refine lv_iconst (v := 2) hx hb dX7_line_2 (by decide) ?_
  refine xafti (rv := (f_X7_in p1 (0) (2))) (W2 := [((x 0), .inr (7, o7 x u_this)), ((x 15), .inl (T.1, 30, .inl u_this_triedPace)), ((x 16), .inl (T.1, 30, .inl u_this_hadSand))]) (va_runS (As := [.int p1, .int (0), .int (2)]) (rest := []) ⟨hx, hb, hml, hown, hts⟩ (c_X7_in (rv := (f_X7_in p1 (0) (2))) l D T p1 (0) (2) rfl) (cwS 3 hts gX7_line_X7_in rfl rfl rfl (by decide +kernel) ⟨Nat.le_of_ble_eq_true rfl, Nat.le_of_ble_eq_true rfl⟩) (xpvs hP hD hK [] (by decide) rfl (fun _ _ _ => trivial) (fun _ _ _ _ _ _ => trivial)) rfl rfl hl.1 rfl (lv_room (Nat.le_of_ble_eq_true rfl)) dX7_line_3 ⟨Nat.le_of_ble_eq_true rfl, Nat.le_of_ble_eq_true rfl⟩) hP hD hS hA [] rfl rfl rfl rfl (fun H locs hP hD hS => ?_)
  refine lv_if_ne (tgt := 11) hx hb dX7_line_6 (by decide) (fun c1 => ?_) (fun c1 => ?_)
  · have hM := xif c1 hM
    refine lv_iconst (v := 0) hx hb dX7_line_11 (by decide) ?_
    refine lv_istore_n (lv' := [(2, .int (0)), (0, .ref (x 0)), (1, .int p1)]) hx hb dX7_line_12 rfl hl (by decide) rfl (fun ls hl => ?_)
    refine lv_bipush (v := (-9)) hx hb dX7_line_13 (by decide) ?_
    refine lv_istore_n (lv' := [(3, .int (-9)), (2, .int (0)), (0, .ref (x 0)), (1, .int p1)]) hx hb dX7_line_15 rfl hl (by decide) rfl (fun ls hl => ?_)
    refine lv_iconst (v := 0) hx hb dX7_line_16 (by decide) ?_
    refine lv_istore (lv' := [(4, .int (0)), (3, .int (-9)), (2, .int (0)), (0, .ref (x 0)), (1, .int p1)]) hx hb dX7_line_17 hl (by decide) rfl (fun ls hl => ?_)
    obtain ⟨v11, hM, hNv11⟩ := xbd hM
    have hQv11 := hM
    have Kv11 : ∀ (H : Heap) (locs : List Loc) (ls : Array Slot), va_P D vwCl [((x 0), .inr (7, o7 x u_this)), ((x 15), .inl (T.1, 30, .inl u_this_triedPace)), ((x 16), .inl (T.1, 30, .inl u_this_hadSand))] H → va_D A [((x 0), .inr (7, o7 x u_this)), ((x 15), .inl (T.1, 30, .inl u_this_triedPace)), ((x 16), .inl (T.1, 30, .inl u_this_hadSand))] → va_S A s.heap H locs → lv_has ls 6 [(1, .int p1), (2, .int v11.1), (3, .int v11.2.1)] → W p l e ({ frames := 1, cells := 0, slots := 0, locals := 22 } : Room) s m ([.ref (x 0), .int p1] : List Value).toArray below meth c H locs 0 0 (MQ below (va_Qi (fun (r : Int32) (_ : Unit) => r = rv) (fun _ => xPost D T [((x 0), .inr (7, o7 x u_this)), ((x 15), .inl (T.1, 30, .inl u_this_triedPace)), ((x 16), .inl (T.1, 30, .inl u_this_hadSand))] A) A) ([.ref (x 0), .int p1] : List Value).toArray s 0 0 A) (F0 m 96 ls []) := by
      intro H locs ls hP hD hS hl
      have hM := hNv11
      refine lv_iload_n hx hb dX7_line_96 rfl (lv_at hl 0 rfl) ?_
      refine lv_if_ne (tgt := 104) hx hb dX7_line_97 (by decide) (fun c12 => ?_) (fun c12 => ?_)
      · have hM := xif c12 hM
        refine lv_iload_n hx hb dX7_line_104 rfl (lv_at hl 0 rfl) ?_
        refine lv_iconst (v := 1) hx hb dX7_line_105 (by decide) ?_
        refine lv_icmp_ne (tgt := 113) hx hb dX7_line_106 (by decide) (fun c13 => ?_) (fun c13 => ?_)
        · have hM := xif c13 hM
          refine lv_iload_n hx hb dX7_line_113 rfl (lv_at hl 1 rfl) ?_
          refine lv_if_eq (tgt := 128) hx hb dX7_line_114 (by decide) (fun c14 => ?_) (fun c14 => ?_)
          · have hM := xit c14 hM
            refine lv_iconst (v := 1) hx hb dX7_line_128 (by decide) ?_
            refine lv_goto (tgt := 133) hx hb dX7_line_129 (by decide) ?_
            obtain rfl := Option.some.inj hM
            exact xreti hx hb hr hlocks hP hK hD hS dX7_line_133 rfl
          · have hM := xif c14 hM
            refine lv_iload_n hx hb dX7_line_117 rfl (lv_at hl 2 rfl) ?_
            refine lv_bipush (v := (-9)) hx hb dX7_line_118 (by decide) ?_
            refine lv_icmp_eq (tgt := 128) hx hb dX7_line_120 (by decide) (fun c15 => ?_) (fun c15 => ?_)
            · have hM := xit c15 hM
              refine lv_iconst (v := 1) hx hb dX7_line_128 (by decide) ?_
              refine lv_goto (tgt := 133) hx hb dX7_line_129 (by decide) ?_
              obtain rfl := Option.some.inj hM
              exact xreti hx hb hr hlocks hP hK hD hS dX7_line_133 rfl
            · have hM := xif c15 hM
              refine lv_iload_n hx hb dX7_line_123 rfl (lv_at hl 1 rfl) ?_
              refine lv_iload_n hx hb dX7_line_124 rfl (lv_at hl 2 rfl) ?_
              refine lv_icmp_ge (tgt := 132) hx hb dX7_line_125 (by decide) (fun c16 => ?_) (fun c16 => ?_)
              · have hM := xit c16 hM
                refine lv_iconst (v := 0) hx hb dX7_line_132 (by decide) ?_
                obtain rfl := Option.some.inj hM
                exact xreti hx hb hr hlocks hP hK hD hS dX7_line_133 rfl
              · have hM := xif c16 hM
                refine lv_iconst (v := 1) hx hb dX7_line_128 (by decide) ?_
                refine lv_goto (tgt := 133) hx hb dX7_line_129 (by decide) ?_
                obtain rfl := Option.some.inj hM
                exact xreti hx hb hr hlocks hP hK hD hS dX7_line_133 rfl
        · have hM := xit c13 hM
          refine lv_iload_n hx hb dX7_line_109 rfl (lv_at hl 2 rfl) ?_
          refine lv_goto (tgt := 133) hx hb dX7_line_110 (by decide) ?_
          obtain rfl := Option.some.inj hM
          exact xreti hx hb hr hlocks hP hK hD hS dX7_line_133 rfl
      · have hM := xit c12 hM
        refine lv_iload_n hx hb dX7_line_100 rfl (lv_at hl 1 rfl) ?_
        refine lv_goto (tgt := 133) hx hb dX7_line_101 (by decide) ?_
        obtain rfl := Option.some.inj hM
        exact xreti hx hb hr hlocks hP hK hD hS dX7_line_133 rfl
    have Lv2 : ∀ (n : Nat) (v2 : Int32 × Int32 × Int32), xlp (s_X7_line_19 u_this u_this_triedPace u_this_hadSand) n v2 = some v11 → ∀ (H : Heap) (locs : List Loc) (ls : Array Slot), va_P D vwCl [((x 0), .inr (7, o7 x u_this)), ((x 15), .inl (T.1, 30, .inl u_this_triedPace)), ((x 16), .inl (T.1, 30, .inl u_this_hadSand))] H → va_D A [((x 0), .inr (7, o7 x u_this)), ((x 15), .inl (T.1, 30, .inl u_this_triedPace)), ((x 16), .inl (T.1, 30, .inl u_this_hadSand))] → va_S A s.heap H locs → lv_has ls 6 [(0, .ref (x 0)), (1, .int p1), (2, .int v2.1), (3, .int v2.2.1), (4, .int v2.2.2)] → W p l e ({ frames := 1, cells := 0, slots := 0, locals := 22 } : Room) s m ([.ref (x 0), .int p1] : List Value).toArray below meth c H locs 0 0 (MQ below (va_Qi (fun (r : Int32) (_ : Unit) => r = rv) (fun _ => xPost D T [((x 0), .inr (7, o7 x u_this)), ((x 15), .inl (T.1, 30, .inl u_this_triedPace)), ((x 16), .inl (T.1, 30, .inl u_this_hadSand))] A) A) ([.ref (x 0), .int p1] : List Value).toArray s 0 0 A) (F0 m 19 ls []) := by
      intro n
      induction n with
      | zero => exact fun _ h => (xlp_0 h).elim
      | succ n ih =>
        intro v2 hM H locs ls hP hD hS hl
        obtain ⟨z, hM, hz1, hz2⟩ := xlp_s hM
        unfold s_X7_line_19 at hM
        refine lv_iload hx hb dX7_line_19 (lv_at hl 4 rfl) ?_
        refine lv_aload_n hx hb dX7_line_21 rfl (lv_at hl 0 rfl) ?_
        refine va_get (D := D) (ci := 7) (v := .int u_this.2.2.2.2.2.2.2.2.2.2.1) (C := RX7) (T := TX7) (N := 30) hx hb hts (fun w h => List.mem_cons_of_mem _ (List.mem_append_right _ h)) hown hK hP 0 rfl rfl 24 (by decide) (hts _ (List.mem_of_getElem? (i := 1) rfl)) (fun _ h9 => h9) rfl dX7_line_22 ?_
        refine lv_icmp_ge (tgt := 96) hx hb dX7_line_25 (by decide) (fun c3 => ?_) (fun c3 => ?_)
        · have hM := xit c3 hM
          obtain rfl := hz2 _ (Option.some.inj hM).symm
          exact Kv11 _ _ _ hP hD hS (lv_sub hl [1, 2, 3] rfl)
        · have hM := xif c3 hM
          refine lv_aload_n hx hb dX7_line_28 rfl (lv_at hl 0 rfl) ?_
          refine va_get (D := D) (ci := 7) (v := .ref (x 15)) (C := RX7) (T := TX7) (N := 30) hx hb hts (fun w h => List.mem_cons_of_mem _ (List.mem_append_right _ h)) hown hK hP 0 rfl rfl 25 (by decide) (hts _ (List.mem_of_getElem? (i := 2) rfl)) (fun _ h9 => h9) rfl dX7_line_29 ?_
          refine lv_iload hx hb dX7_line_32 (lv_at hl 4 rfl) ?_
          obtain ⟨g4, hM⟩ := xck hM
          refine xald (v := (u_this_triedPace v2.2.2.toNatClampNeg)) hx hb hK hP 1 0 rfl rfl g4 rfl dX7_line_34 ?_
          refine lv_istore (lv' := [(5, .int (u_this_triedPace v2.2.2.toNatClampNeg)), (0, .ref (x 0)), (1, .int p1), (2, .int v2.1), (3, .int v2.2.1), (4, .int v2.2.2)]) hx hb dX7_line_35 hl (by decide) rfl (fun ls hl => ?_)
          refine lv_aload_n hx hb dX7_line_37 rfl (lv_at hl 1 rfl) ?_
          refine va_get (D := D) (ci := 7) (v := .ref (x 16)) (C := RX7) (T := TX7) (N := 30) hx hb hts (fun w h => List.mem_cons_of_mem _ (List.mem_append_right _ h)) hown hK hP 0 rfl rfl 26 (by decide) (hts _ (List.mem_of_getElem? (i := 3) rfl)) (fun _ h9 => h9) rfl dX7_line_38 ?_
          refine lv_iload hx hb dX7_line_41 (lv_at hl 5 rfl) ?_
          refine xald (v := (u_this_hadSand v2.2.2.toNatClampNeg)) hx hb hK hP 2 0 rfl rfl g4 rfl dX7_line_43 ?_
          obtain ⟨v7, hM, hNv7⟩ := xbd hM
          have Kv7 : ∀ (H : Heap) (locs : List Loc) (ls : Array Slot), va_P D vwCl [((x 0), .inr (7, o7 x u_this)), ((x 15), .inl (T.1, 30, .inl u_this_triedPace)), ((x 16), .inl (T.1, 30, .inl u_this_hadSand))] H → va_D A [((x 0), .inr (7, o7 x u_this)), ((x 15), .inl (T.1, 30, .inl u_this_triedPace)), ((x 16), .inl (T.1, 30, .inl u_this_hadSand))] → va_S A s.heap H locs → lv_has ls 6 [(0, .ref (x 0)), (1, .int p1), (3, .int v2.2.1), (4, .int v2.2.2), (5, .int (u_this_triedPace v2.2.2.toNatClampNeg))] → W p l e ({ frames := 1, cells := 0, slots := 0, locals := 22 } : Room) s m ([.ref (x 0), .int p1] : List Value).toArray below meth c H locs 0 0 (MQ below (va_Qi (fun (r : Int32) (_ : Unit) => r = rv) (fun _ => xPost D T [((x 0), .inr (7, o7 x u_this)), ((x 15), .inl (T.1, 30, .inl u_this_triedPace)), ((x 16), .inl (T.1, 30, .inl u_this_hadSand))] A) A) ([.ref (x 0), .int p1] : List Value).toArray s 0 0 A) (F0 m 59 ls [.int v7]) := by
            intro H locs ls hP hD hS hl
            have hM := hNv7
            refine lv_istore_n (lv' := [(2, .int v7), (0, .ref (x 0)), (1, .int p1), (3, .int v2.2.1), (4, .int v2.2.2), (5, .int (u_this_triedPace v2.2.2.toNatClampNeg))]) hx hb dX7_line_59 rfl hl (by decide) rfl (fun ls hl => ?_)
            refine lv_aload_n hx hb dX7_line_60 rfl (lv_at hl 1 rfl) ?_
            refine va_get (D := D) (ci := 7) (v := .ref (x 16)) (C := RX7) (T := TX7) (N := 30) hx hb hts (fun w h => List.mem_cons_of_mem _ (List.mem_append_right _ h)) hown hK hP 0 rfl rfl 26 (by decide) (hts _ (List.mem_of_getElem? (i := 3) rfl)) (fun _ h9 => h9) rfl dX7_line_61 ?_
            refine lv_iload hx hb dX7_line_64 (lv_at hl 4 rfl) ?_
            refine xald (v := (u_this_hadSand v2.2.2.toNatClampNeg)) hx hb hK hP 2 0 rfl rfl g4 rfl dX7_line_66 ?_
            refine lv_iconst (v := 1) hx hb dX7_line_67 (by decide) ?_
            refine lv_icmp_ne (tgt := 88) hx hb dX7_line_68 (by decide) (fun c8 => ?_) (fun c8 => ?_)
            · have hM := xif c8 hM
              refine lv_iload_n hx hb dX7_line_88 rfl (lv_at hl 3 rfl) ?_
              refine lv_istore_n (lv' := [(3, .int v2.2.1), (2, .int v7), (0, .ref (x 0)), (1, .int p1), (4, .int v2.2.2), (5, .int (u_this_triedPace v2.2.2.toNatClampNeg))]) hx hb dX7_line_89 rfl hl (by decide) rfl (fun ls hl => ?_)
              refine lv_iinc (v := v2.2.2 + 1) (lv' := [(4, .int (v2.2.2 + 1)), (3, .int v2.2.1), (2, .int v7), (0, .ref (x 0)), (1, .int p1), (5, .int (u_this_triedPace v2.2.2.toNatClampNeg))]) hx hb dX7_line_90 hl (k := 4) rfl rfl (by decide) rfl (fun ls hl => ?_)
              refine lv_goto (tgt := 19) hx hb dX7_line_93 (by decide) ?_
              exact ih _ (hz1 _ (Option.some.inj hM).symm) _ _ _ hP hD hS (lv_sub hl [3, 4, 2, 1, 0] rfl)
            · have hM := xit c8 hM
              refine lv_iload_n hx hb dX7_line_71 rfl (lv_at hl 3 rfl) ?_
              refine lv_bipush (v := (-9)) hx hb dX7_line_72 (by decide) ?_
              refine lv_icmp_eq (tgt := 83) hx hb dX7_line_74 (by decide) (fun c9 => ?_) (fun c9 => ?_)
              · have hM := xit c9 hM
                refine lv_iload hx hb dX7_line_83 (lv_at hl 5 rfl) ?_
                refine lv_goto (tgt := 89) hx hb dX7_line_85 (by decide) ?_
                refine lv_istore_n (lv' := [(3, .int (u_this_triedPace v2.2.2.toNatClampNeg)), (2, .int v7), (0, .ref (x 0)), (1, .int p1), (4, .int v2.2.2), (5, .int (u_this_triedPace v2.2.2.toNatClampNeg))]) hx hb dX7_line_89 rfl hl (by decide) rfl (fun ls hl => ?_)
                refine lv_iinc (v := v2.2.2 + 1) (lv' := [(4, .int (v2.2.2 + 1)), (3, .int (u_this_triedPace v2.2.2.toNatClampNeg)), (2, .int v7), (0, .ref (x 0)), (1, .int p1), (5, .int (u_this_triedPace v2.2.2.toNatClampNeg))]) hx hb dX7_line_90 hl (k := 4) rfl rfl (by decide) rfl (fun ls hl => ?_)
                refine lv_goto (tgt := 19) hx hb dX7_line_93 (by decide) ?_
                exact ih _ (hz1 _ (Option.some.inj hM).symm) _ _ _ hP hD hS (lv_sub hl [3, 4, 2, 1, 0] rfl)
              · have hM := xif c9 hM
                refine lv_iload hx hb dX7_line_77 (lv_at hl 5 rfl) ?_
                refine lv_iload_n hx hb dX7_line_79 rfl (lv_at hl 3 rfl) ?_
                refine lv_icmp_ge (tgt := 88) hx hb dX7_line_80 (by decide) (fun c10 => ?_) (fun c10 => ?_)
                · have hM := xit c10 hM
                  refine lv_iload_n hx hb dX7_line_88 rfl (lv_at hl 3 rfl) ?_
                  refine lv_istore_n (lv' := [(3, .int v2.2.1), (2, .int v7), (0, .ref (x 0)), (1, .int p1), (4, .int v2.2.2), (5, .int (u_this_triedPace v2.2.2.toNatClampNeg))]) hx hb dX7_line_89 rfl hl (by decide) rfl (fun ls hl => ?_)
                  refine lv_iinc (v := v2.2.2 + 1) (lv' := [(4, .int (v2.2.2 + 1)), (3, .int v2.2.1), (2, .int v7), (0, .ref (x 0)), (1, .int p1), (5, .int (u_this_triedPace v2.2.2.toNatClampNeg))]) hx hb dX7_line_90 hl (k := 4) rfl rfl (by decide) rfl (fun ls hl => ?_)
                  refine lv_goto (tgt := 19) hx hb dX7_line_93 (by decide) ?_
                  exact ih _ (hz1 _ (Option.some.inj hM).symm) _ _ _ hP hD hS (lv_sub hl [3, 4, 2, 1, 0] rfl)
                · have hM := xif c10 hM
                  refine lv_iload hx hb dX7_line_83 (lv_at hl 5 rfl) ?_
                  refine lv_goto (tgt := 89) hx hb dX7_line_85 (by decide) ?_
                  refine lv_istore_n (lv' := [(3, .int (u_this_triedPace v2.2.2.toNatClampNeg)), (2, .int v7), (0, .ref (x 0)), (1, .int p1), (4, .int v2.2.2), (5, .int (u_this_triedPace v2.2.2.toNatClampNeg))]) hx hb dX7_line_89 rfl hl (by decide) rfl (fun ls hl => ?_)
                  refine lv_iinc (v := v2.2.2 + 1) (lv' := [(4, .int (v2.2.2 + 1)), (3, .int (u_this_triedPace v2.2.2.toNatClampNeg)), (2, .int v7), (0, .ref (x 0)), (1, .int p1), (5, .int (u_this_triedPace v2.2.2.toNatClampNeg))]) hx hb dX7_line_90 hl (k := 4) rfl rfl (by decide) rfl (fun ls hl => ?_)
                  refine lv_goto (tgt := 19) hx hb dX7_line_93 (by decide) ?_
                  exact ih _ (hz1 _ (Option.some.inj hM).symm) _ _ _ hP hD hS (lv_sub hl [3, 4, 2, 1, 0] rfl)
          refine lv_if_ne (tgt := 58) hx hb dX7_line_44 (by decide) (fun c5 => ?_) (fun c5 => ?_)
          · have hM := xif c5 hM
            refine lv_iload_n hx hb dX7_line_58 rfl (lv_at hl 3 rfl) ?_
            obtain rfl := Option.some.inj hM
            exact Kv7 _ _ _ hP hD hS (lv_sub hl [1, 2, 4, 5, 0] rfl)
          · have hM := xit c5 hM
            refine lv_iload hx hb dX7_line_47 (lv_at hl 0 rfl) ?_
            refine lv_iload_n hx hb dX7_line_49 rfl (lv_at hl 3 rfl) ?_
            refine lv_icmp_le (tgt := 58) hx hb dX7_line_50 (by decide) (fun c6 => ?_) (fun c6 => ?_)
            · have hM := xit c6 hM
              refine lv_iload_n hx hb dX7_line_58 rfl (lv_at hl 3 rfl) ?_
              obtain rfl := Option.some.inj hM
              exact Kv7 _ _ _ hP hD hS (lv_sub hl [1, 2, 4, 5, 0] rfl)
            · have hM := xif c6 hM
              refine lv_iload hx hb dX7_line_53 (lv_at hl 0 rfl) ?_
              refine lv_goto (tgt := 59) hx hb dX7_line_55 (by decide) ?_
              obtain rfl := Option.some.inj hM
              exact Kv7 _ _ _ hP hD hS (lv_sub hl [1, 2, 4, 5, 0] rfl)
    exact Lv2 _ _ hM _ _ _ hP hD hS (lv_sub hl [3, 4, 2, 1, 0] rfl)
  · have hM := xit c1 hM
    refine lv_iconst (v := (-1)) hx hb dX7_line_9 (by decide) ?_
    obtain rfl := Option.some.inj hM
    exact xreti hx hb hr hlocks hP hK hD hS dX7_line_10 rfl
def f_X7_year (u_this : K7) (u_this_springs : (Nat → Int32)) (u_this_summers : (Nat → Int32)) (p1 : Int32) (p2 : Int32) : Option (Int32 × K7 × (Nat → Int32) × (Nat → Int32)) :=
  if (f_X7_in p1 (0) (999)) = (0) then
   (some ((-1), u_this, u_this_springs, u_this_summers))
  else
   (if (f_X7_in p2 (0) (999)) = (0) then
     (some ((-1), u_this, u_this_springs, u_this_summers))
    else
     (if u_this.2.2.2.2.2.2.2.2.2.2.2 = (20) then
       (some ((-3), u_this, u_this_springs, u_this_summers))
      else
       (if xin u_this.2.2.2.2.2.2.2.2.2.2.2 20 = true then
        (some ((u_this.2.2.2.2.2.2.2.2.2.2.2 + (1)), (u_this.1, u_this.2.1, u_this.2.2.1, u_this.2.2.2.1, u_this.2.2.2.2.1, u_this.2.2.2.2.2.1, u_this.2.2.2.2.2.2.1, u_this.2.2.2.2.2.2.2.1, u_this.2.2.2.2.2.2.2.2.1, u_this.2.2.2.2.2.2.2.2.2.1, u_this.2.2.2.2.2.2.2.2.2.2.1, (u_this.2.2.2.2.2.2.2.2.2.2.2 + (1))), (upd u_this_springs u_this.2.2.2.2.2.2.2.2.2.2.2.toNatClampNeg p1), (upd u_this_summers u_this.2.2.2.2.2.2.2.2.2.2.2.toNatClampNeg p2)))
        else none)))
set_option maxHeartbeats 4000000 in
set_option maxRecDepth 100000 in
theorem c_X7_year (l : Launch) (D : va_G) (T : xT) (x : Nat → Nat) {sz : Nat} (u_this : K7) (u_this_springs : (Nat → Int32)) (u_this_summers : (Nat → Int32)) (p1 : Int32) (p2 : Int32) {rv : Int32 × K7 × (Nat → Int32) × (Nat → Int32)} (hM : f_X7_year u_this u_this_springs u_this_summers p1 p2 = some rv) : Met l yX7_year wsX7_year ({ frames := 1, cells := 0, slots := 0, locals := 22 } : Room) (va_Pc [.ref (x 0), .int p1, .int p2] (xPre D T [((x 0), .inr (7, o7 x u_this)), ((x 17), .inl (T.1, 20, .inl u_this_springs)), ((x 18), .inl (T.1, 20, .inl u_this_summers))] sz xE0)) (va_Qi (fun (r : Int32) (_ : Unit) => r = rv.1) (fun _ => xPost D T [((x 0), .inr (7, o7 x rv.2.1)), ((x 17), .inl (T.1, 20, .inl rv.2.2.1)), ((x 18), .inl (T.1, 20, .inl rv.2.2.2))] (va_A [((x 0), .inr (7, o7 x u_this)), ((x 17), .inl (T.1, 20, .inl u_this_springs)), ((x 18), .inl (T.1, 20, .inl u_this_summers))] sz)) (va_A [((x 0), .inr (7, o7 x u_this)), ((x 17), .inl (T.1, 20, .inl u_this_springs)), ((x 18), .inl (T.1, 20, .inl u_this_summers))] sz)) 0 0 (va_A [((x 0), .inr (7, o7 x u_this)), ((x 17), .inl (T.1, 20, .inl u_this_springs)), ((x 18), .inl (T.1, 20, .inl u_this_summers))] sz) := by
  refine xMet (av := [.ref (x 0), .int p1, .int p2]) (Wd := [((x 0), .inr (7, o7 x u_this)), ((x 17), .inl (T.1, 20, .inl u_this_springs)), ((x 18), .inl (T.1, 20, .inl u_this_summers))]) (E := xE0) (Qc := fun A => (va_Qi (fun (r : Int32) (_ : Unit) => r = rv.1) (fun _ => xPost D T [((x 0), .inr (7, o7 x rv.2.1)), ((x 17), .inl (T.1, 20, .inl rv.2.2.1)), ((x 18), .inl (T.1, 20, .inl rv.2.2.2))] A) A)) (cc := cX7_year) (maxL := 3) (ret := (some .int)) (by decide) rfl (Nat.le_of_ble_eq_true rfl) ?_
  intro p e s m below meth c A ls hx hb hr hml hts hown hlocks hnm hP hK hD hS hA hE hl
  have hown : s.vm.findClass RX7 = some m.cls := hown
  have hl : lv_has ls 3 [(0, .ref (x 0)), (1, .int p1), (2, .int p2)] := hl
  unfold f_X7_year at hM
  refine lv_iload_n hx hb dX7_year_0 rfl (lv_at hl 1 rfl) ?_
  refine lv_iconst (v := 0) hx hb dX7_year_1 (by decide) ?_
  refine lv_sipush (v := 999) hx hb dX7_year_2 (by decide) ?_
  refine xafti (rv := (f_X7_in p1 (0) (999))) (W2 := [((x 0), .inr (7, o7 x u_this)), ((x 17), .inl (T.1, 20, .inl u_this_springs)), ((x 18), .inl (T.1, 20, .inl u_this_summers))]) (va_runS (As := [.int p1, .int (0), .int (999)]) (rest := []) ⟨hx, hb, hml, hown, hts⟩ (c_X7_in (rv := (f_X7_in p1 (0) (999))) l D T p1 (0) (999) rfl) (cwS 3 hts gX7_year_X7_in rfl rfl rfl (by decide +kernel) ⟨Nat.le_of_ble_eq_true rfl, Nat.le_of_ble_eq_true rfl⟩) (xpvs hP hD hK [] (by decide) rfl (fun _ _ _ => trivial) (fun _ _ _ _ _ _ => trivial)) rfl rfl hl.1 rfl (lv_room (Nat.le_of_ble_eq_true rfl)) dX7_year_5 ⟨Nat.le_of_ble_eq_true rfl, Nat.le_of_ble_eq_true rfl⟩) hP hD hS hA [] rfl rfl rfl rfl (fun H locs hP hD hS => ?_)
  refine lv_if_eq (tgt := 22) hx hb dX7_year_8 (by decide) (fun c1 => ?_) (fun c1 => ?_)
  · have hM := xit c1 hM
    refine lv_iconst (v := (-1)) hx hb dX7_year_22 (by decide) ?_
    obtain rfl := Option.some.inj hM
    exact xreti hx hb hr hlocks hP hK hD hS dX7_year_23 rfl
  · have hM := xif c1 hM
    refine lv_iload_n hx hb dX7_year_11 rfl (lv_at hl 2 rfl) ?_
    refine lv_iconst (v := 0) hx hb dX7_year_12 (by decide) ?_
    refine lv_sipush (v := 999) hx hb dX7_year_13 (by decide) ?_
    refine xafti (rv := (f_X7_in p2 (0) (999))) (W2 := [((x 0), .inr (7, o7 x u_this)), ((x 17), .inl (T.1, 20, .inl u_this_springs)), ((x 18), .inl (T.1, 20, .inl u_this_summers))]) (va_runS (As := [.int p2, .int (0), .int (999)]) (rest := []) ⟨hx, hb, hml, hown, hts⟩ (c_X7_in (rv := (f_X7_in p2 (0) (999))) l D T p2 (0) (999) rfl) (cwS 3 hts gX7_year_X7_in rfl rfl rfl (by decide +kernel) ⟨Nat.le_of_ble_eq_true rfl, Nat.le_of_ble_eq_true rfl⟩) (xpvs hP hD hK [] (by decide) rfl (fun _ _ _ => trivial) (fun _ _ _ _ _ _ => trivial)) rfl rfl hl.1 rfl (lv_room (Nat.le_of_ble_eq_true rfl)) dX7_year_16 ⟨Nat.le_of_ble_eq_true rfl, Nat.le_of_ble_eq_true rfl⟩) hP hD hS hA [] rfl rfl rfl rfl (fun H locs hP hD hS => ?_)
    refine lv_if_ne (tgt := 24) hx hb dX7_year_19 (by decide) (fun c2 => ?_) (fun c2 => ?_)
    · have hM := xif c2 hM
      refine lv_aload_n hx hb dX7_year_24 rfl (lv_at hl 0 rfl) ?_
      refine va_get (D := D) (ci := 7) (v := .int u_this.2.2.2.2.2.2.2.2.2.2.2) (C := RX7) (T := TX7) (N := 30) hx hb hts (fun w h => List.mem_cons_of_mem _ (List.mem_append_right _ h)) hown hK hP 0 rfl rfl 27 (by decide) (hts _ (List.mem_of_getElem? (i := 1) rfl)) (fun _ h9 => h9) rfl dX7_year_25 ?_
      refine lv_bipush (v := 20) hx hb dX7_year_28 (by decide) ?_
      refine lv_icmp_ne (tgt := 36) hx hb dX7_year_30 (by decide) (fun c3 => ?_) (fun c3 => ?_)
      · have hM := xif c3 hM
        refine lv_aload_n hx hb dX7_year_36 rfl (lv_at hl 0 rfl) ?_
        refine va_get (D := D) (ci := 7) (v := .ref (x 17)) (C := RX7) (T := TX7) (N := 30) hx hb hts (fun w h => List.mem_cons_of_mem _ (List.mem_append_right _ h)) hown hK hP 0 rfl rfl 28 (by decide) (hts _ (List.mem_of_getElem? (i := 2) rfl)) (fun _ h9 => h9) rfl dX7_year_37 ?_
        refine lv_aload_n hx hb dX7_year_40 rfl (lv_at hl 0 rfl) ?_
        refine va_get (D := D) (ci := 7) (v := .int u_this.2.2.2.2.2.2.2.2.2.2.2) (C := RX7) (T := TX7) (N := 30) hx hb hts (fun w h => List.mem_cons_of_mem _ (List.mem_append_right _ h)) hown hK hP 0 rfl rfl 27 (by decide) (hts _ (List.mem_of_getElem? (i := 1) rfl)) (fun _ h9 => h9) rfl dX7_year_41 ?_
        refine lv_iload_n hx hb dX7_year_44 rfl (lv_at hl 1 rfl) ?_
        obtain ⟨g4, hM⟩ := xck hM
        refine xast hx hb hK hP hD hS 1 0 rfl rfl g4 rfl dX7_year_45 (fun H locs hP hD hS => ?_)
        have hP : va_P D vwCl [((x 0), .inr (7, o7 x u_this)), ((x 17), .inl (T.1, 20, .inl (upd u_this_springs u_this.2.2.2.2.2.2.2.2.2.2.2.toNatClampNeg p1))), ((x 18), .inl (T.1, 20, .inl u_this_summers))] H := hP
        have hD : va_D A [((x 0), .inr (7, o7 x u_this)), ((x 17), .inl (T.1, 20, .inl (upd u_this_springs u_this.2.2.2.2.2.2.2.2.2.2.2.toNatClampNeg p1))), ((x 18), .inl (T.1, 20, .inl u_this_summers))] := hD
        refine lv_aload_n hx hb dX7_year_46 rfl (lv_at hl 0 rfl) ?_
        refine va_get (D := D) (ci := 7) (v := .ref (x 18)) (C := RX7) (T := TX7) (N := 30) hx hb hts (fun w h => List.mem_cons_of_mem _ (List.mem_append_right _ h)) hown hK hP 0 rfl rfl 29 (by decide) (hts _ (List.mem_of_getElem? (i := 3) rfl)) (fun _ h9 => h9) rfl dX7_year_47 ?_
        refine lv_aload_n hx hb dX7_year_50 rfl (lv_at hl 0 rfl) ?_
        refine va_get (D := D) (ci := 7) (v := .int u_this.2.2.2.2.2.2.2.2.2.2.2) (C := RX7) (T := TX7) (N := 30) hx hb hts (fun w h => List.mem_cons_of_mem _ (List.mem_append_right _ h)) hown hK hP 0 rfl rfl 27 (by decide) (hts _ (List.mem_of_getElem? (i := 1) rfl)) (fun _ h9 => h9) rfl dX7_year_51 ?_
        refine lv_iload_n hx hb dX7_year_54 rfl (lv_at hl 2 rfl) ?_
        refine xast hx hb hK hP hD hS 2 0 rfl rfl g4 rfl dX7_year_55 (fun H locs hP hD hS => ?_)
        have hP : va_P D vwCl [((x 0), .inr (7, o7 x u_this)), ((x 17), .inl (T.1, 20, .inl (upd u_this_springs u_this.2.2.2.2.2.2.2.2.2.2.2.toNatClampNeg p1))), ((x 18), .inl (T.1, 20, .inl (upd u_this_summers u_this.2.2.2.2.2.2.2.2.2.2.2.toNatClampNeg p2)))] H := hP
        have hD : va_D A [((x 0), .inr (7, o7 x u_this)), ((x 17), .inl (T.1, 20, .inl (upd u_this_springs u_this.2.2.2.2.2.2.2.2.2.2.2.toNatClampNeg p1))), ((x 18), .inl (T.1, 20, .inl (upd u_this_summers u_this.2.2.2.2.2.2.2.2.2.2.2.toNatClampNeg p2)))] := hD
        refine lv_aload_n hx hb dX7_year_56 rfl (lv_at hl 0 rfl) ?_
        refine lv_dup hx hb dX7_year_57 rfl ?_
        refine va_get (D := D) (ci := 7) (v := .int u_this.2.2.2.2.2.2.2.2.2.2.2) (C := RX7) (T := TX7) (N := 30) hx hb hts (fun w h => List.mem_cons_of_mem _ (List.mem_append_right _ h)) hown hK hP 0 rfl rfl 27 (by decide) (hts _ (List.mem_of_getElem? (i := 1) rfl)) (fun _ h9 => h9) rfl dX7_year_58 ?_
        refine lv_iconst (v := 1) hx hb dX7_year_61 (by decide) ?_
        refine lv_iadd hx hb dX7_year_62 ?_
        refine va_put (D := D) (ci := 7) (v := .int (u_this.2.2.2.2.2.2.2.2.2.2.2 + (1))) (C := RX7) (T := TX7) (N := 30) hx hb hts (fun w h => List.mem_cons_of_mem _ (List.mem_append_right _ h)) tyX7 tyX7_ok nmX7 hown hK hP hD hS 0 rfl rfl 27 (by decide) (hts _ (List.mem_of_getElem? (i := 1) rfl)) (fun _ h9 => h9) rfl (tyX7_ok 27 (by decide)) rfl rfl (Nat.le_of_ble_eq_true rfl) dX7_year_63 (fun H locs hP hD hS => ?_)
        have hP : va_P D vwCl [((x 0), .inr (7, o7 x (u_this.1, u_this.2.1, u_this.2.2.1, u_this.2.2.2.1, u_this.2.2.2.2.1, u_this.2.2.2.2.2.1, u_this.2.2.2.2.2.2.1, u_this.2.2.2.2.2.2.2.1, u_this.2.2.2.2.2.2.2.2.1, u_this.2.2.2.2.2.2.2.2.2.1, u_this.2.2.2.2.2.2.2.2.2.2.1, (u_this.2.2.2.2.2.2.2.2.2.2.2 + (1))))), ((x 17), .inl (T.1, 20, .inl (upd u_this_springs u_this.2.2.2.2.2.2.2.2.2.2.2.toNatClampNeg p1))), ((x 18), .inl (T.1, 20, .inl (upd u_this_summers u_this.2.2.2.2.2.2.2.2.2.2.2.toNatClampNeg p2)))] H := hP
        have hD : va_D A [((x 0), .inr (7, o7 x (u_this.1, u_this.2.1, u_this.2.2.1, u_this.2.2.2.1, u_this.2.2.2.2.1, u_this.2.2.2.2.2.1, u_this.2.2.2.2.2.2.1, u_this.2.2.2.2.2.2.2.1, u_this.2.2.2.2.2.2.2.2.1, u_this.2.2.2.2.2.2.2.2.2.1, u_this.2.2.2.2.2.2.2.2.2.2.1, (u_this.2.2.2.2.2.2.2.2.2.2.2 + (1))))), ((x 17), .inl (T.1, 20, .inl (upd u_this_springs u_this.2.2.2.2.2.2.2.2.2.2.2.toNatClampNeg p1))), ((x 18), .inl (T.1, 20, .inl (upd u_this_summers u_this.2.2.2.2.2.2.2.2.2.2.2.toNatClampNeg p2)))] := hD
        refine lv_aload_n hx hb dX7_year_66 rfl (lv_at hl 0 rfl) ?_
        refine va_get (D := D) (ci := 7) (v := .int (u_this.2.2.2.2.2.2.2.2.2.2.2 + (1))) (C := RX7) (T := TX7) (N := 30) hx hb hts (fun w h => List.mem_cons_of_mem _ (List.mem_append_right _ h)) hown hK hP 0 rfl rfl 27 (by decide) (hts _ (List.mem_of_getElem? (i := 1) rfl)) (fun _ h9 => h9) rfl dX7_year_67 ?_
        obtain rfl := Option.some.inj hM
        exact xreti hx hb hr hlocks hP hK hD hS dX7_year_70 rfl
      · have hM := xit c3 hM
        refine lv_bipush (v := (-3)) hx hb dX7_year_33 (by decide) ?_
        obtain rfl := Option.some.inj hM
        exact xreti hx hb hr hlocks hP hK hD hS dX7_year_35 rfl
    · have hM := xit c2 hM
      refine lv_iconst (v := (-1)) hx hb dX7_year_22 (by decide) ?_
      obtain rfl := Option.some.inj hM
      exact xreti hx hb hr hlocks hP hK hD hS dX7_year_23 rfl
def s_X7_ahead_38 (u_this : K7) (u_this_springs : (Nat → Int32)) (u_this_summers : (Nat → Int32)) (v3 : Int64 × Int64 × Int64 × Int64 × Int32) : Option ((Int64 × Int64 × Int64 × Int64 × Int32) ⊕ (Int64 × Int64 × Int64 × Int64 × Int32)) :=
  if u_this.2.2.2.2.2.2.2.2.2.2.2 ≤ v3.2.2.2.2 then
   (some (.inr (v3.1, v3.2.1, v3.2.2.1, v3.2.2.2.1, v3.2.2.2.2)))
  else
   (if xin v3.2.2.2.2 20 = true then
    (some (.inl ((v3.1 + ((u_this_springs v3.2.2.2.2.toNatClampNeg).toInt64)), (v3.2.1 + ((u_this_summers v3.2.2.2.2.toNatClampNeg).toInt64)), (v3.2.2.1 + (((u_this_springs v3.2.2.2.2.toNatClampNeg).toInt64) * ((u_this_springs v3.2.2.2.2.toNatClampNeg).toInt64))), (v3.2.2.2.1 + (((u_this_springs v3.2.2.2.2.toNatClampNeg).toInt64) * ((u_this_summers v3.2.2.2.2.toNatClampNeg).toInt64))), v3.2.2.2.2 + 1)))
    else none)
def f_X7_ahead (N : Nat) (u_this : K7) (u_this_springs : (Nat → Int32)) (u_this_summers : (Nat → Int32)) (p1 : Int32) (p2 : Int32) : Option (Int64) :=
  if (f_X7_in p1 (0) (999)) = (0) then
   (some (-1000000000000000000))
  else
   (if (f_X7_in p2 (0) (3)) = (0) then
     (some (-1000000000000000000))
    else
     ((xlp (s_X7_ahead_38 u_this u_this_springs u_this_summers) N (0, 0, 0, 0, 0)).bind fun v6 =>
      if (lg_cmp ((u_this.2.2.2.2.2.2.2.2.2.2.2.toInt64 * v6.2.2.1) - (v6.1 * v6.1)) (0)) = (0) then
       (some (-1000000000000000000))
      else
       (if (2) ≤ p2 then
         ((f_X7_inLeast N ((v6.2.1 * ((u_this.2.2.2.2.2.2.2.2.2.2.2.toInt64 * v6.2.2.1) - (v6.1 * v6.1))) + (((u_this.2.2.2.2.2.2.2.2.2.2.2.toInt64 * v6.2.2.2.1) - (v6.1 * v6.2.1)) * (((u_this.2.2.2.2.2.2.2.2.2.2.2 * p1).toInt64) - v6.1))) (u_this.2.2.2.2.2.2.2.2.2.2.2.toInt64 * ((u_this.2.2.2.2.2.2.2.2.2.2.2.toInt64 * v6.2.2.1) - (v6.1 * v6.1))) (p2 - (2))).bind fun r9 =>
          some r9)
        else
         ((f_X7_inLeast N ((u_this.2.2.2.2.2.2.2.2.2.2.2.toInt64 * v6.2.2.2.1) - (v6.1 * v6.2.1)) ((u_this.2.2.2.2.2.2.2.2.2.2.2.toInt64 * v6.2.2.1) - (v6.1 * v6.1)) p2).bind fun r10 =>
          some r10))))
set_option maxHeartbeats 4000000 in
set_option maxRecDepth 100000 in
theorem c_X7_ahead (l : Launch) (D : va_G) (T : xT) (x : Nat → Nat) {sz : Nat} {N : Nat} (u_this : K7) (u_this_springs : (Nat → Int32)) (u_this_summers : (Nat → Int32)) (p1 : Int32) (p2 : Int32) {rv : Int64} (hM : f_X7_ahead N u_this u_this_springs u_this_summers p1 p2 = some rv) : Met l yX7_ahead wsX7_ahead ({ frames := 2, cells := 0, slots := 0, locals := 55 } : Room) (va_Pc [.ref (x 0), .int p1, .int p2] (xPre D T [((x 0), .inr (7, o7 x u_this)), ((x 17), .inl (T.1, 20, .inl u_this_springs)), ((x 18), .inl (T.1, 20, .inl u_this_summers))] sz xE0)) (va_Ql (fun (r : Int64) (_ : Unit) => r = rv) (fun _ => xPost D T [((x 0), .inr (7, o7 x u_this)), ((x 17), .inl (T.1, 20, .inl u_this_springs)), ((x 18), .inl (T.1, 20, .inl u_this_summers))] (va_A [((x 0), .inr (7, o7 x u_this)), ((x 17), .inl (T.1, 20, .inl u_this_springs)), ((x 18), .inl (T.1, 20, .inl u_this_summers))] sz)) (va_A [((x 0), .inr (7, o7 x u_this)), ((x 17), .inl (T.1, 20, .inl u_this_springs)), ((x 18), .inl (T.1, 20, .inl u_this_summers))] sz)) 0 0 (va_A [((x 0), .inr (7, o7 x u_this)), ((x 17), .inl (T.1, 20, .inl u_this_springs)), ((x 18), .inl (T.1, 20, .inl u_this_summers))] sz) := by
  refine xMet (av := [.ref (x 0), .int p1, .int p2]) (Wd := [((x 0), .inr (7, o7 x u_this)), ((x 17), .inl (T.1, 20, .inl u_this_springs)), ((x 18), .inl (T.1, 20, .inl u_this_summers))]) (E := xE0) (Qc := fun A => (va_Ql (fun (r : Int64) (_ : Unit) => r = rv) (fun _ => xPost D T [((x 0), .inr (7, o7 x u_this)), ((x 17), .inl (T.1, 20, .inl u_this_springs)), ((x 18), .inl (T.1, 20, .inl u_this_summers))] A) A)) (cc := cX7_ahead) (maxL := 15) (ret := (some .long)) (by decide) rfl (Nat.le_of_ble_eq_true rfl) ?_
  intro p e s m below meth c A ls hx hb hr hml hts hown hlocks hnm hP hK hD hS hA hE hl
  have hown : s.vm.findClass RX7 = some m.cls := hown
  have hl : lv_has ls 15 [(0, .ref (x 0)), (1, .int p1), (2, .int p2)] := hl
  unfold f_X7_ahead at hM
  refine lv_iload_n hx hb dX7_ahead_0 rfl (lv_at hl 1 rfl) ?_
  refine lv_iconst (v := 0) hx hb dX7_ahead_1 (by decide) ?_
  refine lv_sipush (v := 999) hx hb dX7_ahead_2 (by decide) ?_
  refine xafti (rv := (f_X7_in p1 (0) (999))) (W2 := [((x 0), .inr (7, o7 x u_this)), ((x 17), .inl (T.1, 20, .inl u_this_springs)), ((x 18), .inl (T.1, 20, .inl u_this_summers))]) (va_runS (As := [.int p1, .int (0), .int (999)]) (rest := []) ⟨hx, hb, hml, hown, hts⟩ (c_X7_in (rv := (f_X7_in p1 (0) (999))) l D T p1 (0) (999) rfl) (cwS 3 hts gX7_ahead_X7_in rfl rfl rfl (by decide +kernel) ⟨Nat.le_of_ble_eq_true rfl, Nat.le_of_ble_eq_true rfl⟩) (xpvs hP hD hK [] (by decide) rfl (fun _ _ _ => trivial) (fun _ _ _ _ _ _ => trivial)) rfl rfl hl.1 rfl (lv_room (Nat.le_of_ble_eq_true rfl)) dX7_ahead_5 ⟨Nat.le_of_ble_eq_true rfl, Nat.le_of_ble_eq_true rfl⟩) hP hD hS hA [] rfl rfl rfl rfl (fun H locs hP hD hS => ?_)
  refine lv_if_eq (tgt := 20) hx hb dX7_ahead_8 (by decide) (fun c1 => ?_) (fun c1 => ?_)
  · have hM := xit c1 hM
    refine lv_ldc2 (v := (-1000000000000000000)) hx hb hown (hts _ (List.mem_of_getElem? (i := 1) rfl)) dX7_ahead_20 ?_
    obtain rfl := Option.some.inj hM
    exact xretl hx hb hr hlocks hP hK hD hS dX7_ahead_23 rfl
  · have hM := xif c1 hM
    refine lv_iload_n hx hb dX7_ahead_11 rfl (lv_at hl 2 rfl) ?_
    refine lv_iconst (v := 0) hx hb dX7_ahead_12 (by decide) ?_
    refine lv_iconst (v := 3) hx hb dX7_ahead_13 (by decide) ?_
    refine xafti (rv := (f_X7_in p2 (0) (3))) (W2 := [((x 0), .inr (7, o7 x u_this)), ((x 17), .inl (T.1, 20, .inl u_this_springs)), ((x 18), .inl (T.1, 20, .inl u_this_summers))]) (va_runS (As := [.int p2, .int (0), .int (3)]) (rest := []) ⟨hx, hb, hml, hown, hts⟩ (c_X7_in (rv := (f_X7_in p2 (0) (3))) l D T p2 (0) (3) rfl) (cwS 3 hts gX7_ahead_X7_in rfl rfl rfl (by decide +kernel) ⟨Nat.le_of_ble_eq_true rfl, Nat.le_of_ble_eq_true rfl⟩) (xpvs hP hD hK [] (by decide) rfl (fun _ _ _ => trivial) (fun _ _ _ _ _ _ => trivial)) rfl rfl hl.1 rfl (lv_room (Nat.le_of_ble_eq_true rfl)) dX7_ahead_14 ⟨Nat.le_of_ble_eq_true rfl, Nat.le_of_ble_eq_true rfl⟩) hP hD hS hA [] rfl rfl rfl rfl (fun H locs hP hD hS => ?_)
    refine lv_if_ne (tgt := 24) hx hb dX7_ahead_17 (by decide) (fun c2 => ?_) (fun c2 => ?_)
    · have hM := xif c2 hM
      refine lv_lconst (v := 0) hx hb dX7_ahead_24 (by decide) ?_
      refine lv_lstore_n (lv' := [(3, .long (0)), (0, .ref (x 0)), (1, .int p1), (2, .int p2)]) hx hb dX7_ahead_25 rfl hl (by decide) rfl (fun ls hl => ?_)
      refine lv_lconst (v := 0) hx hb dX7_ahead_26 (by decide) ?_
      refine lv_lstore (lv' := [(5, .long (0)), (3, .long (0)), (0, .ref (x 0)), (1, .int p1), (2, .int p2)]) hx hb dX7_ahead_27 hl (by decide) rfl (fun ls hl => ?_)
      refine lv_lconst (v := 0) hx hb dX7_ahead_29 (by decide) ?_
      refine lv_lstore (lv' := [(7, .long (0)), (5, .long (0)), (3, .long (0)), (0, .ref (x 0)), (1, .int p1), (2, .int p2)]) hx hb dX7_ahead_30 hl (by decide) rfl (fun ls hl => ?_)
      refine lv_lconst (v := 0) hx hb dX7_ahead_32 (by decide) ?_
      refine lv_lstore (lv' := [(9, .long (0)), (7, .long (0)), (5, .long (0)), (3, .long (0)), (0, .ref (x 0)), (1, .int p1), (2, .int p2)]) hx hb dX7_ahead_33 hl (by decide) rfl (fun ls hl => ?_)
      refine lv_iconst (v := 0) hx hb dX7_ahead_35 (by decide) ?_
      refine lv_istore (lv' := [(11, .int (0)), (9, .long (0)), (7, .long (0)), (5, .long (0)), (3, .long (0)), (0, .ref (x 0)), (1, .int p1), (2, .int p2)]) hx hb dX7_ahead_36 hl (by decide) rfl (fun ls hl => ?_)
      obtain ⟨v6, hM, hNv6⟩ := xbd hM
      have hQv6 := hM
      have Kv6 : ∀ (H : Heap) (locs : List Loc) (ls : Array Slot), va_P D vwCl [((x 0), .inr (7, o7 x u_this)), ((x 17), .inl (T.1, 20, .inl u_this_springs)), ((x 18), .inl (T.1, 20, .inl u_this_summers))] H → va_D A [((x 0), .inr (7, o7 x u_this)), ((x 17), .inl (T.1, 20, .inl u_this_springs)), ((x 18), .inl (T.1, 20, .inl u_this_summers))] → va_S A s.heap H locs → lv_has ls 15 [(0, .ref (x 0)), (1, .int p1), (2, .int p2), (3, .long v6.1), (5, .long v6.2.1), (7, .long v6.2.2.1), (9, .long v6.2.2.2.1)] → W p l e ({ frames := 2, cells := 0, slots := 0, locals := 55 } : Room) s m ([.ref (x 0), .int p1, .int p2] : List Value).toArray below meth c H locs 0 0 (MQ below (va_Ql (fun (r : Int64) (_ : Unit) => r = rv) (fun _ => xPost D T [((x 0), .inr (7, o7 x u_this)), ((x 17), .inl (T.1, 20, .inl u_this_springs)), ((x 18), .inl (T.1, 20, .inl u_this_summers))] A) A) ([.ref (x 0), .int p1, .int p2] : List Value).toArray s 0 0 A) (F0 m 121 ls []) := by
        intro H locs ls hP hD hS hl
        have hM := hNv6
        refine lv_aload_n hx hb dX7_ahead_121 rfl (lv_at hl 0 rfl) ?_
        refine va_get (D := D) (ci := 7) (v := .int u_this.2.2.2.2.2.2.2.2.2.2.2) (C := RX7) (T := TX7) (N := 30) hx hb hts (fun w h => List.mem_cons_of_mem _ (List.mem_append_right _ h)) hown hK hP 0 rfl rfl 27 (by decide) (hts _ (List.mem_of_getElem? (i := 2) rfl)) (fun _ h9 => h9) rfl dX7_ahead_122 ?_
        refine lv_i2l (v := u_this.2.2.2.2.2.2.2.2.2.2.2.toInt64) hx hb dX7_ahead_125 rfl ?_
        refine lv_lload hx hb dX7_ahead_126 (lv_at hl 5 rfl) ?_
        refine lv_lmul hx hb dX7_ahead_128 ?_
        refine lv_lload_n hx hb dX7_ahead_129 rfl (lv_at hl 3 rfl) ?_
        refine lv_lload_n hx hb dX7_ahead_130 rfl (lv_at hl 3 rfl) ?_
        refine lv_lmul hx hb dX7_ahead_131 ?_
        refine lv_lsub hx hb dX7_ahead_132 ?_
        refine lv_lstore (lv' := [(11, .long ((u_this.2.2.2.2.2.2.2.2.2.2.2.toInt64 * v6.2.2.1) - (v6.1 * v6.1))), (0, .ref (x 0)), (1, .int p1), (2, .int p2), (3, .long v6.1), (5, .long v6.2.1), (7, .long v6.2.2.1), (9, .long v6.2.2.2.1)]) hx hb dX7_ahead_133 hl (by decide) rfl (fun ls hl => ?_)
        refine lv_aload_n hx hb dX7_ahead_135 rfl (lv_at hl 1 rfl) ?_
        refine va_get (D := D) (ci := 7) (v := .int u_this.2.2.2.2.2.2.2.2.2.2.2) (C := RX7) (T := TX7) (N := 30) hx hb hts (fun w h => List.mem_cons_of_mem _ (List.mem_append_right _ h)) hown hK hP 0 rfl rfl 27 (by decide) (hts _ (List.mem_of_getElem? (i := 2) rfl)) (fun _ h9 => h9) rfl dX7_ahead_136 ?_
        refine lv_i2l (v := u_this.2.2.2.2.2.2.2.2.2.2.2.toInt64) hx hb dX7_ahead_139 rfl ?_
        refine lv_lload hx hb dX7_ahead_140 (lv_at hl 7 rfl) ?_
        refine lv_lmul hx hb dX7_ahead_142 ?_
        refine lv_lload_n hx hb dX7_ahead_143 rfl (lv_at hl 4 rfl) ?_
        refine lv_lload hx hb dX7_ahead_144 (lv_at hl 5 rfl) ?_
        refine lv_lmul hx hb dX7_ahead_146 ?_
        refine lv_lsub hx hb dX7_ahead_147 ?_
        refine lv_lstore (lv' := [(13, .long ((u_this.2.2.2.2.2.2.2.2.2.2.2.toInt64 * v6.2.2.2.1) - (v6.1 * v6.2.1))), (11, .long ((u_this.2.2.2.2.2.2.2.2.2.2.2.toInt64 * v6.2.2.1) - (v6.1 * v6.1))), (0, .ref (x 0)), (1, .int p1), (2, .int p2), (3, .long v6.1), (5, .long v6.2.1), (7, .long v6.2.2.1), (9, .long v6.2.2.2.1)]) hx hb dX7_ahead_148 hl (by decide) rfl (fun ls hl => ?_)
        refine lv_lload hx hb dX7_ahead_150 (lv_at hl 1 rfl) ?_
        refine lv_lconst (v := 0) hx hb dX7_ahead_152 (by decide) ?_
        refine W.lcmp hx hb dX7_ahead_153 ?_
        refine lv_if_ne (tgt := 161) hx hb dX7_ahead_154 (by decide) (fun c7 => ?_) (fun c7 => ?_)
        · have hM := xif c7 hM
          refine lv_iload_n hx hb dX7_ahead_161 rfl (lv_at hl 4 rfl) ?_
          refine lv_iconst (v := 2) hx hb dX7_ahead_162 (by decide) ?_
          refine lv_icmp_ge (tgt := 177) hx hb dX7_ahead_163 (by decide) (fun c8 => ?_) (fun c8 => ?_)
          · have hM := xit c8 hM
            refine lv_lload hx hb dX7_ahead_177 (lv_at hl 6 rfl) ?_
            refine lv_lload hx hb dX7_ahead_179 (lv_at hl 1 rfl) ?_
            refine lv_lmul hx hb dX7_ahead_181 ?_
            refine lv_lload hx hb dX7_ahead_182 (lv_at hl 0 rfl) ?_
            refine lv_aload_n hx hb dX7_ahead_184 rfl (lv_at hl 2 rfl) ?_
            refine va_get (D := D) (ci := 7) (v := .int u_this.2.2.2.2.2.2.2.2.2.2.2) (C := RX7) (T := TX7) (N := 30) hx hb hts (fun w h => List.mem_cons_of_mem _ (List.mem_append_right _ h)) hown hK hP 0 rfl rfl 27 (by decide) (hts _ (List.mem_of_getElem? (i := 2) rfl)) (fun _ h9 => h9) rfl dX7_ahead_185 ?_
            refine lv_iload_n hx hb dX7_ahead_188 rfl (lv_at hl 3 rfl) ?_
            refine lv_imul hx hb dX7_ahead_189 ?_
            refine lv_i2l (v := (u_this.2.2.2.2.2.2.2.2.2.2.2 * p1).toInt64) hx hb dX7_ahead_190 rfl ?_
            refine lv_lload_n hx hb dX7_ahead_191 rfl (lv_at hl 5 rfl) ?_
            refine lv_lsub hx hb dX7_ahead_192 ?_
            refine lv_lmul hx hb dX7_ahead_193 ?_
            refine lv_ladd hx hb dX7_ahead_194 ?_
            refine lv_aload_n hx hb dX7_ahead_195 rfl (lv_at hl 2 rfl) ?_
            refine va_get (D := D) (ci := 7) (v := .int u_this.2.2.2.2.2.2.2.2.2.2.2) (C := RX7) (T := TX7) (N := 30) hx hb hts (fun w h => List.mem_cons_of_mem _ (List.mem_append_right _ h)) hown hK hP 0 rfl rfl 27 (by decide) (hts _ (List.mem_of_getElem? (i := 2) rfl)) (fun _ h9 => h9) rfl dX7_ahead_196 ?_
            refine lv_i2l (v := u_this.2.2.2.2.2.2.2.2.2.2.2.toInt64) hx hb dX7_ahead_199 rfl ?_
            refine lv_lload hx hb dX7_ahead_200 (lv_at hl 1 rfl) ?_
            refine lv_lmul hx hb dX7_ahead_202 ?_
            refine lv_iload_n hx hb dX7_ahead_203 rfl (lv_at hl 4 rfl) ?_
            refine lv_iconst (v := 2) hx hb dX7_ahead_204 (by decide) ?_
            refine lv_isub hx hb dX7_ahead_205 ?_
            obtain ⟨r9, er9, hM⟩ := xbd hM
            refine xaftl (rv := r9) (W2 := [((x 0), .inr (7, o7 x u_this)), ((x 17), .inl (T.1, 20, .inl u_this_springs)), ((x 18), .inl (T.1, 20, .inl u_this_summers))]) (va_runS (As := [.long ((v6.2.1 * ((u_this.2.2.2.2.2.2.2.2.2.2.2.toInt64 * v6.2.2.1) - (v6.1 * v6.1))) + (((u_this.2.2.2.2.2.2.2.2.2.2.2.toInt64 * v6.2.2.2.1) - (v6.1 * v6.2.1)) * (((u_this.2.2.2.2.2.2.2.2.2.2.2 * p1).toInt64) - v6.1))), .long (u_this.2.2.2.2.2.2.2.2.2.2.2.toInt64 * ((u_this.2.2.2.2.2.2.2.2.2.2.2.toInt64 * v6.2.2.1) - (v6.1 * v6.1))), .int (p2 - (2))]) (rest := []) ⟨hx, hb, hml, hown, hts⟩ (c_X7_inLeast l D T ((v6.2.1 * ((u_this.2.2.2.2.2.2.2.2.2.2.2.toInt64 * v6.2.2.1) - (v6.1 * v6.1))) + (((u_this.2.2.2.2.2.2.2.2.2.2.2.toInt64 * v6.2.2.2.1) - (v6.1 * v6.2.1)) * (((u_this.2.2.2.2.2.2.2.2.2.2.2 * p1).toInt64) - v6.1))) (u_this.2.2.2.2.2.2.2.2.2.2.2.toInt64 * ((u_this.2.2.2.2.2.2.2.2.2.2.2.toInt64 * v6.2.2.1) - (v6.1 * v6.1))) (p2 - (2)) er9) (cwS 3 hts gX7_ahead_X7_inLeast rfl rfl rfl (by decide +kernel) ⟨Nat.le_of_ble_eq_true rfl, Nat.le_of_ble_eq_true rfl⟩) (xpvs hP hD hK [] (by decide) rfl (fun _ _ _ => trivial) (fun _ _ _ _ _ _ => trivial)) rfl rfl hl.1 rfl (lv_room (Nat.le_of_ble_eq_true rfl)) dX7_ahead_206 ⟨Nat.le_of_ble_eq_true rfl, Nat.le_of_ble_eq_true rfl⟩) hP hD hS hA [] rfl rfl rfl rfl (fun H locs hP hD hS => ?_)
            obtain rfl := Option.some.inj hM
            exact xretl hx hb hr hlocks hP hK hD hS dX7_ahead_209 rfl
          · have hM := xif c8 hM
            refine lv_lload hx hb dX7_ahead_166 (lv_at hl 0 rfl) ?_
            refine lv_lload hx hb dX7_ahead_168 (lv_at hl 1 rfl) ?_
            refine lv_iload_n hx hb dX7_ahead_170 rfl (lv_at hl 4 rfl) ?_
            obtain ⟨r10, er10, hM⟩ := xbd hM
            refine xaftl (rv := r10) (W2 := [((x 0), .inr (7, o7 x u_this)), ((x 17), .inl (T.1, 20, .inl u_this_springs)), ((x 18), .inl (T.1, 20, .inl u_this_summers))]) (va_runS (As := [.long ((u_this.2.2.2.2.2.2.2.2.2.2.2.toInt64 * v6.2.2.2.1) - (v6.1 * v6.2.1)), .long ((u_this.2.2.2.2.2.2.2.2.2.2.2.toInt64 * v6.2.2.1) - (v6.1 * v6.1)), .int p2]) (rest := []) ⟨hx, hb, hml, hown, hts⟩ (c_X7_inLeast l D T ((u_this.2.2.2.2.2.2.2.2.2.2.2.toInt64 * v6.2.2.2.1) - (v6.1 * v6.2.1)) ((u_this.2.2.2.2.2.2.2.2.2.2.2.toInt64 * v6.2.2.1) - (v6.1 * v6.1)) p2 er10) (cwS 3 hts gX7_ahead_X7_inLeast rfl rfl rfl (by decide +kernel) ⟨Nat.le_of_ble_eq_true rfl, Nat.le_of_ble_eq_true rfl⟩) (xpvs hP hD hK [] (by decide) rfl (fun _ _ _ => trivial) (fun _ _ _ _ _ _ => trivial)) rfl rfl hl.1 rfl (lv_room (Nat.le_of_ble_eq_true rfl)) dX7_ahead_171 ⟨Nat.le_of_ble_eq_true rfl, Nat.le_of_ble_eq_true rfl⟩) hP hD hS hA [] rfl rfl rfl rfl (fun H locs hP hD hS => ?_)
            refine lv_goto (tgt := 209) hx hb dX7_ahead_174 (by decide) ?_
            obtain rfl := Option.some.inj hM
            exact xretl hx hb hr hlocks hP hK hD hS dX7_ahead_209 rfl
        · have hM := xit c7 hM
          refine lv_ldc2 (v := (-1000000000000000000)) hx hb hown (hts _ (List.mem_of_getElem? (i := 1) rfl)) dX7_ahead_157 ?_
          obtain rfl := Option.some.inj hM
          exact xretl hx hb hr hlocks hP hK hD hS dX7_ahead_160 rfl
      have Lv3 : ∀ (n : Nat) (v3 : Int64 × Int64 × Int64 × Int64 × Int32), xlp (s_X7_ahead_38 u_this u_this_springs u_this_summers) n v3 = some v6 → ∀ (H : Heap) (locs : List Loc) (ls : Array Slot), va_P D vwCl [((x 0), .inr (7, o7 x u_this)), ((x 17), .inl (T.1, 20, .inl u_this_springs)), ((x 18), .inl (T.1, 20, .inl u_this_summers))] H → va_D A [((x 0), .inr (7, o7 x u_this)), ((x 17), .inl (T.1, 20, .inl u_this_springs)), ((x 18), .inl (T.1, 20, .inl u_this_summers))] → va_S A s.heap H locs → lv_has ls 15 [(0, .ref (x 0)), (1, .int p1), (2, .int p2), (3, .long v3.1), (5, .long v3.2.1), (7, .long v3.2.2.1), (9, .long v3.2.2.2.1), (11, .int v3.2.2.2.2)] → W p l e ({ frames := 2, cells := 0, slots := 0, locals := 55 } : Room) s m ([.ref (x 0), .int p1, .int p2] : List Value).toArray below meth c H locs 0 0 (MQ below (va_Ql (fun (r : Int64) (_ : Unit) => r = rv) (fun _ => xPost D T [((x 0), .inr (7, o7 x u_this)), ((x 17), .inl (T.1, 20, .inl u_this_springs)), ((x 18), .inl (T.1, 20, .inl u_this_summers))] A) A) ([.ref (x 0), .int p1, .int p2] : List Value).toArray s 0 0 A) (F0 m 38 ls []) := by
        intro n
        induction n with
        | zero => exact fun _ h => (xlp_0 h).elim
        | succ n ih =>
          intro v3 hM H locs ls hP hD hS hl
          obtain ⟨z, hM, hz1, hz2⟩ := xlp_s hM
          unfold s_X7_ahead_38 at hM
          refine lv_iload hx hb dX7_ahead_38 (lv_at hl 7 rfl) ?_
          refine lv_aload_n hx hb dX7_ahead_40 rfl (lv_at hl 0 rfl) ?_
          refine va_get (D := D) (ci := 7) (v := .int u_this.2.2.2.2.2.2.2.2.2.2.2) (C := RX7) (T := TX7) (N := 30) hx hb hts (fun w h => List.mem_cons_of_mem _ (List.mem_append_right _ h)) hown hK hP 0 rfl rfl 27 (by decide) (hts _ (List.mem_of_getElem? (i := 2) rfl)) (fun _ h9 => h9) rfl dX7_ahead_41 ?_
          refine lv_icmp_ge (tgt := 121) hx hb dX7_ahead_44 (by decide) (fun c4 => ?_) (fun c4 => ?_)
          · have hM := xit c4 hM
            obtain rfl := hz2 _ (Option.some.inj hM).symm
            exact Kv6 _ _ _ hP hD hS (lv_sub hl [0, 1, 2, 3, 4, 5, 6] rfl)
          · have hM := xif c4 hM
            refine lv_lload_n hx hb dX7_ahead_47 rfl (lv_at hl 3 rfl) ?_
            refine lv_aload_n hx hb dX7_ahead_48 rfl (lv_at hl 0 rfl) ?_
            refine va_get (D := D) (ci := 7) (v := .ref (x 17)) (C := RX7) (T := TX7) (N := 30) hx hb hts (fun w h => List.mem_cons_of_mem _ (List.mem_append_right _ h)) hown hK hP 0 rfl rfl 28 (by decide) (hts _ (List.mem_of_getElem? (i := 3) rfl)) (fun _ h9 => h9) rfl dX7_ahead_49 ?_
            refine lv_iload hx hb dX7_ahead_52 (lv_at hl 7 rfl) ?_
            obtain ⟨g5, hM⟩ := xck hM
            refine xald (v := (u_this_springs v3.2.2.2.2.toNatClampNeg)) hx hb hK hP 1 0 rfl rfl g5 rfl dX7_ahead_54 ?_
            refine lv_i2l (v := (u_this_springs v3.2.2.2.2.toNatClampNeg).toInt64) hx hb dX7_ahead_55 rfl ?_
            refine lv_ladd hx hb dX7_ahead_56 ?_
            refine lv_lstore_n (lv' := [(3, .long (v3.1 + ((u_this_springs v3.2.2.2.2.toNatClampNeg).toInt64))), (0, .ref (x 0)), (1, .int p1), (2, .int p2), (5, .long v3.2.1), (7, .long v3.2.2.1), (9, .long v3.2.2.2.1), (11, .int v3.2.2.2.2)]) hx hb dX7_ahead_57 rfl hl (by decide) rfl (fun ls hl => ?_)
            refine lv_lload hx hb dX7_ahead_58 (lv_at hl 4 rfl) ?_
            refine lv_aload_n hx hb dX7_ahead_60 rfl (lv_at hl 1 rfl) ?_
            refine va_get (D := D) (ci := 7) (v := .ref (x 18)) (C := RX7) (T := TX7) (N := 30) hx hb hts (fun w h => List.mem_cons_of_mem _ (List.mem_append_right _ h)) hown hK hP 0 rfl rfl 29 (by decide) (hts _ (List.mem_of_getElem? (i := 4) rfl)) (fun _ h9 => h9) rfl dX7_ahead_61 ?_
            refine lv_iload hx hb dX7_ahead_64 (lv_at hl 7 rfl) ?_
            refine xald (v := (u_this_summers v3.2.2.2.2.toNatClampNeg)) hx hb hK hP 2 0 rfl rfl g5 rfl dX7_ahead_66 ?_
            refine lv_i2l (v := (u_this_summers v3.2.2.2.2.toNatClampNeg).toInt64) hx hb dX7_ahead_67 rfl ?_
            refine lv_ladd hx hb dX7_ahead_68 ?_
            refine lv_lstore (lv' := [(5, .long (v3.2.1 + ((u_this_summers v3.2.2.2.2.toNatClampNeg).toInt64))), (3, .long (v3.1 + ((u_this_springs v3.2.2.2.2.toNatClampNeg).toInt64))), (0, .ref (x 0)), (1, .int p1), (2, .int p2), (7, .long v3.2.2.1), (9, .long v3.2.2.2.1), (11, .int v3.2.2.2.2)]) hx hb dX7_ahead_69 hl (by decide) rfl (fun ls hl => ?_)
            refine lv_lload hx hb dX7_ahead_71 (lv_at hl 5 rfl) ?_
            refine lv_aload_n hx hb dX7_ahead_73 rfl (lv_at hl 2 rfl) ?_
            refine va_get (D := D) (ci := 7) (v := .ref (x 17)) (C := RX7) (T := TX7) (N := 30) hx hb hts (fun w h => List.mem_cons_of_mem _ (List.mem_append_right _ h)) hown hK hP 0 rfl rfl 28 (by decide) (hts _ (List.mem_of_getElem? (i := 3) rfl)) (fun _ h9 => h9) rfl dX7_ahead_74 ?_
            refine lv_iload hx hb dX7_ahead_77 (lv_at hl 7 rfl) ?_
            refine xald (v := (u_this_springs v3.2.2.2.2.toNatClampNeg)) hx hb hK hP 1 0 rfl rfl g5 rfl dX7_ahead_79 ?_
            refine lv_i2l (v := (u_this_springs v3.2.2.2.2.toNatClampNeg).toInt64) hx hb dX7_ahead_80 rfl ?_
            refine lv_aload_n hx hb dX7_ahead_81 rfl (lv_at hl 2 rfl) ?_
            refine va_get (D := D) (ci := 7) (v := .ref (x 17)) (C := RX7) (T := TX7) (N := 30) hx hb hts (fun w h => List.mem_cons_of_mem _ (List.mem_append_right _ h)) hown hK hP 0 rfl rfl 28 (by decide) (hts _ (List.mem_of_getElem? (i := 3) rfl)) (fun _ h9 => h9) rfl dX7_ahead_82 ?_
            refine lv_iload hx hb dX7_ahead_85 (lv_at hl 7 rfl) ?_
            refine xald (v := (u_this_springs v3.2.2.2.2.toNatClampNeg)) hx hb hK hP 1 0 rfl rfl g5 rfl dX7_ahead_87 ?_
            refine lv_i2l (v := (u_this_springs v3.2.2.2.2.toNatClampNeg).toInt64) hx hb dX7_ahead_88 rfl ?_
            refine lv_lmul hx hb dX7_ahead_89 ?_
            refine lv_ladd hx hb dX7_ahead_90 ?_
            refine lv_lstore (lv' := [(7, .long (v3.2.2.1 + (((u_this_springs v3.2.2.2.2.toNatClampNeg).toInt64) * ((u_this_springs v3.2.2.2.2.toNatClampNeg).toInt64)))), (5, .long (v3.2.1 + ((u_this_summers v3.2.2.2.2.toNatClampNeg).toInt64))), (3, .long (v3.1 + ((u_this_springs v3.2.2.2.2.toNatClampNeg).toInt64))), (0, .ref (x 0)), (1, .int p1), (2, .int p2), (9, .long v3.2.2.2.1), (11, .int v3.2.2.2.2)]) hx hb dX7_ahead_91 hl (by decide) rfl (fun ls hl => ?_)
            refine lv_lload hx hb dX7_ahead_93 (lv_at hl 6 rfl) ?_
            refine lv_aload_n hx hb dX7_ahead_95 rfl (lv_at hl 3 rfl) ?_
            refine va_get (D := D) (ci := 7) (v := .ref (x 17)) (C := RX7) (T := TX7) (N := 30) hx hb hts (fun w h => List.mem_cons_of_mem _ (List.mem_append_right _ h)) hown hK hP 0 rfl rfl 28 (by decide) (hts _ (List.mem_of_getElem? (i := 3) rfl)) (fun _ h9 => h9) rfl dX7_ahead_96 ?_
            refine lv_iload hx hb dX7_ahead_99 (lv_at hl 7 rfl) ?_
            refine xald (v := (u_this_springs v3.2.2.2.2.toNatClampNeg)) hx hb hK hP 1 0 rfl rfl g5 rfl dX7_ahead_101 ?_
            refine lv_i2l (v := (u_this_springs v3.2.2.2.2.toNatClampNeg).toInt64) hx hb dX7_ahead_102 rfl ?_
            refine lv_aload_n hx hb dX7_ahead_103 rfl (lv_at hl 3 rfl) ?_
            refine va_get (D := D) (ci := 7) (v := .ref (x 18)) (C := RX7) (T := TX7) (N := 30) hx hb hts (fun w h => List.mem_cons_of_mem _ (List.mem_append_right _ h)) hown hK hP 0 rfl rfl 29 (by decide) (hts _ (List.mem_of_getElem? (i := 4) rfl)) (fun _ h9 => h9) rfl dX7_ahead_104 ?_
            refine lv_iload hx hb dX7_ahead_107 (lv_at hl 7 rfl) ?_
            refine xald (v := (u_this_summers v3.2.2.2.2.toNatClampNeg)) hx hb hK hP 2 0 rfl rfl g5 rfl dX7_ahead_109 ?_
            refine lv_i2l (v := (u_this_summers v3.2.2.2.2.toNatClampNeg).toInt64) hx hb dX7_ahead_110 rfl ?_
            refine lv_lmul hx hb dX7_ahead_111 ?_
            refine lv_ladd hx hb dX7_ahead_112 ?_
            refine lv_lstore (lv' := [(9, .long (v3.2.2.2.1 + (((u_this_springs v3.2.2.2.2.toNatClampNeg).toInt64) * ((u_this_summers v3.2.2.2.2.toNatClampNeg).toInt64)))), (7, .long (v3.2.2.1 + (((u_this_springs v3.2.2.2.2.toNatClampNeg).toInt64) * ((u_this_springs v3.2.2.2.2.toNatClampNeg).toInt64)))), (5, .long (v3.2.1 + ((u_this_summers v3.2.2.2.2.toNatClampNeg).toInt64))), (3, .long (v3.1 + ((u_this_springs v3.2.2.2.2.toNatClampNeg).toInt64))), (0, .ref (x 0)), (1, .int p1), (2, .int p2), (11, .int v3.2.2.2.2)]) hx hb dX7_ahead_113 hl (by decide) rfl (fun ls hl => ?_)
            refine lv_iinc (v := v3.2.2.2.2 + 1) (lv' := [(11, .int (v3.2.2.2.2 + 1)), (9, .long (v3.2.2.2.1 + (((u_this_springs v3.2.2.2.2.toNatClampNeg).toInt64) * ((u_this_summers v3.2.2.2.2.toNatClampNeg).toInt64)))), (7, .long (v3.2.2.1 + (((u_this_springs v3.2.2.2.2.toNatClampNeg).toInt64) * ((u_this_springs v3.2.2.2.2.toNatClampNeg).toInt64)))), (5, .long (v3.2.1 + ((u_this_summers v3.2.2.2.2.toNatClampNeg).toInt64))), (3, .long (v3.1 + ((u_this_springs v3.2.2.2.2.toNatClampNeg).toInt64))), (0, .ref (x 0)), (1, .int p1), (2, .int p2)]) hx hb dX7_ahead_115 hl (k := 7) rfl rfl (by decide) rfl (fun ls hl => ?_)
            refine lv_goto (tgt := 38) hx hb dX7_ahead_118 (by decide) ?_
            exact ih _ (hz1 _ (Option.some.inj hM).symm) _ _ _ hP hD hS (lv_sub hl [5, 6, 7, 4, 3, 2, 1, 0] rfl)
      exact Lv3 _ _ hM _ _ _ hP hD hS (lv_sub hl [5, 6, 7, 4, 3, 2, 1, 0] rfl)
    · have hM := xit c2 hM
      refine lv_ldc2 (v := (-1000000000000000000)) hx hb hown (hts _ (List.mem_of_getElem? (i := 1) rfl)) dX7_ahead_20 ?_
      obtain rfl := Option.some.inj hM
      exact xretl hx hb hr hlocks hP hK hD hS dX7_ahead_23 rfl
