/-! laid by wip/whole/gen.py out of the decode rows: functional readings and contracts -/
def f_X7_mark (N : Nat) (u_this : K7) (u_this_told : (Nat → Int32)) (u_this_par : (Nat → Int32)) (u_this_try0 : (Nat → Int32)) (u_this_nows : (Nat → Int32)) (u_this_chances : (Nat → Int32)) (p1 : Int32) (p2 : Int32) : Option (Int32 × K7 × (Nat → Int32) × (Nat → Int32)) :=
  if (f_X7_in p1 (0) (5)) = (0) then
   (some ((-1000000), u_this, u_this_par, u_this_try0))
  else
   (if (f_X7_isTrouble p2) = (0) then
     (some ((-1000000), u_this, u_this_par, u_this_try0))
    else
     ((f_X7_takeNow N u_this u_this_told u_this_par u_this_try0 u_this_nows).bind fun r3 =>
      if xin p2 6 = true then
      (if p1 = 0 then
        (some ((u_this_chances p2.toNatClampNeg), ((u_this.1 + (1)), u_this.2.1, u_this.2.2.1, u_this.2.2.2.1, u_this.2.2.2.2.1, u_this.2.2.2.2.2.1, u_this.2.2.2.2.2.2.1, u_this.2.2.2.2.2.2.2.1, u_this.2.2.2.2.2.2.2.2.1, u_this.2.2.2.2.2.2.2.2.2.1, u_this.2.2.2.2.2.2.2.2.2.2.1, u_this.2.2.2.2.2.2.2.2.2.2.2), r3.1, r3.2))
       else if p1 = 1 then
        (some (((u_this_chances p2.toNatClampNeg) + (u_this_nows 1)), ((u_this.1 + (11)), u_this.2.1, u_this.2.2.1, u_this.2.2.2.1, u_this.2.2.2.2.1, u_this.2.2.2.2.2.1, u_this.2.2.2.2.2.2.1, u_this.2.2.2.2.2.2.2.1, u_this.2.2.2.2.2.2.2.2.1, u_this.2.2.2.2.2.2.2.2.2.1, u_this.2.2.2.2.2.2.2.2.2.2.1, u_this.2.2.2.2.2.2.2.2.2.2.2), r3.1, r3.2))
       else if p1 = 2 then
        (some (((u_this_chances p2.toNatClampNeg) - (u_this_nows 0)), ((u_this.1 + (101)), u_this.2.1, u_this.2.2.1, u_this.2.2.2.1, u_this.2.2.2.2.1, u_this.2.2.2.2.2.1, u_this.2.2.2.2.2.2.1, u_this.2.2.2.2.2.2.2.1, u_this.2.2.2.2.2.2.2.2.1, u_this.2.2.2.2.2.2.2.2.2.1, u_this.2.2.2.2.2.2.2.2.2.2.1, u_this.2.2.2.2.2.2.2.2.2.2.2), r3.1, r3.2))
       else if p1 = 3 then
        (some (((2) * ((u_this_chances p2.toNatClampNeg) - (u_this_nows 0))), ((u_this.1 + (1101)), u_this.2.1, u_this.2.2.1, u_this.2.2.2.1, u_this.2.2.2.2.1, u_this.2.2.2.2.2.1, u_this.2.2.2.2.2.2.1, u_this.2.2.2.2.2.2.2.1, u_this.2.2.2.2.2.2.2.2.1, u_this.2.2.2.2.2.2.2.2.2.1, u_this.2.2.2.2.2.2.2.2.2.2.1, u_this.2.2.2.2.2.2.2.2.2.2.2), r3.1, r3.2))
       else if p1 = 4 then
        (some ((((u_this_chances p2.toNatClampNeg) + (u_this_nows 1)) + p2), ((u_this.1 + (10011)), u_this.2.1, u_this.2.2.1, u_this.2.2.2.1, u_this.2.2.2.2.1, u_this.2.2.2.2.2.1, u_this.2.2.2.2.2.2.1, u_this.2.2.2.2.2.2.2.1, u_this.2.2.2.2.2.2.2.2.1, u_this.2.2.2.2.2.2.2.2.2.1, u_this.2.2.2.2.2.2.2.2.2.2.1, u_this.2.2.2.2.2.2.2.2.2.2.2), r3.1, r3.2))
       else 
        ((f_X7_depth ((u_this.1 + (100001)), u_this.2.1, u_this.2.2.1, u_this.2.2.2.1, u_this.2.2.2.2.1, u_this.2.2.2.2.2.1, u_this.2.2.2.2.2.2.1, u_this.2.2.2.2.2.2.2.1, u_this.2.2.2.2.2.2.2.2.1, u_this.2.2.2.2.2.2.2.2.2.1, u_this.2.2.2.2.2.2.2.2.2.2.1, u_this.2.2.2.2.2.2.2.2.2.2.2) r3.1 r3.2).bind fun r10 =>
         some (((u_this_chances p2.toNatClampNeg) + r10), ((u_this.1 + (100001)), u_this.2.1, u_this.2.2.1, u_this.2.2.2.1, u_this.2.2.2.2.1, u_this.2.2.2.2.2.1, u_this.2.2.2.2.2.2.1, u_this.2.2.2.2.2.2.2.1, u_this.2.2.2.2.2.2.2.2.1, u_this.2.2.2.2.2.2.2.2.2.1, u_this.2.2.2.2.2.2.2.2.2.2.1, u_this.2.2.2.2.2.2.2.2.2.2.2), r3.1, r3.2)))
      else none))
set_option maxHeartbeats 4000000 in
set_option maxRecDepth 100000 in
theorem c_X7_mark (l : Launch) (D : va_G) (T : xT) (x : Nat → Nat) {sz : Nat} {N : Nat} (u_this : K7) (u_this_told : (Nat → Int32)) (u_this_par : (Nat → Int32)) (u_this_try0 : (Nat → Int32)) (u_this_nows : (Nat → Int32)) (u_this_chances : (Nat → Int32)) (p1 : Int32) (p2 : Int32) {rv : Int32 × K7 × (Nat → Int32) × (Nat → Int32)} (hM : f_X7_mark N u_this u_this_told u_this_par u_this_try0 u_this_nows u_this_chances p1 p2 = some rv) : Met l yX7_mark wsX7_mark ({ frames := 2, cells := 0, slots := 0, locals := 42 } : Room) (va_Pc [.ref (x 0), .int p1, .int p2] (xPre D T [((x 0), .inr (7, o7 x u_this)), ((x 2), .inl (T.1, 22, .inl u_this_told)), ((x 3), .inl (T.1, 11, .inl u_this_par)), ((x 4), .inl (T.1, 7, .inl u_this_try0)), ((x 5), .inl (T.1, 21, .inl u_this_nows)), ((x 10), .inl (T.1, 6, .inl u_this_chances))] sz xE0)) (va_Qi (fun (r : Int32) (_ : Unit) => r = rv.1) (fun _ => xPost D T [((x 0), .inr (7, o7 x rv.2.1)), ((x 2), .inl (T.1, 22, .inl u_this_told)), ((x 3), .inl (T.1, 11, .inl rv.2.2.1)), ((x 4), .inl (T.1, 7, .inl rv.2.2.2)), ((x 5), .inl (T.1, 21, .inl u_this_nows)), ((x 10), .inl (T.1, 6, .inl u_this_chances))] (va_A [((x 0), .inr (7, o7 x u_this)), ((x 2), .inl (T.1, 22, .inl u_this_told)), ((x 3), .inl (T.1, 11, .inl u_this_par)), ((x 4), .inl (T.1, 7, .inl u_this_try0)), ((x 5), .inl (T.1, 21, .inl u_this_nows)), ((x 10), .inl (T.1, 6, .inl u_this_chances))] sz)) (va_A [((x 0), .inr (7, o7 x u_this)), ((x 2), .inl (T.1, 22, .inl u_this_told)), ((x 3), .inl (T.1, 11, .inl u_this_par)), ((x 4), .inl (T.1, 7, .inl u_this_try0)), ((x 5), .inl (T.1, 21, .inl u_this_nows)), ((x 10), .inl (T.1, 6, .inl u_this_chances))] sz)) 0 0 (va_A [((x 0), .inr (7, o7 x u_this)), ((x 2), .inl (T.1, 22, .inl u_this_told)), ((x 3), .inl (T.1, 11, .inl u_this_par)), ((x 4), .inl (T.1, 7, .inl u_this_try0)), ((x 5), .inl (T.1, 21, .inl u_this_nows)), ((x 10), .inl (T.1, 6, .inl u_this_chances))] sz) := by
  refine xMet (av := [.ref (x 0), .int p1, .int p2]) (Wd := [((x 0), .inr (7, o7 x u_this)), ((x 2), .inl (T.1, 22, .inl u_this_told)), ((x 3), .inl (T.1, 11, .inl u_this_par)), ((x 4), .inl (T.1, 7, .inl u_this_try0)), ((x 5), .inl (T.1, 21, .inl u_this_nows)), ((x 10), .inl (T.1, 6, .inl u_this_chances))]) (E := xE0) (Qc := fun A => (va_Qi (fun (r : Int32) (_ : Unit) => r = rv.1) (fun _ => xPost D T [((x 0), .inr (7, o7 x rv.2.1)), ((x 2), .inl (T.1, 22, .inl u_this_told)), ((x 3), .inl (T.1, 11, .inl rv.2.2.1)), ((x 4), .inl (T.1, 7, .inl rv.2.2.2)), ((x 5), .inl (T.1, 21, .inl u_this_nows)), ((x 10), .inl (T.1, 6, .inl u_this_chances))] A) A)) (cc := cX7_mark) (maxL := 4) (ret := (some .int)) (by decide) rfl (Nat.le_of_ble_eq_true rfl) ?_
  intro p e s m below meth c A ls hx hb hr hml hts hown hlocks hnm hP hK hD hS hA hE hl
  have hown : s.vm.findClass RX7 = some m.cls := hown
  have hl : lv_has ls 4 [(0, .ref (x 0)), (1, .int p1), (2, .int p2)] := hl
  unfold f_X7_mark at hM
  refine lv_iload_n hx hb dX7_mark_0 rfl (lv_at hl 1 rfl) ?_
  refine lv_iconst (v := 0) hx hb dX7_mark_1 (by decide) ?_
  refine lv_iconst (v := 5) hx hb dX7_mark_2 (by decide) ?_
  refine xafti (rv := (f_X7_in p1 (0) (5))) (W2 := [((x 0), .inr (7, o7 x u_this)), ((x 2), .inl (T.1, 22, .inl u_this_told)), ((x 3), .inl (T.1, 11, .inl u_this_par)), ((x 4), .inl (T.1, 7, .inl u_this_try0)), ((x 5), .inl (T.1, 21, .inl u_this_nows)), ((x 10), .inl (T.1, 6, .inl u_this_chances))]) (va_runS (As := [.int p1, .int (0), .int (5)]) (rest := []) ⟨hx, hb, hml, hown, hts⟩ (c_X7_in (rv := (f_X7_in p1 (0) (5))) l D T p1 (0) (5) rfl) (cwS 3 hts gX7_mark_X7_in rfl rfl rfl (by decide +kernel) ⟨Nat.le_of_ble_eq_true rfl, Nat.le_of_ble_eq_true rfl⟩) (xpvs hP hD hK [] (by decide) rfl (fun _ _ _ => trivial) (fun _ _ _ _ _ _ => trivial)) rfl rfl hl.1 rfl (lv_room (Nat.le_of_ble_eq_true rfl)) dX7_mark_3 ⟨Nat.le_of_ble_eq_true rfl, Nat.le_of_ble_eq_true rfl⟩) hP hD hS hA [] rfl rfl rfl rfl (fun H locs hP hD hS => ?_)
  refine lv_if_eq (tgt := 16) hx hb dX7_mark_6 (by decide) (fun c1 => ?_) (fun c1 => ?_)
  · have hM := xit c1 hM
    refine lv_ldc (v := (-1000000)) hx hb hown (hts _ (List.mem_of_getElem? (i := 1) rfl)) dX7_mark_16 ?_
    obtain rfl := Option.some.inj hM
    exact xreti hx hb hr hlocks hP hK hD hS dX7_mark_18 rfl
  · have hM := xif c1 hM
    refine lv_iload_n hx hb dX7_mark_9 rfl (lv_at hl 2 rfl) ?_
    refine xafti (rv := (f_X7_isTrouble p2)) (W2 := [((x 0), .inr (7, o7 x u_this)), ((x 2), .inl (T.1, 22, .inl u_this_told)), ((x 3), .inl (T.1, 11, .inl u_this_par)), ((x 4), .inl (T.1, 7, .inl u_this_try0)), ((x 5), .inl (T.1, 21, .inl u_this_nows)), ((x 10), .inl (T.1, 6, .inl u_this_chances))]) (va_runS (As := [.int p2]) (rest := []) ⟨hx, hb, hml, hown, hts⟩ (c_X7_isTrouble (rv := (f_X7_isTrouble p2)) l D T p2 rfl) (cwS 1 hts gX7_mark_X7_isTrouble rfl rfl rfl (by decide +kernel) ⟨Nat.le_of_ble_eq_true rfl, Nat.le_of_ble_eq_true rfl⟩) (xpvs hP hD hK [] (by decide) rfl (fun _ _ _ => trivial) (fun _ _ _ _ _ _ => trivial)) rfl rfl hl.1 rfl (lv_room (Nat.le_of_ble_eq_true rfl)) dX7_mark_10 ⟨Nat.le_of_ble_eq_true rfl, Nat.le_of_ble_eq_true rfl⟩) hP hD hS hA [] rfl rfl rfl rfl (fun H locs hP hD hS => ?_)
    refine lv_if_ne (tgt := 19) hx hb dX7_mark_13 (by decide) (fun c2 => ?_) (fun c2 => ?_)
    · have hM := xif c2 hM
      refine lv_aload_n hx hb dX7_mark_19 rfl (lv_at hl 0 rfl) ?_
      obtain ⟨r3, er3, hM⟩ := xbd hM
      refine xaftv (W2 := [((x 0), .inr (7, o7 x u_this)), ((x 2), .inl (T.1, 22, .inl u_this_told)), ((x 3), .inl (T.1, 11, .inl r3.1)), ((x 4), .inl (T.1, 7, .inl r3.2)), ((x 5), .inl (T.1, 21, .inl u_this_nows)), ((x 10), .inl (T.1, 6, .inl u_this_chances))]) (va_runV (As := []) (rest := []) ⟨hx, hb, hml, hown, hts⟩ (c_X7_takeNow l D T x u_this u_this_told u_this_par u_this_try0 u_this_nows er3) (cwV 0 hts gX7_mark_X7_takeNow rfl rfl rfl (by decide +kernel) ⟨Nat.le_of_ble_eq_true rfl, Nat.le_of_ble_eq_true rfl⟩) (xpvv hP hD hK [0, 1, 2, 3, 4] (by decide) rfl 0 7 rfl rfl (fun _ _ _ => trivial) (fun _ _ _ _ _ _ => trivial)) rfl rfl hl.1 rfl (lv_room (Nat.le_of_ble_eq_true rfl)) dX7_mark_20 ⟨Nat.le_of_ble_eq_true rfl, Nat.le_of_ble_eq_true rfl⟩) hP hD hS hA [0, 1, 2, 3, 4] rfl rfl rfl rfl (fun H locs hP hD hS => ?_)
      refine lv_aload_n hx hb dX7_mark_23 rfl (lv_at hl 0 rfl) ?_
      refine va_get (D := D) (ci := 7) (v := .ref (x 10)) (C := RX7) (T := TX7) (N := 30) hx hb hts (fun w h => List.mem_cons_of_mem _ (List.mem_append_right _ h)) hown hK hP 0 rfl rfl 17 (by decide) (hts _ (List.mem_of_getElem? (i := 2) rfl)) (fun _ h9 => h9) rfl dX7_mark_24 ?_
      refine lv_iload_n hx hb dX7_mark_27 rfl (lv_at hl 2 rfl) ?_
      obtain ⟨g4, hM⟩ := xck hM
      refine xald (v := (u_this_chances p2.toNatClampNeg)) hx hb hK hP 5 0 rfl rfl g4 rfl dX7_mark_28 ?_
      refine lv_istore_n (lv' := [(3, .int (u_this_chances p2.toNatClampNeg)), (0, .ref (x 0)), (1, .int p1), (2, .int p2)]) hx hb dX7_mark_29 rfl hl (by decide) rfl (fun ls hl => ?_)
      refine lv_iload_n hx hb dX7_mark_30 rfl (lv_at hl 2 rfl) ?_
      by_cases c5 : p1 = 0
      · have hM := xit c5 hM
        refine lv_tableIn (off := 33) (tgt := 64) hx hb dX7_mark_31 (by rw [c5]; decide) (by rw [c5]; decide) (by rw [c5]; rfl) (by decide) ?_
        refine lv_aload_n hx hb dX7_mark_64 rfl (lv_at hl 1 rfl) ?_
        refine lv_dup hx hb dX7_mark_65 rfl ?_
        refine va_get (D := D) (ci := 7) (v := .long u_this.1) (C := RX7) (T := TX7) (N := 30) hx hb hts (fun w h => List.mem_cons_of_mem _ (List.mem_append_right _ h)) hown hK hP 0 rfl rfl 0 (by decide) (hts _ (List.mem_of_getElem? (i := 3) rfl)) (fun _ h9 => h9) rfl dX7_mark_66 ?_
        refine lv_lconst (v := 1) hx hb dX7_mark_69 (by decide) ?_
        refine lv_ladd hx hb dX7_mark_70 ?_
        refine va_put (D := D) (ci := 7) (v := .long (u_this.1 + (1))) (C := RX7) (T := TX7) (N := 30) hx hb hts (fun w h => List.mem_cons_of_mem _ (List.mem_append_right _ h)) tyX7 tyX7_ok nmX7 hown hK hP hD hS 0 rfl rfl 0 (by decide) (hts _ (List.mem_of_getElem? (i := 3) rfl)) (fun _ h9 => h9) rfl (tyX7_ok 0 (by decide)) rfl rfl (Nat.le_of_ble_eq_true rfl) dX7_mark_71 (fun H locs hP hD hS => ?_)
        have hP : va_P D vwCl [((x 0), .inr (7, o7 x ((u_this.1 + (1)), u_this.2.1, u_this.2.2.1, u_this.2.2.2.1, u_this.2.2.2.2.1, u_this.2.2.2.2.2.1, u_this.2.2.2.2.2.2.1, u_this.2.2.2.2.2.2.2.1, u_this.2.2.2.2.2.2.2.2.1, u_this.2.2.2.2.2.2.2.2.2.1, u_this.2.2.2.2.2.2.2.2.2.2.1, u_this.2.2.2.2.2.2.2.2.2.2.2))), ((x 2), .inl (T.1, 22, .inl u_this_told)), ((x 3), .inl (T.1, 11, .inl r3.1)), ((x 4), .inl (T.1, 7, .inl r3.2)), ((x 5), .inl (T.1, 21, .inl u_this_nows)), ((x 10), .inl (T.1, 6, .inl u_this_chances))] H := hP
        have hD : va_D A [((x 0), .inr (7, o7 x ((u_this.1 + (1)), u_this.2.1, u_this.2.2.1, u_this.2.2.2.1, u_this.2.2.2.2.1, u_this.2.2.2.2.2.1, u_this.2.2.2.2.2.2.1, u_this.2.2.2.2.2.2.2.1, u_this.2.2.2.2.2.2.2.2.1, u_this.2.2.2.2.2.2.2.2.2.1, u_this.2.2.2.2.2.2.2.2.2.2.1, u_this.2.2.2.2.2.2.2.2.2.2.2))), ((x 2), .inl (T.1, 22, .inl u_this_told)), ((x 3), .inl (T.1, 11, .inl r3.1)), ((x 4), .inl (T.1, 7, .inl r3.2)), ((x 5), .inl (T.1, 21, .inl u_this_nows)), ((x 10), .inl (T.1, 6, .inl u_this_chances))] := hD
        refine lv_iload_n hx hb dX7_mark_74 rfl (lv_at hl 0 rfl) ?_
        obtain rfl := Option.some.inj hM
        exact xreti hx hb hr hlocks hP hK hD hS dX7_mark_75 rfl
      · have hM := xif c5 hM
        by_cases c6 : p1 = 1
        · have hM := xit c6 hM
          refine lv_tableIn (off := 45) (tgt := 76) hx hb dX7_mark_31 (by rw [c6]; decide) (by rw [c6]; decide) (by rw [c6]; rfl) (by decide) ?_
          refine lv_aload_n hx hb dX7_mark_76 rfl (lv_at hl 1 rfl) ?_
          refine lv_dup hx hb dX7_mark_77 rfl ?_
          refine va_get (D := D) (ci := 7) (v := .long u_this.1) (C := RX7) (T := TX7) (N := 30) hx hb hts (fun w h => List.mem_cons_of_mem _ (List.mem_append_right _ h)) hown hK hP 0 rfl rfl 0 (by decide) (hts _ (List.mem_of_getElem? (i := 3) rfl)) (fun _ h9 => h9) rfl dX7_mark_78 ?_
          refine lv_ldc2 (v := 11) hx hb hown (hts _ (List.mem_of_getElem? (i := 4) rfl)) dX7_mark_81 ?_
          refine lv_ladd hx hb dX7_mark_84 ?_
          refine va_put (D := D) (ci := 7) (v := .long (u_this.1 + (11))) (C := RX7) (T := TX7) (N := 30) hx hb hts (fun w h => List.mem_cons_of_mem _ (List.mem_append_right _ h)) tyX7 tyX7_ok nmX7 hown hK hP hD hS 0 rfl rfl 0 (by decide) (hts _ (List.mem_of_getElem? (i := 3) rfl)) (fun _ h9 => h9) rfl (tyX7_ok 0 (by decide)) rfl rfl (Nat.le_of_ble_eq_true rfl) dX7_mark_85 (fun H locs hP hD hS => ?_)
          have hP : va_P D vwCl [((x 0), .inr (7, o7 x ((u_this.1 + (11)), u_this.2.1, u_this.2.2.1, u_this.2.2.2.1, u_this.2.2.2.2.1, u_this.2.2.2.2.2.1, u_this.2.2.2.2.2.2.1, u_this.2.2.2.2.2.2.2.1, u_this.2.2.2.2.2.2.2.2.1, u_this.2.2.2.2.2.2.2.2.2.1, u_this.2.2.2.2.2.2.2.2.2.2.1, u_this.2.2.2.2.2.2.2.2.2.2.2))), ((x 2), .inl (T.1, 22, .inl u_this_told)), ((x 3), .inl (T.1, 11, .inl r3.1)), ((x 4), .inl (T.1, 7, .inl r3.2)), ((x 5), .inl (T.1, 21, .inl u_this_nows)), ((x 10), .inl (T.1, 6, .inl u_this_chances))] H := hP
          have hD : va_D A [((x 0), .inr (7, o7 x ((u_this.1 + (11)), u_this.2.1, u_this.2.2.1, u_this.2.2.2.1, u_this.2.2.2.2.1, u_this.2.2.2.2.2.1, u_this.2.2.2.2.2.2.1, u_this.2.2.2.2.2.2.2.1, u_this.2.2.2.2.2.2.2.2.1, u_this.2.2.2.2.2.2.2.2.2.1, u_this.2.2.2.2.2.2.2.2.2.2.1, u_this.2.2.2.2.2.2.2.2.2.2.2))), ((x 2), .inl (T.1, 22, .inl u_this_told)), ((x 3), .inl (T.1, 11, .inl r3.1)), ((x 4), .inl (T.1, 7, .inl r3.2)), ((x 5), .inl (T.1, 21, .inl u_this_nows)), ((x 10), .inl (T.1, 6, .inl u_this_chances))] := hD
          refine lv_iload_n hx hb dX7_mark_88 rfl (lv_at hl 0 rfl) ?_
          refine lv_aload_n hx hb dX7_mark_89 rfl (lv_at hl 1 rfl) ?_
          refine va_get (D := D) (ci := 7) (v := .ref (x 5)) (C := RX7) (T := TX7) (N := 30) hx hb hts (fun w h => List.mem_cons_of_mem _ (List.mem_append_right _ h)) hown hK hP 0 rfl rfl 11 (by decide) (hts _ (List.mem_of_getElem? (i := 5) rfl)) (fun _ h9 => h9) rfl dX7_mark_90 ?_
          refine lv_iconst (v := 1) hx hb dX7_mark_93 (by decide) ?_
          refine xald (v := (u_this_nows 1)) hx hb hK hP 4 0 rfl rfl (xin_vp (by decide)) (congrArg _ (show (1 : Int32).toNatClampNeg = 1 by decide)) dX7_mark_94 ?_
          refine lv_iadd hx hb dX7_mark_95 ?_
          obtain rfl := Option.some.inj hM
          exact xreti hx hb hr hlocks hP hK hD hS dX7_mark_96 rfl
        · have hM := xif c6 hM
          by_cases c7 : p1 = 2
          · have hM := xit c7 hM
            refine lv_tableIn (off := 66) (tgt := 97) hx hb dX7_mark_31 (by rw [c7]; decide) (by rw [c7]; decide) (by rw [c7]; rfl) (by decide) ?_
            refine lv_aload_n hx hb dX7_mark_97 rfl (lv_at hl 1 rfl) ?_
            refine lv_dup hx hb dX7_mark_98 rfl ?_
            refine va_get (D := D) (ci := 7) (v := .long u_this.1) (C := RX7) (T := TX7) (N := 30) hx hb hts (fun w h => List.mem_cons_of_mem _ (List.mem_append_right _ h)) hown hK hP 0 rfl rfl 0 (by decide) (hts _ (List.mem_of_getElem? (i := 3) rfl)) (fun _ h9 => h9) rfl dX7_mark_99 ?_
            refine lv_ldc2 (v := 101) hx hb hown (hts _ (List.mem_of_getElem? (i := 6) rfl)) dX7_mark_102 ?_
            refine lv_ladd hx hb dX7_mark_105 ?_
            refine va_put (D := D) (ci := 7) (v := .long (u_this.1 + (101))) (C := RX7) (T := TX7) (N := 30) hx hb hts (fun w h => List.mem_cons_of_mem _ (List.mem_append_right _ h)) tyX7 tyX7_ok nmX7 hown hK hP hD hS 0 rfl rfl 0 (by decide) (hts _ (List.mem_of_getElem? (i := 3) rfl)) (fun _ h9 => h9) rfl (tyX7_ok 0 (by decide)) rfl rfl (Nat.le_of_ble_eq_true rfl) dX7_mark_106 (fun H locs hP hD hS => ?_)
            have hP : va_P D vwCl [((x 0), .inr (7, o7 x ((u_this.1 + (101)), u_this.2.1, u_this.2.2.1, u_this.2.2.2.1, u_this.2.2.2.2.1, u_this.2.2.2.2.2.1, u_this.2.2.2.2.2.2.1, u_this.2.2.2.2.2.2.2.1, u_this.2.2.2.2.2.2.2.2.1, u_this.2.2.2.2.2.2.2.2.2.1, u_this.2.2.2.2.2.2.2.2.2.2.1, u_this.2.2.2.2.2.2.2.2.2.2.2))), ((x 2), .inl (T.1, 22, .inl u_this_told)), ((x 3), .inl (T.1, 11, .inl r3.1)), ((x 4), .inl (T.1, 7, .inl r3.2)), ((x 5), .inl (T.1, 21, .inl u_this_nows)), ((x 10), .inl (T.1, 6, .inl u_this_chances))] H := hP
            have hD : va_D A [((x 0), .inr (7, o7 x ((u_this.1 + (101)), u_this.2.1, u_this.2.2.1, u_this.2.2.2.1, u_this.2.2.2.2.1, u_this.2.2.2.2.2.1, u_this.2.2.2.2.2.2.1, u_this.2.2.2.2.2.2.2.1, u_this.2.2.2.2.2.2.2.2.1, u_this.2.2.2.2.2.2.2.2.2.1, u_this.2.2.2.2.2.2.2.2.2.2.1, u_this.2.2.2.2.2.2.2.2.2.2.2))), ((x 2), .inl (T.1, 22, .inl u_this_told)), ((x 3), .inl (T.1, 11, .inl r3.1)), ((x 4), .inl (T.1, 7, .inl r3.2)), ((x 5), .inl (T.1, 21, .inl u_this_nows)), ((x 10), .inl (T.1, 6, .inl u_this_chances))] := hD
            refine lv_iload_n hx hb dX7_mark_109 rfl (lv_at hl 0 rfl) ?_
            refine lv_aload_n hx hb dX7_mark_110 rfl (lv_at hl 1 rfl) ?_
            refine va_get (D := D) (ci := 7) (v := .ref (x 5)) (C := RX7) (T := TX7) (N := 30) hx hb hts (fun w h => List.mem_cons_of_mem _ (List.mem_append_right _ h)) hown hK hP 0 rfl rfl 11 (by decide) (hts _ (List.mem_of_getElem? (i := 5) rfl)) (fun _ h9 => h9) rfl dX7_mark_111 ?_
            refine lv_iconst (v := 0) hx hb dX7_mark_114 (by decide) ?_
            refine xald (v := (u_this_nows 0)) hx hb hK hP 4 0 rfl rfl (xin_vp (by decide)) (congrArg _ (show (0 : Int32).toNatClampNeg = 0 by decide)) dX7_mark_115 ?_
            refine lv_isub hx hb dX7_mark_116 ?_
            obtain rfl := Option.some.inj hM
            exact xreti hx hb hr hlocks hP hK hD hS dX7_mark_117 rfl
          · have hM := xif c7 hM
            by_cases c8 : p1 = 3
            · have hM := xit c8 hM
              refine lv_tableIn (off := 87) (tgt := 118) hx hb dX7_mark_31 (by rw [c8]; decide) (by rw [c8]; decide) (by rw [c8]; rfl) (by decide) ?_
              refine lv_aload_n hx hb dX7_mark_118 rfl (lv_at hl 1 rfl) ?_
              refine lv_dup hx hb dX7_mark_119 rfl ?_
              refine va_get (D := D) (ci := 7) (v := .long u_this.1) (C := RX7) (T := TX7) (N := 30) hx hb hts (fun w h => List.mem_cons_of_mem _ (List.mem_append_right _ h)) hown hK hP 0 rfl rfl 0 (by decide) (hts _ (List.mem_of_getElem? (i := 3) rfl)) (fun _ h9 => h9) rfl dX7_mark_120 ?_
              refine lv_ldc2 (v := 1101) hx hb hown (hts _ (List.mem_of_getElem? (i := 7) rfl)) dX7_mark_123 ?_
              refine lv_ladd hx hb dX7_mark_126 ?_
              refine va_put (D := D) (ci := 7) (v := .long (u_this.1 + (1101))) (C := RX7) (T := TX7) (N := 30) hx hb hts (fun w h => List.mem_cons_of_mem _ (List.mem_append_right _ h)) tyX7 tyX7_ok nmX7 hown hK hP hD hS 0 rfl rfl 0 (by decide) (hts _ (List.mem_of_getElem? (i := 3) rfl)) (fun _ h9 => h9) rfl (tyX7_ok 0 (by decide)) rfl rfl (Nat.le_of_ble_eq_true rfl) dX7_mark_127 (fun H locs hP hD hS => ?_)
              have hP : va_P D vwCl [((x 0), .inr (7, o7 x ((u_this.1 + (1101)), u_this.2.1, u_this.2.2.1, u_this.2.2.2.1, u_this.2.2.2.2.1, u_this.2.2.2.2.2.1, u_this.2.2.2.2.2.2.1, u_this.2.2.2.2.2.2.2.1, u_this.2.2.2.2.2.2.2.2.1, u_this.2.2.2.2.2.2.2.2.2.1, u_this.2.2.2.2.2.2.2.2.2.2.1, u_this.2.2.2.2.2.2.2.2.2.2.2))), ((x 2), .inl (T.1, 22, .inl u_this_told)), ((x 3), .inl (T.1, 11, .inl r3.1)), ((x 4), .inl (T.1, 7, .inl r3.2)), ((x 5), .inl (T.1, 21, .inl u_this_nows)), ((x 10), .inl (T.1, 6, .inl u_this_chances))] H := hP
              have hD : va_D A [((x 0), .inr (7, o7 x ((u_this.1 + (1101)), u_this.2.1, u_this.2.2.1, u_this.2.2.2.1, u_this.2.2.2.2.1, u_this.2.2.2.2.2.1, u_this.2.2.2.2.2.2.1, u_this.2.2.2.2.2.2.2.1, u_this.2.2.2.2.2.2.2.2.1, u_this.2.2.2.2.2.2.2.2.2.1, u_this.2.2.2.2.2.2.2.2.2.2.1, u_this.2.2.2.2.2.2.2.2.2.2.2))), ((x 2), .inl (T.1, 22, .inl u_this_told)), ((x 3), .inl (T.1, 11, .inl r3.1)), ((x 4), .inl (T.1, 7, .inl r3.2)), ((x 5), .inl (T.1, 21, .inl u_this_nows)), ((x 10), .inl (T.1, 6, .inl u_this_chances))] := hD
              refine lv_iconst (v := 2) hx hb dX7_mark_130 (by decide) ?_
              refine lv_iload_n hx hb dX7_mark_131 rfl (lv_at hl 0 rfl) ?_
              refine lv_aload_n hx hb dX7_mark_132 rfl (lv_at hl 1 rfl) ?_
              refine va_get (D := D) (ci := 7) (v := .ref (x 5)) (C := RX7) (T := TX7) (N := 30) hx hb hts (fun w h => List.mem_cons_of_mem _ (List.mem_append_right _ h)) hown hK hP 0 rfl rfl 11 (by decide) (hts _ (List.mem_of_getElem? (i := 5) rfl)) (fun _ h9 => h9) rfl dX7_mark_133 ?_
              refine lv_iconst (v := 0) hx hb dX7_mark_136 (by decide) ?_
              refine xald (v := (u_this_nows 0)) hx hb hK hP 4 0 rfl rfl (xin_vp (by decide)) (congrArg _ (show (0 : Int32).toNatClampNeg = 0 by decide)) dX7_mark_137 ?_
              refine lv_isub hx hb dX7_mark_138 ?_
              refine lv_imul hx hb dX7_mark_139 ?_
              obtain rfl := Option.some.inj hM
              exact xreti hx hb hr hlocks hP hK hD hS dX7_mark_140 rfl
            · have hM := xif c8 hM
              by_cases c9 : p1 = 4
              · have hM := xit c9 hM
                refine lv_tableIn (off := 110) (tgt := 141) hx hb dX7_mark_31 (by rw [c9]; decide) (by rw [c9]; decide) (by rw [c9]; rfl) (by decide) ?_
                refine lv_aload_n hx hb dX7_mark_141 rfl (lv_at hl 1 rfl) ?_
                refine lv_dup hx hb dX7_mark_142 rfl ?_
                refine va_get (D := D) (ci := 7) (v := .long u_this.1) (C := RX7) (T := TX7) (N := 30) hx hb hts (fun w h => List.mem_cons_of_mem _ (List.mem_append_right _ h)) hown hK hP 0 rfl rfl 0 (by decide) (hts _ (List.mem_of_getElem? (i := 3) rfl)) (fun _ h9 => h9) rfl dX7_mark_143 ?_
                refine lv_ldc2 (v := 10011) hx hb hown (hts _ (List.mem_of_getElem? (i := 8) rfl)) dX7_mark_146 ?_
                refine lv_ladd hx hb dX7_mark_149 ?_
                refine va_put (D := D) (ci := 7) (v := .long (u_this.1 + (10011))) (C := RX7) (T := TX7) (N := 30) hx hb hts (fun w h => List.mem_cons_of_mem _ (List.mem_append_right _ h)) tyX7 tyX7_ok nmX7 hown hK hP hD hS 0 rfl rfl 0 (by decide) (hts _ (List.mem_of_getElem? (i := 3) rfl)) (fun _ h9 => h9) rfl (tyX7_ok 0 (by decide)) rfl rfl (Nat.le_of_ble_eq_true rfl) dX7_mark_150 (fun H locs hP hD hS => ?_)
                have hP : va_P D vwCl [((x 0), .inr (7, o7 x ((u_this.1 + (10011)), u_this.2.1, u_this.2.2.1, u_this.2.2.2.1, u_this.2.2.2.2.1, u_this.2.2.2.2.2.1, u_this.2.2.2.2.2.2.1, u_this.2.2.2.2.2.2.2.1, u_this.2.2.2.2.2.2.2.2.1, u_this.2.2.2.2.2.2.2.2.2.1, u_this.2.2.2.2.2.2.2.2.2.2.1, u_this.2.2.2.2.2.2.2.2.2.2.2))), ((x 2), .inl (T.1, 22, .inl u_this_told)), ((x 3), .inl (T.1, 11, .inl r3.1)), ((x 4), .inl (T.1, 7, .inl r3.2)), ((x 5), .inl (T.1, 21, .inl u_this_nows)), ((x 10), .inl (T.1, 6, .inl u_this_chances))] H := hP
                have hD : va_D A [((x 0), .inr (7, o7 x ((u_this.1 + (10011)), u_this.2.1, u_this.2.2.1, u_this.2.2.2.1, u_this.2.2.2.2.1, u_this.2.2.2.2.2.1, u_this.2.2.2.2.2.2.1, u_this.2.2.2.2.2.2.2.1, u_this.2.2.2.2.2.2.2.2.1, u_this.2.2.2.2.2.2.2.2.2.1, u_this.2.2.2.2.2.2.2.2.2.2.1, u_this.2.2.2.2.2.2.2.2.2.2.2))), ((x 2), .inl (T.1, 22, .inl u_this_told)), ((x 3), .inl (T.1, 11, .inl r3.1)), ((x 4), .inl (T.1, 7, .inl r3.2)), ((x 5), .inl (T.1, 21, .inl u_this_nows)), ((x 10), .inl (T.1, 6, .inl u_this_chances))] := hD
                refine lv_iload_n hx hb dX7_mark_153 rfl (lv_at hl 0 rfl) ?_
                refine lv_aload_n hx hb dX7_mark_154 rfl (lv_at hl 1 rfl) ?_
                refine va_get (D := D) (ci := 7) (v := .ref (x 5)) (C := RX7) (T := TX7) (N := 30) hx hb hts (fun w h => List.mem_cons_of_mem _ (List.mem_append_right _ h)) hown hK hP 0 rfl rfl 11 (by decide) (hts _ (List.mem_of_getElem? (i := 5) rfl)) (fun _ h9 => h9) rfl dX7_mark_155 ?_
                refine lv_iconst (v := 1) hx hb dX7_mark_158 (by decide) ?_
                refine xald (v := (u_this_nows 1)) hx hb hK hP 4 0 rfl rfl (xin_vp (by decide)) (congrArg _ (show (1 : Int32).toNatClampNeg = 1 by decide)) dX7_mark_159 ?_
                refine lv_iadd hx hb dX7_mark_160 ?_
                refine lv_iload_n hx hb dX7_mark_161 rfl (lv_at hl 3 rfl) ?_
                refine lv_iadd hx hb dX7_mark_162 ?_
                obtain rfl := Option.some.inj hM
                exact xreti hx hb hr hlocks hP hK hD hS dX7_mark_163 rfl
              · have hM := xif c9 hM
                refine lv_tableOut (tgt := 164) hx hb dX7_mark_31 (by have q0 := xsw c5 (show (0 : Int32).toInt = 0 by decide); have q1 := xsw c6 (show (1 : Int32).toInt = 1 by decide); have q2 := xsw c7 (show (2 : Int32).toInt = 2 by decide); have q3 := xsw c8 (show (3 : Int32).toInt = 3 by decide); have q4 := xsw c9 (show (4 : Int32).toInt = 4 by decide); omega) (by decide) ?_
                refine lv_aload_n hx hb dX7_mark_164 rfl (lv_at hl 1 rfl) ?_
                refine lv_dup hx hb dX7_mark_165 rfl ?_
                refine va_get (D := D) (ci := 7) (v := .long u_this.1) (C := RX7) (T := TX7) (N := 30) hx hb hts (fun w h => List.mem_cons_of_mem _ (List.mem_append_right _ h)) hown hK hP 0 rfl rfl 0 (by decide) (hts _ (List.mem_of_getElem? (i := 3) rfl)) (fun _ h9 => h9) rfl dX7_mark_166 ?_
                refine lv_ldc2 (v := 100001) hx hb hown (hts _ (List.mem_of_getElem? (i := 9) rfl)) dX7_mark_169 ?_
                refine lv_ladd hx hb dX7_mark_172 ?_
                refine va_put (D := D) (ci := 7) (v := .long (u_this.1 + (100001))) (C := RX7) (T := TX7) (N := 30) hx hb hts (fun w h => List.mem_cons_of_mem _ (List.mem_append_right _ h)) tyX7 tyX7_ok nmX7 hown hK hP hD hS 0 rfl rfl 0 (by decide) (hts _ (List.mem_of_getElem? (i := 3) rfl)) (fun _ h9 => h9) rfl (tyX7_ok 0 (by decide)) rfl rfl (Nat.le_of_ble_eq_true rfl) dX7_mark_173 (fun H locs hP hD hS => ?_)
                have hP : va_P D vwCl [((x 0), .inr (7, o7 x ((u_this.1 + (100001)), u_this.2.1, u_this.2.2.1, u_this.2.2.2.1, u_this.2.2.2.2.1, u_this.2.2.2.2.2.1, u_this.2.2.2.2.2.2.1, u_this.2.2.2.2.2.2.2.1, u_this.2.2.2.2.2.2.2.2.1, u_this.2.2.2.2.2.2.2.2.2.1, u_this.2.2.2.2.2.2.2.2.2.2.1, u_this.2.2.2.2.2.2.2.2.2.2.2))), ((x 2), .inl (T.1, 22, .inl u_this_told)), ((x 3), .inl (T.1, 11, .inl r3.1)), ((x 4), .inl (T.1, 7, .inl r3.2)), ((x 5), .inl (T.1, 21, .inl u_this_nows)), ((x 10), .inl (T.1, 6, .inl u_this_chances))] H := hP
                have hD : va_D A [((x 0), .inr (7, o7 x ((u_this.1 + (100001)), u_this.2.1, u_this.2.2.1, u_this.2.2.2.1, u_this.2.2.2.2.1, u_this.2.2.2.2.2.1, u_this.2.2.2.2.2.2.1, u_this.2.2.2.2.2.2.2.1, u_this.2.2.2.2.2.2.2.2.1, u_this.2.2.2.2.2.2.2.2.2.1, u_this.2.2.2.2.2.2.2.2.2.2.1, u_this.2.2.2.2.2.2.2.2.2.2.2))), ((x 2), .inl (T.1, 22, .inl u_this_told)), ((x 3), .inl (T.1, 11, .inl r3.1)), ((x 4), .inl (T.1, 7, .inl r3.2)), ((x 5), .inl (T.1, 21, .inl u_this_nows)), ((x 10), .inl (T.1, 6, .inl u_this_chances))] := hD
                refine lv_iload_n hx hb dX7_mark_176 rfl (lv_at hl 0 rfl) ?_
                refine lv_aload_n hx hb dX7_mark_177 rfl (lv_at hl 1 rfl) ?_
                obtain ⟨r10, er10, hM⟩ := xbd hM
                refine xafti (rv := r10) (W2 := [((x 0), .inr (7, o7 x ((u_this.1 + (100001)), u_this.2.1, u_this.2.2.1, u_this.2.2.2.1, u_this.2.2.2.2.1, u_this.2.2.2.2.2.1, u_this.2.2.2.2.2.2.1, u_this.2.2.2.2.2.2.2.1, u_this.2.2.2.2.2.2.2.2.1, u_this.2.2.2.2.2.2.2.2.2.1, u_this.2.2.2.2.2.2.2.2.2.2.1, u_this.2.2.2.2.2.2.2.2.2.2.2))), ((x 2), .inl (T.1, 22, .inl u_this_told)), ((x 3), .inl (T.1, 11, .inl r3.1)), ((x 4), .inl (T.1, 7, .inl r3.2)), ((x 5), .inl (T.1, 21, .inl u_this_nows)), ((x 10), .inl (T.1, 6, .inl u_this_chances))]) (va_runV (As := []) (rest := [.int (u_this_chances p2.toNatClampNeg)]) ⟨hx, hb, hml, hown, hts⟩ (c_X7_depth l D T x ((u_this.1 + (100001)), u_this.2.1, u_this.2.2.1, u_this.2.2.2.1, u_this.2.2.2.2.1, u_this.2.2.2.2.2.1, u_this.2.2.2.2.2.2.1, u_this.2.2.2.2.2.2.2.1, u_this.2.2.2.2.2.2.2.2.1, u_this.2.2.2.2.2.2.2.2.2.1, u_this.2.2.2.2.2.2.2.2.2.2.1, u_this.2.2.2.2.2.2.2.2.2.2.2) r3.1 r3.2 er10) (cwV 0 hts gX7_mark_X7_depth rfl rfl rfl (by decide +kernel) ⟨Nat.le_of_ble_eq_true rfl, Nat.le_of_ble_eq_true rfl⟩) (xpvv hP hD hK [0, 2, 3] (by decide) rfl 0 7 rfl rfl (fun _ _ _ => trivial) (fun _ _ _ _ _ _ => trivial)) rfl rfl hl.1 rfl (lv_room (Nat.le_of_ble_eq_true rfl)) dX7_mark_178 ⟨Nat.le_of_ble_eq_true rfl, Nat.le_of_ble_eq_true rfl⟩) hP hD hS hA [0, 2, 3] rfl rfl rfl rfl (fun H locs hP hD hS => ?_)
                refine lv_iadd hx hb dX7_mark_181 ?_
                obtain rfl := Option.some.inj hM
                exact xreti hx hb hr hlocks hP hK hD hS dX7_mark_182 rfl
    · have hM := xit c2 hM
      refine lv_ldc (v := (-1000000)) hx hb hown (hts _ (List.mem_of_getElem? (i := 1) rfl)) dX7_mark_16 ?_
      obtain rfl := Option.some.inj hM
      exact xreti hx hb hr hlocks hP hK hD hS dX7_mark_18 rfl
def s_X7_copy_2 (p1 : Int32) (p2 : Int32) (v1 : Int32 × (Nat → Int32)) : Option ((Int32 × (Nat → Int32)) ⊕ (Int32 × (Nat → Int32))) :=
  if (7) ≤ v1.1 then
   (some (.inr (v1.1, v1.2)))
  else
   (if xin (((7) * p1) + v1.1) 21 = true then
    (if xin (((7) * p2) + v1.1) 21 = true then
     (some (.inl (v1.1 + 1, (upd v1.2 ((((7) * p2) + v1.1).toNatClampNeg) (v1.2 (((7) * p1) + v1.1).toNatClampNeg)))))
     else none)
    else none)
def f_X7_copy (N : Nat) (u_this : K7) (u_this_nows : (Nat → Int32)) (p1 : Int32) (p2 : Int32) : Option ((Nat → Int32)) :=
  (xlp (s_X7_copy_2 p1 p2) N (0, u_this_nows)).bind fun v5 =>
  some v5.2
set_option maxHeartbeats 4000000 in
set_option maxRecDepth 100000 in
theorem c_X7_copy (l : Launch) (D : va_G) (T : xT) (x : Nat → Nat) {sz : Nat} {N : Nat} (u_this : K7) (u_this_nows : (Nat → Int32)) (p1 : Int32) (p2 : Int32) {rv : (Nat → Int32)} (hM : f_X7_copy N u_this u_this_nows p1 p2 = some rv) : Met l yX7_copy wsX7_copy ({ frames := 0, cells := 0, slots := 0, locals := 0 } : Room) (va_Pc [.ref (x 0), .int p1, .int p2] (xPre D T [((x 0), .inr (7, o7 x u_this)), ((x 5), .inl (T.1, 21, .inl u_this_nows))] sz xE0)) (va_Qv (fun (_ : Unit) => True) (fun _ => xPost D T [((x 0), .inr (7, o7 x u_this)), ((x 5), .inl (T.1, 21, .inl rv))] (va_A [((x 0), .inr (7, o7 x u_this)), ((x 5), .inl (T.1, 21, .inl u_this_nows))] sz)) (va_A [((x 0), .inr (7, o7 x u_this)), ((x 5), .inl (T.1, 21, .inl u_this_nows))] sz)) 0 0 (va_A [((x 0), .inr (7, o7 x u_this)), ((x 5), .inl (T.1, 21, .inl u_this_nows))] sz) := by
  refine xMet (av := [.ref (x 0), .int p1, .int p2]) (Wd := [((x 0), .inr (7, o7 x u_this)), ((x 5), .inl (T.1, 21, .inl u_this_nows))]) (E := xE0) (Qc := fun A => (va_Qv (fun (_ : Unit) => True) (fun _ => xPost D T [((x 0), .inr (7, o7 x u_this)), ((x 5), .inl (T.1, 21, .inl rv))] A) A)) (cc := cX7_copy) (maxL := 4) (ret := none) (by decide) rfl (Nat.le_of_ble_eq_true rfl) ?_
  intro p e s m below meth c A ls hx hb hr hml hts hown hlocks hnm hP hK hD hS hA hE hl
  have hown : s.vm.findClass RX7 = some m.cls := hown
  have hl : lv_has ls 4 [(0, .ref (x 0)), (1, .int p1), (2, .int p2)] := hl
  unfold f_X7_copy at hM
  refine lv_iconst (v := 0) hx hb dX7_copy_0 (by decide) ?_
  refine lv_istore_n (lv' := [(3, .int (0)), (0, .ref (x 0)), (1, .int p1), (2, .int p2)]) hx hb dX7_copy_1 rfl hl (by decide) rfl (fun ls hl => ?_)
  obtain ⟨v5, hM, hNv5⟩ := xbd hM
  have hQv5 := hM
  have Kv5 : ∀ (H : Heap) (locs : List Loc) (ls : Array Slot), va_P D vwCl [((x 0), .inr (7, o7 x u_this)), ((x 5), .inl (T.1, 21, .inl v5.2))] H → va_D A [((x 0), .inr (7, o7 x u_this)), ((x 5), .inl (T.1, 21, .inl v5.2))] → va_S A s.heap H locs → lv_has ls 4 [] → W p l e ({ frames := 0, cells := 0, slots := 0, locals := 0 } : Room) s m ([.ref (x 0), .int p1, .int p2] : List Value).toArray below meth c H locs 0 0 (MQ below (va_Qv (fun (_ : Unit) => True) (fun _ => xPost D T [((x 0), .inr (7, o7 x u_this)), ((x 5), .inl (T.1, 21, .inl rv))] A) A) ([.ref (x 0), .int p1, .int p2] : List Value).toArray s 0 0 A) (F0 m 36 ls []) := by
    intro H locs ls hP hD hS hl
    have hM := hNv5
    obtain rfl := Option.some.inj hM
    exact xretv hx hb hr hlocks hP hK hD hS dX7_copy_36
  have Lv1 : ∀ (n : Nat) (v1 : Int32 × (Nat → Int32)), xlp (s_X7_copy_2 p1 p2) n v1 = some v5 → ∀ (H : Heap) (locs : List Loc) (ls : Array Slot), va_P D vwCl [((x 0), .inr (7, o7 x u_this)), ((x 5), .inl (T.1, 21, .inl v1.2))] H → va_D A [((x 0), .inr (7, o7 x u_this)), ((x 5), .inl (T.1, 21, .inl v1.2))] → va_S A s.heap H locs → lv_has ls 4 [(0, .ref (x 0)), (1, .int p1), (2, .int p2), (3, .int v1.1)] → W p l e ({ frames := 0, cells := 0, slots := 0, locals := 0 } : Room) s m ([.ref (x 0), .int p1, .int p2] : List Value).toArray below meth c H locs 0 0 (MQ below (va_Qv (fun (_ : Unit) => True) (fun _ => xPost D T [((x 0), .inr (7, o7 x u_this)), ((x 5), .inl (T.1, 21, .inl rv))] A) A) ([.ref (x 0), .int p1, .int p2] : List Value).toArray s 0 0 A) (F0 m 2 ls []) := by
    intro n
    induction n with
    | zero => exact fun _ h => (xlp_0 h).elim
    | succ n ih =>
      intro v1 hM H locs ls hP hD hS hl
      obtain ⟨z, hM, hz1, hz2⟩ := xlp_s hM
      unfold s_X7_copy_2 at hM
      refine lv_iload_n hx hb dX7_copy_2 rfl (lv_at hl 3 rfl) ?_
      refine lv_bipush (v := 7) hx hb dX7_copy_3 (by decide) ?_
      refine lv_icmp_ge (tgt := 36) hx hb dX7_copy_5 (by decide) (fun c2 => ?_) (fun c2 => ?_)
      · have hM := xit c2 hM
        obtain rfl := hz2 _ (Option.some.inj hM).symm
        exact Kv5 _ _ _ hP hD hS (lv_sub hl [] rfl)
      · have hM := xif c2 hM
        refine lv_aload_n hx hb dX7_copy_8 rfl (lv_at hl 0 rfl) ?_
        refine va_get (D := D) (ci := 7) (v := .ref (x 5)) (C := RX7) (T := TX7) (N := 30) hx hb hts (fun w h => List.mem_cons_of_mem _ (List.mem_append_right _ h)) hown hK hP 0 rfl rfl 11 (by decide) (hts _ (List.mem_of_getElem? (i := 1) rfl)) (fun _ h9 => h9) rfl dX7_copy_9 ?_
        refine lv_bipush (v := 7) hx hb dX7_copy_12 (by decide) ?_
        refine lv_iload_n hx hb dX7_copy_14 rfl (lv_at hl 2 rfl) ?_
        refine lv_imul hx hb dX7_copy_15 ?_
        refine lv_iload_n hx hb dX7_copy_16 rfl (lv_at hl 3 rfl) ?_
        refine lv_iadd hx hb dX7_copy_17 ?_
        refine lv_aload_n hx hb dX7_copy_18 rfl (lv_at hl 0 rfl) ?_
        refine va_get (D := D) (ci := 7) (v := .ref (x 5)) (C := RX7) (T := TX7) (N := 30) hx hb hts (fun w h => List.mem_cons_of_mem _ (List.mem_append_right _ h)) hown hK hP 0 rfl rfl 11 (by decide) (hts _ (List.mem_of_getElem? (i := 1) rfl)) (fun _ h9 => h9) rfl dX7_copy_19 ?_
        refine lv_bipush (v := 7) hx hb dX7_copy_22 (by decide) ?_
        refine lv_iload_n hx hb dX7_copy_24 rfl (lv_at hl 1 rfl) ?_
        refine lv_imul hx hb dX7_copy_25 ?_
        refine lv_iload_n hx hb dX7_copy_26 rfl (lv_at hl 3 rfl) ?_
        refine lv_iadd hx hb dX7_copy_27 ?_
        obtain ⟨g3, hM⟩ := xck hM
        refine xald (v := (v1.2 (((7) * p1) + v1.1).toNatClampNeg)) hx hb hK hP 1 0 rfl rfl g3 rfl dX7_copy_28 ?_
        obtain ⟨g4, hM⟩ := xck hM
        refine xast hx hb hK hP hD hS 1 0 rfl rfl g4 rfl dX7_copy_29 (fun H locs hP hD hS => ?_)
        have hP : va_P D vwCl [((x 0), .inr (7, o7 x u_this)), ((x 5), .inl (T.1, 21, .inl (upd v1.2 ((((7) * p2) + v1.1).toNatClampNeg) (v1.2 (((7) * p1) + v1.1).toNatClampNeg))))] H := hP
        have hD : va_D A [((x 0), .inr (7, o7 x u_this)), ((x 5), .inl (T.1, 21, .inl (upd v1.2 ((((7) * p2) + v1.1).toNatClampNeg) (v1.2 (((7) * p1) + v1.1).toNatClampNeg))))] := hD
        refine lv_iinc (v := v1.1 + 1) (lv' := [(3, .int (v1.1 + 1)), (0, .ref (x 0)), (1, .int p1), (2, .int p2)]) hx hb dX7_copy_30 hl (k := 3) rfl rfl (by decide) rfl (fun ls hl => ?_)
        refine lv_goto (tgt := 2) hx hb dX7_copy_33 (by decide) ?_
        exact ih _ (hz1 _ (Option.some.inj hM).symm) _ _ _ hP hD hS (lv_sub hl [1, 2, 3, 0] rfl)
  exact Lv1 _ _ hM _ _ _ hP hD hS (lv_sub hl [1, 2, 3, 0] rfl)
def f_X7_keep (N : Nat) (u_this : K7) (u_this_nows : (Nat → Int32)) (u_this_isKept : (Nat → Int32)) (p1 : Int32) : Option (Int32 × (Nat → Int32) × (Nat → Int32)) :=
  if (f_X7_in p1 (0) (1)) = (0) then
   (some ((-1), u_this_nows, u_this_isKept))
  else
   ((f_X7_copy N u_this u_this_nows (0) ((1) + p1)).bind fun r2 =>
    if xin p1 2 = true then
    (some ((r2 0), r2, (upd u_this_isKept p1.toNatClampNeg (1))))
    else none)
set_option maxHeartbeats 4000000 in
set_option maxRecDepth 100000 in
theorem c_X7_keep (l : Launch) (D : va_G) (T : xT) (x : Nat → Nat) {sz : Nat} {N : Nat} (u_this : K7) (u_this_nows : (Nat → Int32)) (u_this_isKept : (Nat → Int32)) (p1 : Int32) {rv : Int32 × (Nat → Int32) × (Nat → Int32)} (hM : f_X7_keep N u_this u_this_nows u_this_isKept p1 = some rv) : Met l yX7_keep wsX7_keep ({ frames := 1, cells := 0, slots := 0, locals := 23 } : Room) (va_Pc [.ref (x 0), .int p1] (xPre D T [((x 0), .inr (7, o7 x u_this)), ((x 5), .inl (T.1, 21, .inl u_this_nows)), ((x 6), .inl (T.2.2.1, 2, .inl u_this_isKept))] sz xE0)) (va_Qi (fun (r : Int32) (_ : Unit) => r = rv.1) (fun _ => xPost D T [((x 0), .inr (7, o7 x u_this)), ((x 5), .inl (T.1, 21, .inl rv.2.1)), ((x 6), .inl (T.2.2.1, 2, .inl rv.2.2))] (va_A [((x 0), .inr (7, o7 x u_this)), ((x 5), .inl (T.1, 21, .inl u_this_nows)), ((x 6), .inl (T.2.2.1, 2, .inl u_this_isKept))] sz)) (va_A [((x 0), .inr (7, o7 x u_this)), ((x 5), .inl (T.1, 21, .inl u_this_nows)), ((x 6), .inl (T.2.2.1, 2, .inl u_this_isKept))] sz)) 0 0 (va_A [((x 0), .inr (7, o7 x u_this)), ((x 5), .inl (T.1, 21, .inl u_this_nows)), ((x 6), .inl (T.2.2.1, 2, .inl u_this_isKept))] sz) := by
  refine xMet (av := [.ref (x 0), .int p1]) (Wd := [((x 0), .inr (7, o7 x u_this)), ((x 5), .inl (T.1, 21, .inl u_this_nows)), ((x 6), .inl (T.2.2.1, 2, .inl u_this_isKept))]) (E := xE0) (Qc := fun A => (va_Qi (fun (r : Int32) (_ : Unit) => r = rv.1) (fun _ => xPost D T [((x 0), .inr (7, o7 x u_this)), ((x 5), .inl (T.1, 21, .inl rv.2.1)), ((x 6), .inl (T.2.2.1, 2, .inl rv.2.2))] A) A)) (cc := cX7_keep) (maxL := 2) (ret := (some .int)) (by decide) rfl (Nat.le_of_ble_eq_true rfl) ?_
  intro p e s m below meth c A ls hx hb hr hml hts hown hlocks hnm hP hK hD hS hA hE hl
  have hown : s.vm.findClass RX7 = some m.cls := hown
  have hl : lv_has ls 2 [(0, .ref (x 0)), (1, .int p1)] := hl
  unfold f_X7_keep at hM
  refine lv_iload_n hx hb dX7_keep_0 rfl (lv_at hl 1 rfl) ?_
  refine lv_iconst (v := 0) hx hb dX7_keep_1 (by decide) ?_
  refine lv_iconst (v := 1) hx hb dX7_keep_2 (by decide) ?_
  refine xafti (rv := (f_X7_in p1 (0) (1))) (W2 := [((x 0), .inr (7, o7 x u_this)), ((x 5), .inl (T.1, 21, .inl u_this_nows)), ((x 6), .inl (T.2.2.1, 2, .inl u_this_isKept))]) (va_runS (As := [.int p1, .int (0), .int (1)]) (rest := []) ⟨hx, hb, hml, hown, hts⟩ (c_X7_in (rv := (f_X7_in p1 (0) (1))) l D T p1 (0) (1) rfl) (cwS 3 hts gX7_keep_X7_in rfl rfl rfl (by decide +kernel) ⟨Nat.le_of_ble_eq_true rfl, Nat.le_of_ble_eq_true rfl⟩) (xpvs hP hD hK [] (by decide) rfl (fun _ _ _ => trivial) (fun _ _ _ _ _ _ => trivial)) rfl rfl hl.1 rfl (lv_room (Nat.le_of_ble_eq_true rfl)) dX7_keep_3 ⟨Nat.le_of_ble_eq_true rfl, Nat.le_of_ble_eq_true rfl⟩) hP hD hS hA [] rfl rfl rfl rfl (fun H locs hP hD hS => ?_)
  refine lv_if_ne (tgt := 11) hx hb dX7_keep_6 (by decide) (fun c1 => ?_) (fun c1 => ?_)
  · have hM := xif c1 hM
    refine lv_aload_n hx hb dX7_keep_11 rfl (lv_at hl 0 rfl) ?_
    refine lv_iconst (v := 0) hx hb dX7_keep_12 (by decide) ?_
    refine lv_iconst (v := 1) hx hb dX7_keep_13 (by decide) ?_
    refine lv_iload_n hx hb dX7_keep_14 rfl (lv_at hl 1 rfl) ?_
    refine lv_iadd hx hb dX7_keep_15 ?_
    obtain ⟨r2, er2, hM⟩ := xbd hM
    refine xaftv (W2 := [((x 0), .inr (7, o7 x u_this)), ((x 5), .inl (T.1, 21, .inl r2)), ((x 6), .inl (T.2.2.1, 2, .inl u_this_isKept))]) (va_runV (As := [.int (0), .int ((1) + p1)]) (rest := []) ⟨hx, hb, hml, hown, hts⟩ (c_X7_copy l D T x u_this u_this_nows (0) ((1) + p1) er2) (cwV 2 hts gX7_keep_X7_copy rfl rfl rfl (by decide +kernel) ⟨Nat.le_of_ble_eq_true rfl, Nat.le_of_ble_eq_true rfl⟩) (xpvv hP hD hK [0, 1] (by decide) rfl 0 7 rfl rfl (fun _ _ _ => trivial) (fun _ _ _ _ _ _ => trivial)) rfl rfl hl.1 rfl (lv_room (Nat.le_of_ble_eq_true rfl)) dX7_keep_16 ⟨Nat.le_of_ble_eq_true rfl, Nat.le_of_ble_eq_true rfl⟩) hP hD hS hA [0, 1] rfl rfl rfl rfl (fun H locs hP hD hS => ?_)
    refine lv_aload_n hx hb dX7_keep_19 rfl (lv_at hl 0 rfl) ?_
    refine va_get (D := D) (ci := 7) (v := .ref (x 6)) (C := RX7) (T := TX7) (N := 30) hx hb hts (fun w h => List.mem_cons_of_mem _ (List.mem_append_right _ h)) hown hK hP 0 rfl rfl 12 (by decide) (hts _ (List.mem_of_getElem? (i := 1) rfl)) (fun _ h9 => h9) rfl dX7_keep_20 ?_
    refine lv_iload_n hx hb dX7_keep_23 rfl (lv_at hl 1 rfl) ?_
    refine lv_iconst (v := 1) hx hb dX7_keep_24 (by decide) ?_
    obtain ⟨g3, hM⟩ := xck hM
    refine xzst hx hb hK hP hD hS 2 2 rfl rfl g3 rfl (y := 1) (by decide) dX7_keep_25 (fun H locs hP hD hS => ?_)
    have hP : va_P D vwCl [((x 0), .inr (7, o7 x u_this)), ((x 5), .inl (T.1, 21, .inl r2)), ((x 6), .inl (T.2.2.1, 2, .inl (upd u_this_isKept p1.toNatClampNeg (1))))] H := hP
    have hD : va_D A [((x 0), .inr (7, o7 x u_this)), ((x 5), .inl (T.1, 21, .inl r2)), ((x 6), .inl (T.2.2.1, 2, .inl (upd u_this_isKept p1.toNatClampNeg (1))))] := hD
    refine lv_aload_n hx hb dX7_keep_26 rfl (lv_at hl 0 rfl) ?_
    refine va_get (D := D) (ci := 7) (v := .ref (x 5)) (C := RX7) (T := TX7) (N := 30) hx hb hts (fun w h => List.mem_cons_of_mem _ (List.mem_append_right _ h)) hown hK hP 0 rfl rfl 11 (by decide) (hts _ (List.mem_of_getElem? (i := 2) rfl)) (fun _ h9 => h9) rfl dX7_keep_27 ?_
    refine lv_iconst (v := 0) hx hb dX7_keep_30 (by decide) ?_
    refine xald (v := (r2 0)) hx hb hK hP 1 0 rfl rfl (xin_vp (by decide)) (congrArg _ (show (0 : Int32).toNatClampNeg = 0 by decide)) dX7_keep_31 ?_
    obtain rfl := Option.some.inj hM
    exact xreti hx hb hr hlocks hP hK hD hS dX7_keep_32 rfl
  · have hM := xit c1 hM
    refine lv_iconst (v := (-1)) hx hb dX7_keep_9 (by decide) ?_
    obtain rfl := Option.some.inj hM
    exact xreti hx hb hr hlocks hP hK hD hS dX7_keep_10 rfl
def f_X7_back (N : Nat) (u_this : K7) (u_this_nows : (Nat → Int32)) (u_this_isKept : (Nat → Int32)) (p1 : Int32) : Option (Int32 × (Nat → Int32)) :=
  if (f_X7_in p1 (0) (1)) = (0) then
   (some ((-1), u_this_nows))
  else
   (if xin p1 2 = true then
    (if (u_this_isKept p1.toNatClampNeg) = (0) then
      (some ((-2), u_this_nows))
     else
      ((f_X7_copy N u_this u_this_nows ((1) + p1) (0)).bind fun r4 =>
       some ((r4 0), r4)))
    else none)
set_option maxHeartbeats 4000000 in
set_option maxRecDepth 100000 in
theorem c_X7_back (l : Launch) (D : va_G) (T : xT) (x : Nat → Nat) {sz : Nat} {N : Nat} (u_this : K7) (u_this_nows : (Nat → Int32)) (u_this_isKept : (Nat → Int32)) (p1 : Int32) {rv : Int32 × (Nat → Int32)} (hM : f_X7_back N u_this u_this_nows u_this_isKept p1 = some rv) : Met l yX7_back wsX7_back ({ frames := 1, cells := 0, slots := 0, locals := 23 } : Room) (va_Pc [.ref (x 0), .int p1] (xPre D T [((x 0), .inr (7, o7 x u_this)), ((x 5), .inl (T.1, 21, .inl u_this_nows)), ((x 6), .inl (T.2.2.1, 2, .inl u_this_isKept))] sz xE0)) (va_Qi (fun (r : Int32) (_ : Unit) => r = rv.1) (fun _ => xPost D T [((x 0), .inr (7, o7 x u_this)), ((x 5), .inl (T.1, 21, .inl rv.2)), ((x 6), .inl (T.2.2.1, 2, .inl u_this_isKept))] (va_A [((x 0), .inr (7, o7 x u_this)), ((x 5), .inl (T.1, 21, .inl u_this_nows)), ((x 6), .inl (T.2.2.1, 2, .inl u_this_isKept))] sz)) (va_A [((x 0), .inr (7, o7 x u_this)), ((x 5), .inl (T.1, 21, .inl u_this_nows)), ((x 6), .inl (T.2.2.1, 2, .inl u_this_isKept))] sz)) 0 0 (va_A [((x 0), .inr (7, o7 x u_this)), ((x 5), .inl (T.1, 21, .inl u_this_nows)), ((x 6), .inl (T.2.2.1, 2, .inl u_this_isKept))] sz) := by
  refine xMet (av := [.ref (x 0), .int p1]) (Wd := [((x 0), .inr (7, o7 x u_this)), ((x 5), .inl (T.1, 21, .inl u_this_nows)), ((x 6), .inl (T.2.2.1, 2, .inl u_this_isKept))]) (E := xE0) (Qc := fun A => (va_Qi (fun (r : Int32) (_ : Unit) => r = rv.1) (fun _ => xPost D T [((x 0), .inr (7, o7 x u_this)), ((x 5), .inl (T.1, 21, .inl rv.2)), ((x 6), .inl (T.2.2.1, 2, .inl u_this_isKept))] A) A)) (cc := cX7_back) (maxL := 2) (ret := (some .int)) (by decide) rfl (Nat.le_of_ble_eq_true rfl) ?_
  intro p e s m below meth c A ls hx hb hr hml hts hown hlocks hnm hP hK hD hS hA hE hl
  have hown : s.vm.findClass RX7 = some m.cls := hown
  have hl : lv_has ls 2 [(0, .ref (x 0)), (1, .int p1)] := hl
  unfold f_X7_back at hM
  refine lv_iload_n hx hb dX7_back_0 rfl (lv_at hl 1 rfl) ?_
  refine lv_iconst (v := 0) hx hb dX7_back_1 (by decide) ?_
  refine lv_iconst (v := 1) hx hb dX7_back_2 (by decide) ?_
  refine xafti (rv := (f_X7_in p1 (0) (1))) (W2 := [((x 0), .inr (7, o7 x u_this)), ((x 5), .inl (T.1, 21, .inl u_this_nows)), ((x 6), .inl (T.2.2.1, 2, .inl u_this_isKept))]) (va_runS (As := [.int p1, .int (0), .int (1)]) (rest := []) ⟨hx, hb, hml, hown, hts⟩ (c_X7_in (rv := (f_X7_in p1 (0) (1))) l D T p1 (0) (1) rfl) (cwS 3 hts gX7_back_X7_in rfl rfl rfl (by decide +kernel) ⟨Nat.le_of_ble_eq_true rfl, Nat.le_of_ble_eq_true rfl⟩) (xpvs hP hD hK [] (by decide) rfl (fun _ _ _ => trivial) (fun _ _ _ _ _ _ => trivial)) rfl rfl hl.1 rfl (lv_room (Nat.le_of_ble_eq_true rfl)) dX7_back_3 ⟨Nat.le_of_ble_eq_true rfl, Nat.le_of_ble_eq_true rfl⟩) hP hD hS hA [] rfl rfl rfl rfl (fun H locs hP hD hS => ?_)
  refine lv_if_ne (tgt := 11) hx hb dX7_back_6 (by decide) (fun c1 => ?_) (fun c1 => ?_)
  · have hM := xif c1 hM
    refine lv_aload_n hx hb dX7_back_11 rfl (lv_at hl 0 rfl) ?_
    refine va_get (D := D) (ci := 7) (v := .ref (x 6)) (C := RX7) (T := TX7) (N := 30) hx hb hts (fun w h => List.mem_cons_of_mem _ (List.mem_append_right _ h)) hown hK hP 0 rfl rfl 12 (by decide) (hts _ (List.mem_of_getElem? (i := 1) rfl)) (fun _ h9 => h9) rfl dX7_back_12 ?_
    refine lv_iload_n hx hb dX7_back_15 rfl (lv_at hl 1 rfl) ?_
    obtain ⟨g2, hM⟩ := xck hM
    refine xzld (v := (u_this_isKept p1.toNatClampNeg)) hx hb hK hP 2 2 rfl rfl g2 rfl dX7_back_16 ?_
    refine lv_if_ne (tgt := 23) hx hb dX7_back_17 (by decide) (fun c3 => ?_) (fun c3 => ?_)
    · have hM := xif c3 hM
      refine lv_aload_n hx hb dX7_back_23 rfl (lv_at hl 0 rfl) ?_
      refine lv_iconst (v := 1) hx hb dX7_back_24 (by decide) ?_
      refine lv_iload_n hx hb dX7_back_25 rfl (lv_at hl 1 rfl) ?_
      refine lv_iadd hx hb dX7_back_26 ?_
      refine lv_iconst (v := 0) hx hb dX7_back_27 (by decide) ?_
      obtain ⟨r4, er4, hM⟩ := xbd hM
      refine xaftv (W2 := [((x 0), .inr (7, o7 x u_this)), ((x 5), .inl (T.1, 21, .inl r4)), ((x 6), .inl (T.2.2.1, 2, .inl u_this_isKept))]) (va_runV (As := [.int ((1) + p1), .int (0)]) (rest := []) ⟨hx, hb, hml, hown, hts⟩ (c_X7_copy l D T x u_this u_this_nows ((1) + p1) (0) er4) (cwV 2 hts gX7_back_X7_copy rfl rfl rfl (by decide +kernel) ⟨Nat.le_of_ble_eq_true rfl, Nat.le_of_ble_eq_true rfl⟩) (xpvv hP hD hK [0, 1] (by decide) rfl 0 7 rfl rfl (fun _ _ _ => trivial) (fun _ _ _ _ _ _ => trivial)) rfl rfl hl.1 rfl (lv_room (Nat.le_of_ble_eq_true rfl)) dX7_back_28 ⟨Nat.le_of_ble_eq_true rfl, Nat.le_of_ble_eq_true rfl⟩) hP hD hS hA [0, 1] rfl rfl rfl rfl (fun H locs hP hD hS => ?_)
      refine lv_aload_n hx hb dX7_back_31 rfl (lv_at hl 0 rfl) ?_
      refine va_get (D := D) (ci := 7) (v := .ref (x 5)) (C := RX7) (T := TX7) (N := 30) hx hb hts (fun w h => List.mem_cons_of_mem _ (List.mem_append_right _ h)) hown hK hP 0 rfl rfl 11 (by decide) (hts _ (List.mem_of_getElem? (i := 2) rfl)) (fun _ h9 => h9) rfl dX7_back_32 ?_
      refine lv_iconst (v := 0) hx hb dX7_back_35 (by decide) ?_
      refine xald (v := (r4 0)) hx hb hK hP 1 0 rfl rfl (xin_vp (by decide)) (congrArg _ (show (0 : Int32).toNatClampNeg = 0 by decide)) dX7_back_36 ?_
      obtain rfl := Option.some.inj hM
      exact xreti hx hb hr hlocks hP hK hD hS dX7_back_37 rfl
    · have hM := xit c3 hM
      refine lv_bipush (v := (-2)) hx hb dX7_back_20 (by decide) ?_
      obtain rfl := Option.some.inj hM
      exact xreti hx hb hr hlocks hP hK hD hS dX7_back_22 rfl
  · have hM := xit c1 hM
    refine lv_iconst (v := (-1)) hx hb dX7_back_9 (by decide) ?_
    obtain rfl := Option.some.inj hM
    exact xreti hx hb hr hlocks hP hK hD hS dX7_back_10 rfl
def f_X7_count (u_this : K7) (p1 : Int32) : Int32 :=
  if p1 = (0) then
   (u_this.2.2.2.2.2.2.2.1)
  else
   (if p1 = (1) then
     (u_this.2.2.2.2.2.2.2.2.2.2.1)
    else
     (if p1 = (2) then
       (u_this.2.2.2.2.2.2.2.2.2.2.2)
      else
       (if p1 = (3) then
         (u_this.2.1)
        else
         ((-1)))))
set_option maxHeartbeats 4000000 in
set_option maxRecDepth 100000 in
theorem c_X7_count (l : Launch) (D : va_G) (T : xT) (x : Nat → Nat) {sz : Nat} (u_this : K7) (p1 : Int32) {rv : Int32} (hM : f_X7_count u_this p1 = rv) : Met l yX7_count wsX7_count ({ frames := 0, cells := 0, slots := 0, locals := 0 } : Room) (va_Pc [.ref (x 0), .int p1] (xPre D T [((x 0), .inr (7, o7 x u_this))] sz xE0)) (va_Qi (fun (r : Int32) (_ : Unit) => r = rv) (fun _ => xPost D T [((x 0), .inr (7, o7 x u_this))] (va_A [((x 0), .inr (7, o7 x u_this))] sz)) (va_A [((x 0), .inr (7, o7 x u_this))] sz)) 0 0 (va_A [((x 0), .inr (7, o7 x u_this))] sz) := by
  refine xMet (av := [.ref (x 0), .int p1]) (Wd := [((x 0), .inr (7, o7 x u_this))]) (E := xE0) (Qc := fun A => (va_Qi (fun (r : Int32) (_ : Unit) => r = rv) (fun _ => xPost D T [((x 0), .inr (7, o7 x u_this))] A) A)) (cc := cX7_count) (maxL := 2) (ret := (some .int)) (by decide) rfl (Nat.le_of_ble_eq_true rfl) ?_
  intro p e s m below meth c A ls hx hb hr hml hts hown hlocks hnm hP hK hD hS hA hE hl
  have hown : s.vm.findClass RX7 = some m.cls := hown
  have hl : lv_has ls 2 [(0, .ref (x 0)), (1, .int p1)] := hl
  unfold f_X7_count at hM
  refine lv_iload_n hx hb dX7_count_0 rfl (lv_at hl 1 rfl) ?_
  refine lv_if_ne (tgt := 11) hx hb dX7_count_1 (by decide) (fun c1 => ?_) (fun c1 => ?_)
  · have hM := xif c1 hM
    refine lv_iload_n hx hb dX7_count_11 rfl (lv_at hl 1 rfl) ?_
    refine lv_iconst (v := 1) hx hb dX7_count_12 (by decide) ?_
    refine lv_icmp_ne (tgt := 23) hx hb dX7_count_13 (by decide) (fun c2 => ?_) (fun c2 => ?_)
    · have hM := xif c2 hM
      refine lv_iload_n hx hb dX7_count_23 rfl (lv_at hl 1 rfl) ?_
      refine lv_iconst (v := 2) hx hb dX7_count_24 (by decide) ?_
      refine lv_icmp_ne (tgt := 35) hx hb dX7_count_25 (by decide) (fun c3 => ?_) (fun c3 => ?_)
      · have hM := xif c3 hM
        refine lv_iload_n hx hb dX7_count_35 rfl (lv_at hl 1 rfl) ?_
        refine lv_iconst (v := 3) hx hb dX7_count_36 (by decide) ?_
        refine lv_icmp_ne (tgt := 47) hx hb dX7_count_37 (by decide) (fun c4 => ?_) (fun c4 => ?_)
        · have hM := xif c4 hM
          refine lv_iconst (v := (-1)) hx hb dX7_count_47 (by decide) ?_
          obtain rfl := hM
          exact xreti hx hb hr hlocks hP hK hD hS dX7_count_48 rfl
        · have hM := xit c4 hM
          refine lv_aload_n hx hb dX7_count_40 rfl (lv_at hl 0 rfl) ?_
          refine va_get (D := D) (ci := 7) (v := .int u_this.2.1) (C := RX7) (T := TX7) (N := 30) hx hb hts (fun w h => List.mem_cons_of_mem _ (List.mem_append_right _ h)) hown hK hP 0 rfl rfl 2 (by decide) (hts _ (List.mem_of_getElem? (i := 4) rfl)) (fun _ h9 => h9) rfl dX7_count_41 ?_
          refine lv_goto (tgt := 48) hx hb dX7_count_44 (by decide) ?_
          obtain rfl := hM
          exact xreti hx hb hr hlocks hP hK hD hS dX7_count_48 rfl
      · have hM := xit c3 hM
        refine lv_aload_n hx hb dX7_count_28 rfl (lv_at hl 0 rfl) ?_
        refine va_get (D := D) (ci := 7) (v := .int u_this.2.2.2.2.2.2.2.2.2.2.2) (C := RX7) (T := TX7) (N := 30) hx hb hts (fun w h => List.mem_cons_of_mem _ (List.mem_append_right _ h)) hown hK hP 0 rfl rfl 27 (by decide) (hts _ (List.mem_of_getElem? (i := 3) rfl)) (fun _ h9 => h9) rfl dX7_count_29 ?_
        refine lv_goto (tgt := 48) hx hb dX7_count_32 (by decide) ?_
        obtain rfl := hM
        exact xreti hx hb hr hlocks hP hK hD hS dX7_count_48 rfl
    · have hM := xit c2 hM
      refine lv_aload_n hx hb dX7_count_16 rfl (lv_at hl 0 rfl) ?_
      refine va_get (D := D) (ci := 7) (v := .int u_this.2.2.2.2.2.2.2.2.2.2.1) (C := RX7) (T := TX7) (N := 30) hx hb hts (fun w h => List.mem_cons_of_mem _ (List.mem_append_right _ h)) hown hK hP 0 rfl rfl 24 (by decide) (hts _ (List.mem_of_getElem? (i := 2) rfl)) (fun _ h9 => h9) rfl dX7_count_17 ?_
      refine lv_goto (tgt := 48) hx hb dX7_count_20 (by decide) ?_
      obtain rfl := hM
      exact xreti hx hb hr hlocks hP hK hD hS dX7_count_48 rfl
  · have hM := xit c1 hM
    refine lv_aload_n hx hb dX7_count_4 rfl (lv_at hl 0 rfl) ?_
    refine va_get (D := D) (ci := 7) (v := .int u_this.2.2.2.2.2.2.2.1) (C := RX7) (T := TX7) (N := 30) hx hb hts (fun w h => List.mem_cons_of_mem _ (List.mem_append_right _ h)) hown hK hP 0 rfl rfl 13 (by decide) (hts _ (List.mem_of_getElem? (i := 1) rfl)) (fun _ h9 => h9) rfl dX7_count_5 ?_
    refine lv_goto (tgt := 48) hx hb dX7_count_8 (by decide) ?_
    obtain rfl := hM
    exact xreti hx hb hr hlocks hP hK hD hS dX7_count_48 rfl
def f_X7_trace (u_this : K7) : Int64 :=
  u_this.1
set_option maxHeartbeats 4000000 in
set_option maxRecDepth 100000 in
theorem c_X7_trace (l : Launch) (D : va_G) (T : xT) (x : Nat → Nat) {sz : Nat} (u_this : K7) {rv : Int64} (hM : f_X7_trace u_this = rv) : Met l yX7_trace wsX7_trace ({ frames := 0, cells := 0, slots := 0, locals := 0 } : Room) (va_Pc [.ref (x 0)] (xPre D T [((x 0), .inr (7, o7 x u_this))] sz xE0)) (va_Ql (fun (r : Int64) (_ : Unit) => r = rv) (fun _ => xPost D T [((x 0), .inr (7, o7 x u_this))] (va_A [((x 0), .inr (7, o7 x u_this))] sz)) (va_A [((x 0), .inr (7, o7 x u_this))] sz)) 0 0 (va_A [((x 0), .inr (7, o7 x u_this))] sz) := by
  refine xMet (av := [.ref (x 0)]) (Wd := [((x 0), .inr (7, o7 x u_this))]) (E := xE0) (Qc := fun A => (va_Ql (fun (r : Int64) (_ : Unit) => r = rv) (fun _ => xPost D T [((x 0), .inr (7, o7 x u_this))] A) A)) (cc := cX7_trace) (maxL := 1) (ret := (some .long)) (by decide) rfl (Nat.le_of_ble_eq_true rfl) ?_
  intro p e s m below meth c A ls hx hb hr hml hts hown hlocks hnm hP hK hD hS hA hE hl
  have hown : s.vm.findClass RX7 = some m.cls := hown
  have hl : lv_has ls 1 [(0, .ref (x 0))] := hl
  unfold f_X7_trace at hM
  refine lv_aload_n hx hb dX7_trace_0 rfl (lv_at hl 0 rfl) ?_
  refine va_get (D := D) (ci := 7) (v := .long u_this.1) (C := RX7) (T := TX7) (N := 30) hx hb hts (fun w h => List.mem_cons_of_mem _ (List.mem_append_right _ h)) hown hK hP 0 rfl rfl 0 (by decide) (hts _ (List.mem_of_getElem? (i := 1) rfl)) (fun _ h9 => h9) rfl dX7_trace_1 ?_
  obtain rfl := hM
  exact xretl hx hb hr hlocks hP hK hD hS dX7_trace_4 rfl
