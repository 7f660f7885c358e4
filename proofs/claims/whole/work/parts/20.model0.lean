/-! laid by wip/whole/gen.py out of the decode rows: functional readings and contracts -/
def f_X7_tellPlain (u_this : K7) (u_this_told : (Nat → Int32)) (p1 : Int32) : Option ((Nat → Int32)) :=
  if xin (p1 + (0)) 22 = true then
  (if xin (p1 + (1)) 22 = true then
   (if xin (p1 + (2)) 22 = true then
    (if xin (p1 + (3)) 22 = true then
     (if xin (p1 + (4)) 22 = true then
      (if xin (p1 + (5)) 22 = true then
       (if xin (p1 + (6)) 22 = true then
        (if xin (p1 + (7)) 22 = true then
         (if xin (p1 + (8)) 22 = true then
          (if xin (p1 + (9)) 22 = true then
           (if xin (p1 + (10)) 22 = true then
            (some (upd (upd (upd (upd (upd (upd (upd (upd (upd (upd (upd u_this_told ((p1 + (0)).toNatClampNeg) (40)) ((p1 + (1)).toNatClampNeg) (10)) ((p1 + (2)).toNatClampNeg) (26)) ((p1 + (3)).toNatClampNeg) (20)) ((p1 + (4)).toNatClampNeg) (10)) ((p1 + (5)).toNatClampNeg) (0)) ((p1 + (6)).toNatClampNeg) (99)) ((p1 + (7)).toNatClampNeg) (0)) ((p1 + (8)).toNatClampNeg) (100)) ((p1 + (9)).toNatClampNeg) (0)) ((p1 + (10)).toNatClampNeg) (0)))
            else none)
           else none)
          else none)
         else none)
        else none)
       else none)
      else none)
     else none)
    else none)
   else none)
  else none
set_option maxHeartbeats 4000000 in
set_option maxRecDepth 100000 in
theorem c_X7_tellPlain (l : Launch) (D : va_G) (T : xT) (x : Nat → Nat) {sz : Nat} (u_this : K7) (u_this_told : (Nat → Int32)) (p1 : Int32) {rv : (Nat → Int32)} (hM : f_X7_tellPlain u_this u_this_told p1 = some rv) : Met l yX7_tellPlain wsX7_tellPlain ({ frames := 0, cells := 0, slots := 0, locals := 0 } : Room) (va_Pc [.ref (x 0), .int p1] (xPre D T [((x 0), .inr (7, o7 x u_this)), ((x 2), .inl (T.1, 22, .inl u_this_told))] sz xE0)) (va_Qv (fun (_ : Unit) => True) (fun _ => xPost D T [((x 0), .inr (7, o7 x u_this)), ((x 2), .inl (T.1, 22, .inl rv))] (va_A [((x 0), .inr (7, o7 x u_this)), ((x 2), .inl (T.1, 22, .inl u_this_told))] sz)) (va_A [((x 0), .inr (7, o7 x u_this)), ((x 2), .inl (T.1, 22, .inl u_this_told))] sz)) 0 0 (va_A [((x 0), .inr (7, o7 x u_this)), ((x 2), .inl (T.1, 22, .inl u_this_told))] sz) := by
  refine xMet (av := [.ref (x 0), .int p1]) (Wd := [((x 0), .inr (7, o7 x u_this)), ((x 2), .inl (T.1, 22, .inl u_this_told))]) (E := xE0) (Qc := fun A => (va_Qv (fun (_ : Unit) => True) (fun _ => xPost D T [((x 0), .inr (7, o7 x u_this)), ((x 2), .inl (T.1, 22, .inl rv))] A) A)) (cc := cX7_tellPlain) (maxL := 2) (ret := none) (by decide) rfl (Nat.le_of_ble_eq_true rfl) ?_
  intro p e s m below meth c A ls hx hb hr hml hts hown hlocks hnm hP hK hD hS hA hE hl
  have hown : s.vm.findClass RX7 = some m.cls := hown
  have hl : lv_has ls 2 [(0, .ref (x 0)), (1, .int p1)] := hl
  unfold f_X7_tellPlain at hM
  refine lv_aload_n hx hb dX7_tellPlain_0 rfl (lv_at hl 0 rfl) ?_
  refine va_get (D := D) (ci := 7) (v := .ref (x 2)) (C := RX7) (T := TX7) (N := 30) hx hb hts (fun w h => List.mem_cons_of_mem _ (List.mem_append_right _ h)) hown hK hP 0 rfl rfl 3 (by decide) (hts _ (List.mem_of_getElem? (i := 1) rfl)) (fun _ h9 => h9) rfl dX7_tellPlain_1 ?_
  refine lv_iload_n hx hb dX7_tellPlain_4 rfl (lv_at hl 1 rfl) ?_
  refine lv_iconst (v := 0) hx hb dX7_tellPlain_5 (by decide) ?_
  refine lv_iadd hx hb dX7_tellPlain_6 ?_
  refine lv_bipush (v := 40) hx hb dX7_tellPlain_7 (by decide) ?_
  obtain ⟨g1, hM⟩ := xck hM
  refine xast hx hb hK hP hD hS 1 0 rfl rfl g1 rfl dX7_tellPlain_9 (fun H locs hP hD hS => ?_)
  have hP : va_P D vwCl [((x 0), .inr (7, o7 x u_this)), ((x 2), .inl (T.1, 22, .inl (upd u_this_told ((p1 + (0)).toNatClampNeg) (40))))] H := hP
  have hD : va_D A [((x 0), .inr (7, o7 x u_this)), ((x 2), .inl (T.1, 22, .inl (upd u_this_told ((p1 + (0)).toNatClampNeg) (40))))] := hD
  refine lv_aload_n hx hb dX7_tellPlain_10 rfl (lv_at hl 0 rfl) ?_
  refine va_get (D := D) (ci := 7) (v := .ref (x 2)) (C := RX7) (T := TX7) (N := 30) hx hb hts (fun w h => List.mem_cons_of_mem _ (List.mem_append_right _ h)) hown hK hP 0 rfl rfl 3 (by decide) (hts _ (List.mem_of_getElem? (i := 1) rfl)) (fun _ h9 => h9) rfl dX7_tellPlain_11 ?_
  refine lv_iload_n hx hb dX7_tellPlain_14 rfl (lv_at hl 1 rfl) ?_
  refine lv_iconst (v := 1) hx hb dX7_tellPlain_15 (by decide) ?_
  refine lv_iadd hx hb dX7_tellPlain_16 ?_
  refine lv_bipush (v := 10) hx hb dX7_tellPlain_17 (by decide) ?_
  obtain ⟨g2, hM⟩ := xck hM
  refine xast hx hb hK hP hD hS 1 0 rfl rfl g2 rfl dX7_tellPlain_19 (fun H locs hP hD hS => ?_)
  have hP : va_P D vwCl [((x 0), .inr (7, o7 x u_this)), ((x 2), .inl (T.1, 22, .inl (upd (upd u_this_told ((p1 + (0)).toNatClampNeg) (40)) ((p1 + (1)).toNatClampNeg) (10))))] H := hP
  have hD : va_D A [((x 0), .inr (7, o7 x u_this)), ((x 2), .inl (T.1, 22, .inl (upd (upd u_this_told ((p1 + (0)).toNatClampNeg) (40)) ((p1 + (1)).toNatClampNeg) (10))))] := hD
  refine lv_aload_n hx hb dX7_tellPlain_20 rfl (lv_at hl 0 rfl) ?_
  refine va_get (D := D) (ci := 7) (v := .ref (x 2)) (C := RX7) (T := TX7) (N := 30) hx hb hts (fun w h => List.mem_cons_of_mem _ (List.mem_append_right _ h)) hown hK hP 0 rfl rfl 3 (by decide) (hts _ (List.mem_of_getElem? (i := 1) rfl)) (fun _ h9 => h9) rfl dX7_tellPlain_21 ?_
  refine lv_iload_n hx hb dX7_tellPlain_24 rfl (lv_at hl 1 rfl) ?_
  refine lv_iconst (v := 2) hx hb dX7_tellPlain_25 (by decide) ?_
  refine lv_iadd hx hb dX7_tellPlain_26 ?_
  refine lv_bipush (v := 26) hx hb dX7_tellPlain_27 (by decide) ?_
  obtain ⟨g3, hM⟩ := xck hM
  refine xast hx hb hK hP hD hS 1 0 rfl rfl g3 rfl dX7_tellPlain_29 (fun H locs hP hD hS => ?_)
  have hP : va_P D vwCl [((x 0), .inr (7, o7 x u_this)), ((x 2), .inl (T.1, 22, .inl (upd (upd (upd u_this_told ((p1 + (0)).toNatClampNeg) (40)) ((p1 + (1)).toNatClampNeg) (10)) ((p1 + (2)).toNatClampNeg) (26))))] H := hP
  have hD : va_D A [((x 0), .inr (7, o7 x u_this)), ((x 2), .inl (T.1, 22, .inl (upd (upd (upd u_this_told ((p1 + (0)).toNatClampNeg) (40)) ((p1 + (1)).toNatClampNeg) (10)) ((p1 + (2)).toNatClampNeg) (26))))] := hD
  refine lv_aload_n hx hb dX7_tellPlain_30 rfl (lv_at hl 0 rfl) ?_
  refine va_get (D := D) (ci := 7) (v := .ref (x 2)) (C := RX7) (T := TX7) (N := 30) hx hb hts (fun w h => List.mem_cons_of_mem _ (List.mem_append_right _ h)) hown hK hP 0 rfl rfl 3 (by decide) (hts _ (List.mem_of_getElem? (i := 1) rfl)) (fun _ h9 => h9) rfl dX7_tellPlain_31 ?_
  refine lv_iload_n hx hb dX7_tellPlain_34 rfl (lv_at hl 1 rfl) ?_
  refine lv_iconst (v := 3) hx hb dX7_tellPlain_35 (by decide) ?_
  refine lv_iadd hx hb dX7_tellPlain_36 ?_
  refine lv_bipush (v := 20) hx hb dX7_tellPlain_37 (by decide) ?_
  obtain ⟨g4, hM⟩ := xck hM
  refine xast hx hb hK hP hD hS 1 0 rfl rfl g4 rfl dX7_tellPlain_39 (fun H locs hP hD hS => ?_)
  have hP : va_P D vwCl [((x 0), .inr (7, o7 x u_this)), ((x 2), .inl (T.1, 22, .inl (upd (upd (upd (upd u_this_told ((p1 + (0)).toNatClampNeg) (40)) ((p1 + (1)).toNatClampNeg) (10)) ((p1 + (2)).toNatClampNeg) (26)) ((p1 + (3)).toNatClampNeg) (20))))] H := hP
  have hD : va_D A [((x 0), .inr (7, o7 x u_this)), ((x 2), .inl (T.1, 22, .inl (upd (upd (upd (upd u_this_told ((p1 + (0)).toNatClampNeg) (40)) ((p1 + (1)).toNatClampNeg) (10)) ((p1 + (2)).toNatClampNeg) (26)) ((p1 + (3)).toNatClampNeg) (20))))] := hD
  refine lv_aload_n hx hb dX7_tellPlain_40 rfl (lv_at hl 0 rfl) ?_
  refine va_get (D := D) (ci := 7) (v := .ref (x 2)) (C := RX7) (T := TX7) (N := 30) hx hb hts (fun w h => List.mem_cons_of_mem _ (List.mem_append_right _ h)) hown hK hP 0 rfl rfl 3 (by decide) (hts _ (List.mem_of_getElem? (i := 1) rfl)) (fun _ h9 => h9) rfl dX7_tellPlain_41 ?_
  refine lv_iload_n hx hb dX7_tellPlain_44 rfl (lv_at hl 1 rfl) ?_
  refine lv_iconst (v := 4) hx hb dX7_tellPlain_45 (by decide) ?_
  refine lv_iadd hx hb dX7_tellPlain_46 ?_
  refine lv_bipush (v := 10) hx hb dX7_tellPlain_47 (by decide) ?_
  obtain ⟨g5, hM⟩ := xck hM
  refine xast hx hb hK hP hD hS 1 0 rfl rfl g5 rfl dX7_tellPlain_49 (fun H locs hP hD hS => ?_)
  have hP : va_P D vwCl [((x 0), .inr (7, o7 x u_this)), ((x 2), .inl (T.1, 22, .inl (upd (upd (upd (upd (upd u_this_told ((p1 + (0)).toNatClampNeg) (40)) ((p1 + (1)).toNatClampNeg) (10)) ((p1 + (2)).toNatClampNeg) (26)) ((p1 + (3)).toNatClampNeg) (20)) ((p1 + (4)).toNatClampNeg) (10))))] H := hP
  have hD : va_D A [((x 0), .inr (7, o7 x u_this)), ((x 2), .inl (T.1, 22, .inl (upd (upd (upd (upd (upd u_this_told ((p1 + (0)).toNatClampNeg) (40)) ((p1 + (1)).toNatClampNeg) (10)) ((p1 + (2)).toNatClampNeg) (26)) ((p1 + (3)).toNatClampNeg) (20)) ((p1 + (4)).toNatClampNeg) (10))))] := hD
  refine lv_aload_n hx hb dX7_tellPlain_50 rfl (lv_at hl 0 rfl) ?_
  refine va_get (D := D) (ci := 7) (v := .ref (x 2)) (C := RX7) (T := TX7) (N := 30) hx hb hts (fun w h => List.mem_cons_of_mem _ (List.mem_append_right _ h)) hown hK hP 0 rfl rfl 3 (by decide) (hts _ (List.mem_of_getElem? (i := 1) rfl)) (fun _ h9 => h9) rfl dX7_tellPlain_51 ?_
  refine lv_iload_n hx hb dX7_tellPlain_54 rfl (lv_at hl 1 rfl) ?_
  refine lv_iconst (v := 5) hx hb dX7_tellPlain_55 (by decide) ?_
  refine lv_iadd hx hb dX7_tellPlain_56 ?_
  refine lv_iconst (v := 0) hx hb dX7_tellPlain_57 (by decide) ?_
  obtain ⟨g6, hM⟩ := xck hM
  refine xast hx hb hK hP hD hS 1 0 rfl rfl g6 rfl dX7_tellPlain_58 (fun H locs hP hD hS => ?_)
  have hP : va_P D vwCl [((x 0), .inr (7, o7 x u_this)), ((x 2), .inl (T.1, 22, .inl (upd (upd (upd (upd (upd (upd u_this_told ((p1 + (0)).toNatClampNeg) (40)) ((p1 + (1)).toNatClampNeg) (10)) ((p1 + (2)).toNatClampNeg) (26)) ((p1 + (3)).toNatClampNeg) (20)) ((p1 + (4)).toNatClampNeg) (10)) ((p1 + (5)).toNatClampNeg) (0))))] H := hP
  have hD : va_D A [((x 0), .inr (7, o7 x u_this)), ((x 2), .inl (T.1, 22, .inl (upd (upd (upd (upd (upd (upd u_this_told ((p1 + (0)).toNatClampNeg) (40)) ((p1 + (1)).toNatClampNeg) (10)) ((p1 + (2)).toNatClampNeg) (26)) ((p1 + (3)).toNatClampNeg) (20)) ((p1 + (4)).toNatClampNeg) (10)) ((p1 + (5)).toNatClampNeg) (0))))] := hD
  refine lv_aload_n hx hb dX7_tellPlain_59 rfl (lv_at hl 0 rfl) ?_
  refine va_get (D := D) (ci := 7) (v := .ref (x 2)) (C := RX7) (T := TX7) (N := 30) hx hb hts (fun w h => List.mem_cons_of_mem _ (List.mem_append_right _ h)) hown hK hP 0 rfl rfl 3 (by decide) (hts _ (List.mem_of_getElem? (i := 1) rfl)) (fun _ h9 => h9) rfl dX7_tellPlain_60 ?_
  refine lv_iload_n hx hb dX7_tellPlain_63 rfl (lv_at hl 1 rfl) ?_
  refine lv_bipush (v := 6) hx hb dX7_tellPlain_64 (by decide) ?_
  refine lv_iadd hx hb dX7_tellPlain_66 ?_
  refine lv_bipush (v := 99) hx hb dX7_tellPlain_67 (by decide) ?_
  obtain ⟨g7, hM⟩ := xck hM
  refine xast hx hb hK hP hD hS 1 0 rfl rfl g7 rfl dX7_tellPlain_69 (fun H locs hP hD hS => ?_)
  have hP : va_P D vwCl [((x 0), .inr (7, o7 x u_this)), ((x 2), .inl (T.1, 22, .inl (upd (upd (upd (upd (upd (upd (upd u_this_told ((p1 + (0)).toNatClampNeg) (40)) ((p1 + (1)).toNatClampNeg) (10)) ((p1 + (2)).toNatClampNeg) (26)) ((p1 + (3)).toNatClampNeg) (20)) ((p1 + (4)).toNatClampNeg) (10)) ((p1 + (5)).toNatClampNeg) (0)) ((p1 + (6)).toNatClampNeg) (99))))] H := hP
  have hD : va_D A [((x 0), .inr (7, o7 x u_this)), ((x 2), .inl (T.1, 22, .inl (upd (upd (upd (upd (upd (upd (upd u_this_told ((p1 + (0)).toNatClampNeg) (40)) ((p1 + (1)).toNatClampNeg) (10)) ((p1 + (2)).toNatClampNeg) (26)) ((p1 + (3)).toNatClampNeg) (20)) ((p1 + (4)).toNatClampNeg) (10)) ((p1 + (5)).toNatClampNeg) (0)) ((p1 + (6)).toNatClampNeg) (99))))] := hD
  refine lv_aload_n hx hb dX7_tellPlain_70 rfl (lv_at hl 0 rfl) ?_
  refine va_get (D := D) (ci := 7) (v := .ref (x 2)) (C := RX7) (T := TX7) (N := 30) hx hb hts (fun w h => List.mem_cons_of_mem _ (List.mem_append_right _ h)) hown hK hP 0 rfl rfl 3 (by decide) (hts _ (List.mem_of_getElem? (i := 1) rfl)) (fun _ h9 => h9) rfl dX7_tellPlain_71 ?_
  refine lv_iload_n hx hb dX7_tellPlain_74 rfl (lv_at hl 1 rfl) ?_
  refine lv_bipush (v := 7) hx hb dX7_tellPlain_75 (by decide) ?_
  refine lv_iadd hx hb dX7_tellPlain_77 ?_
  refine lv_iconst (v := 0) hx hb dX7_tellPlain_78 (by decide) ?_
  obtain ⟨g8, hM⟩ := xck hM
  refine xast hx hb hK hP hD hS 1 0 rfl rfl g8 rfl dX7_tellPlain_79 (fun H locs hP hD hS => ?_)
  have hP : va_P D vwCl [((x 0), .inr (7, o7 x u_this)), ((x 2), .inl (T.1, 22, .inl (upd (upd (upd (upd (upd (upd (upd (upd u_this_told ((p1 + (0)).toNatClampNeg) (40)) ((p1 + (1)).toNatClampNeg) (10)) ((p1 + (2)).toNatClampNeg) (26)) ((p1 + (3)).toNatClampNeg) (20)) ((p1 + (4)).toNatClampNeg) (10)) ((p1 + (5)).toNatClampNeg) (0)) ((p1 + (6)).toNatClampNeg) (99)) ((p1 + (7)).toNatClampNeg) (0))))] H := hP
  have hD : va_D A [((x 0), .inr (7, o7 x u_this)), ((x 2), .inl (T.1, 22, .inl (upd (upd (upd (upd (upd (upd (upd (upd u_this_told ((p1 + (0)).toNatClampNeg) (40)) ((p1 + (1)).toNatClampNeg) (10)) ((p1 + (2)).toNatClampNeg) (26)) ((p1 + (3)).toNatClampNeg) (20)) ((p1 + (4)).toNatClampNeg) (10)) ((p1 + (5)).toNatClampNeg) (0)) ((p1 + (6)).toNatClampNeg) (99)) ((p1 + (7)).toNatClampNeg) (0))))] := hD
  refine lv_aload_n hx hb dX7_tellPlain_80 rfl (lv_at hl 0 rfl) ?_
  refine va_get (D := D) (ci := 7) (v := .ref (x 2)) (C := RX7) (T := TX7) (N := 30) hx hb hts (fun w h => List.mem_cons_of_mem _ (List.mem_append_right _ h)) hown hK hP 0 rfl rfl 3 (by decide) (hts _ (List.mem_of_getElem? (i := 1) rfl)) (fun _ h9 => h9) rfl dX7_tellPlain_81 ?_
  refine lv_iload_n hx hb dX7_tellPlain_84 rfl (lv_at hl 1 rfl) ?_
  refine lv_bipush (v := 8) hx hb dX7_tellPlain_85 (by decide) ?_
  refine lv_iadd hx hb dX7_tellPlain_87 ?_
  refine lv_bipush (v := 100) hx hb dX7_tellPlain_88 (by decide) ?_
  obtain ⟨g9, hM⟩ := xck hM
  refine xast hx hb hK hP hD hS 1 0 rfl rfl g9 rfl dX7_tellPlain_90 (fun H locs hP hD hS => ?_)
  have hP : va_P D vwCl [((x 0), .inr (7, o7 x u_this)), ((x 2), .inl (T.1, 22, .inl (upd (upd (upd (upd (upd (upd (upd (upd (upd u_this_told ((p1 + (0)).toNatClampNeg) (40)) ((p1 + (1)).toNatClampNeg) (10)) ((p1 + (2)).toNatClampNeg) (26)) ((p1 + (3)).toNatClampNeg) (20)) ((p1 + (4)).toNatClampNeg) (10)) ((p1 + (5)).toNatClampNeg) (0)) ((p1 + (6)).toNatClampNeg) (99)) ((p1 + (7)).toNatClampNeg) (0)) ((p1 + (8)).toNatClampNeg) (100))))] H := hP
  have hD : va_D A [((x 0), .inr (7, o7 x u_this)), ((x 2), .inl (T.1, 22, .inl (upd (upd (upd (upd (upd (upd (upd (upd (upd u_this_told ((p1 + (0)).toNatClampNeg) (40)) ((p1 + (1)).toNatClampNeg) (10)) ((p1 + (2)).toNatClampNeg) (26)) ((p1 + (3)).toNatClampNeg) (20)) ((p1 + (4)).toNatClampNeg) (10)) ((p1 + (5)).toNatClampNeg) (0)) ((p1 + (6)).toNatClampNeg) (99)) ((p1 + (7)).toNatClampNeg) (0)) ((p1 + (8)).toNatClampNeg) (100))))] := hD
  refine lv_aload_n hx hb dX7_tellPlain_91 rfl (lv_at hl 0 rfl) ?_
  refine va_get (D := D) (ci := 7) (v := .ref (x 2)) (C := RX7) (T := TX7) (N := 30) hx hb hts (fun w h => List.mem_cons_of_mem _ (List.mem_append_right _ h)) hown hK hP 0 rfl rfl 3 (by decide) (hts _ (List.mem_of_getElem? (i := 1) rfl)) (fun _ h9 => h9) rfl dX7_tellPlain_92 ?_
  refine lv_iload_n hx hb dX7_tellPlain_95 rfl (lv_at hl 1 rfl) ?_
  refine lv_bipush (v := 9) hx hb dX7_tellPlain_96 (by decide) ?_
  refine lv_iadd hx hb dX7_tellPlain_98 ?_
  refine lv_iconst (v := 0) hx hb dX7_tellPlain_99 (by decide) ?_
  obtain ⟨g10, hM⟩ := xck hM
  refine xast hx hb hK hP hD hS 1 0 rfl rfl g10 rfl dX7_tellPlain_100 (fun H locs hP hD hS => ?_)
  have hP : va_P D vwCl [((x 0), .inr (7, o7 x u_this)), ((x 2), .inl (T.1, 22, .inl (upd (upd (upd (upd (upd (upd (upd (upd (upd (upd u_this_told ((p1 + (0)).toNatClampNeg) (40)) ((p1 + (1)).toNatClampNeg) (10)) ((p1 + (2)).toNatClampNeg) (26)) ((p1 + (3)).toNatClampNeg) (20)) ((p1 + (4)).toNatClampNeg) (10)) ((p1 + (5)).toNatClampNeg) (0)) ((p1 + (6)).toNatClampNeg) (99)) ((p1 + (7)).toNatClampNeg) (0)) ((p1 + (8)).toNatClampNeg) (100)) ((p1 + (9)).toNatClampNeg) (0))))] H := hP
  have hD : va_D A [((x 0), .inr (7, o7 x u_this)), ((x 2), .inl (T.1, 22, .inl (upd (upd (upd (upd (upd (upd (upd (upd (upd (upd u_this_told ((p1 + (0)).toNatClampNeg) (40)) ((p1 + (1)).toNatClampNeg) (10)) ((p1 + (2)).toNatClampNeg) (26)) ((p1 + (3)).toNatClampNeg) (20)) ((p1 + (4)).toNatClampNeg) (10)) ((p1 + (5)).toNatClampNeg) (0)) ((p1 + (6)).toNatClampNeg) (99)) ((p1 + (7)).toNatClampNeg) (0)) ((p1 + (8)).toNatClampNeg) (100)) ((p1 + (9)).toNatClampNeg) (0))))] := hD
  refine lv_aload_n hx hb dX7_tellPlain_101 rfl (lv_at hl 0 rfl) ?_
  refine va_get (D := D) (ci := 7) (v := .ref (x 2)) (C := RX7) (T := TX7) (N := 30) hx hb hts (fun w h => List.mem_cons_of_mem _ (List.mem_append_right _ h)) hown hK hP 0 rfl rfl 3 (by decide) (hts _ (List.mem_of_getElem? (i := 1) rfl)) (fun _ h9 => h9) rfl dX7_tellPlain_102 ?_
  refine lv_iload_n hx hb dX7_tellPlain_105 rfl (lv_at hl 1 rfl) ?_
  refine lv_bipush (v := 10) hx hb dX7_tellPlain_106 (by decide) ?_
  refine lv_iadd hx hb dX7_tellPlain_108 ?_
  refine lv_iconst (v := 0) hx hb dX7_tellPlain_109 (by decide) ?_
  obtain ⟨g11, hM⟩ := xck hM
  refine xast hx hb hK hP hD hS 1 0 rfl rfl g11 rfl dX7_tellPlain_110 (fun H locs hP hD hS => ?_)
  have hP : va_P D vwCl [((x 0), .inr (7, o7 x u_this)), ((x 2), .inl (T.1, 22, .inl (upd (upd (upd (upd (upd (upd (upd (upd (upd (upd (upd u_this_told ((p1 + (0)).toNatClampNeg) (40)) ((p1 + (1)).toNatClampNeg) (10)) ((p1 + (2)).toNatClampNeg) (26)) ((p1 + (3)).toNatClampNeg) (20)) ((p1 + (4)).toNatClampNeg) (10)) ((p1 + (5)).toNatClampNeg) (0)) ((p1 + (6)).toNatClampNeg) (99)) ((p1 + (7)).toNatClampNeg) (0)) ((p1 + (8)).toNatClampNeg) (100)) ((p1 + (9)).toNatClampNeg) (0)) ((p1 + (10)).toNatClampNeg) (0))))] H := hP
  have hD : va_D A [((x 0), .inr (7, o7 x u_this)), ((x 2), .inl (T.1, 22, .inl (upd (upd (upd (upd (upd (upd (upd (upd (upd (upd (upd u_this_told ((p1 + (0)).toNatClampNeg) (40)) ((p1 + (1)).toNatClampNeg) (10)) ((p1 + (2)).toNatClampNeg) (26)) ((p1 + (3)).toNatClampNeg) (20)) ((p1 + (4)).toNatClampNeg) (10)) ((p1 + (5)).toNatClampNeg) (0)) ((p1 + (6)).toNatClampNeg) (99)) ((p1 + (7)).toNatClampNeg) (0)) ((p1 + (8)).toNatClampNeg) (100)) ((p1 + (9)).toNatClampNeg) (0)) ((p1 + (10)).toNatClampNeg) (0))))] := hD
  obtain rfl := Option.some.inj hM
  exact xretv hx hb hr hlocks hP hK hD hS dX7_tellPlain_111
def s_X7_takeTold_2 (u_this_told : (Nat → Int32)) (v1 : Int32 × (Nat → Int32)) : Option ((Int32 × (Nat → Int32)) ⊕ (Int32 × (Nat → Int32))) :=
  if (11) ≤ v1.1 then
   (some (.inr (v1.1, v1.2)))
  else
   (if xin v1.1 22 = true then
    (if xin v1.1 11 = true then
     (some (.inl (v1.1 + 1, (upd v1.2 v1.1.toNatClampNeg (u_this_told v1.1.toNatClampNeg)))))
     else none)
    else none)
def f_X7_takeTold (N : Nat) (u_this : K7) (u_this_told : (Nat → Int32)) (u_this_par : (Nat → Int32)) : Option ((Nat → Int32)) :=
  (xlp (s_X7_takeTold_2 u_this_told) N (0, u_this_par)).bind fun v5 =>
  some v5.2
set_option maxHeartbeats 4000000 in
set_option maxRecDepth 100000 in
theorem c_X7_takeTold (l : Launch) (D : va_G) (T : xT) (x : Nat → Nat) {sz : Nat} {N : Nat} (u_this : K7) (u_this_told : (Nat → Int32)) (u_this_par : (Nat → Int32)) {rv : (Nat → Int32)} (hM : f_X7_takeTold N u_this u_this_told u_this_par = some rv) : Met l yX7_takeTold wsX7_takeTold ({ frames := 0, cells := 0, slots := 0, locals := 0 } : Room) (va_Pc [.ref (x 0)] (xPre D T [((x 0), .inr (7, o7 x u_this)), ((x 2), .inl (T.1, 22, .inl u_this_told)), ((x 3), .inl (T.1, 11, .inl u_this_par))] sz xE0)) (va_Qv (fun (_ : Unit) => True) (fun _ => xPost D T [((x 0), .inr (7, o7 x u_this)), ((x 2), .inl (T.1, 22, .inl u_this_told)), ((x 3), .inl (T.1, 11, .inl rv))] (va_A [((x 0), .inr (7, o7 x u_this)), ((x 2), .inl (T.1, 22, .inl u_this_told)), ((x 3), .inl (T.1, 11, .inl u_this_par))] sz)) (va_A [((x 0), .inr (7, o7 x u_this)), ((x 2), .inl (T.1, 22, .inl u_this_told)), ((x 3), .inl (T.1, 11, .inl u_this_par))] sz)) 0 0 (va_A [((x 0), .inr (7, o7 x u_this)), ((x 2), .inl (T.1, 22, .inl u_this_told)), ((x 3), .inl (T.1, 11, .inl u_this_par))] sz) := by
  refine xMet (av := [.ref (x 0)]) (Wd := [((x 0), .inr (7, o7 x u_this)), ((x 2), .inl (T.1, 22, .inl u_this_told)), ((x 3), .inl (T.1, 11, .inl u_this_par))]) (E := xE0) (Qc := fun A => (va_Qv (fun (_ : Unit) => True) (fun _ => xPost D T [((x 0), .inr (7, o7 x u_this)), ((x 2), .inl (T.1, 22, .inl u_this_told)), ((x 3), .inl (T.1, 11, .inl rv))] A) A)) (cc := cX7_takeTold) (maxL := 2) (ret := none) (by decide) rfl (Nat.le_of_ble_eq_true rfl) ?_
  intro p e s m below meth c A ls hx hb hr hml hts hown hlocks hnm hP hK hD hS hA hE hl
  have hown : s.vm.findClass RX7 = some m.cls := hown
  have hl : lv_has ls 2 [(0, .ref (x 0))] := hl
  unfold f_X7_takeTold at hM
  refine lv_iconst (v := 0) hx hb dX7_takeTold_0 (by decide) ?_
  refine lv_istore_n (lv' := [(1, .int (0)), (0, .ref (x 0))]) hx hb dX7_takeTold_1 rfl hl (by decide) rfl (fun ls hl => ?_)
  obtain ⟨v5, hM, hNv5⟩ := xbd hM
  have hQv5 := hM
  have Kv5 : ∀ (H : Heap) (locs : List Loc) (ls : Array Slot), va_P D vwCl [((x 0), .inr (7, o7 x u_this)), ((x 2), .inl (T.1, 22, .inl u_this_told)), ((x 3), .inl (T.1, 11, .inl v5.2))] H → va_D A [((x 0), .inr (7, o7 x u_this)), ((x 2), .inl (T.1, 22, .inl u_this_told)), ((x 3), .inl (T.1, 11, .inl v5.2))] → va_S A s.heap H locs → lv_has ls 2 [] → W p l e ({ frames := 0, cells := 0, slots := 0, locals := 0 } : Room) s m ([.ref (x 0)] : List Value).toArray below meth c H locs 0 0 (MQ below (va_Qv (fun (_ : Unit) => True) (fun _ => xPost D T [((x 0), .inr (7, o7 x u_this)), ((x 2), .inl (T.1, 22, .inl u_this_told)), ((x 3), .inl (T.1, 11, .inl rv))] A) A) ([.ref (x 0)] : List Value).toArray s 0 0 A) (F0 m 26 ls []) := by
    intro H locs ls hP hD hS hl
    have hM := hNv5
    obtain rfl := Option.some.inj hM
    exact xretv hx hb hr hlocks hP hK hD hS dX7_takeTold_26
  have Lv1 : ∀ (n : Nat) (v1 : Int32 × (Nat → Int32)), xlp (s_X7_takeTold_2 u_this_told) n v1 = some v5 → ∀ (H : Heap) (locs : List Loc) (ls : Array Slot), va_P D vwCl [((x 0), .inr (7, o7 x u_this)), ((x 2), .inl (T.1, 22, .inl u_this_told)), ((x 3), .inl (T.1, 11, .inl v1.2))] H → va_D A [((x 0), .inr (7, o7 x u_this)), ((x 2), .inl (T.1, 22, .inl u_this_told)), ((x 3), .inl (T.1, 11, .inl v1.2))] → va_S A s.heap H locs → lv_has ls 2 [(0, .ref (x 0)), (1, .int v1.1)] → W p l e ({ frames := 0, cells := 0, slots := 0, locals := 0 } : Room) s m ([.ref (x 0)] : List Value).toArray below meth c H locs 0 0 (MQ below (va_Qv (fun (_ : Unit) => True) (fun _ => xPost D T [((x 0), .inr (7, o7 x u_this)), ((x 2), .inl (T.1, 22, .inl u_this_told)), ((x 3), .inl (T.1, 11, .inl rv))] A) A) ([.ref (x 0)] : List Value).toArray s 0 0 A) (F0 m 2 ls []) := by
    intro n
    induction n with
    | zero => exact fun _ h => (xlp_0 h).elim
    | succ n ih =>
      intro v1 hM H locs ls hP hD hS hl
      obtain ⟨z, hM, hz1, hz2⟩ := xlp_s hM
      unfold s_X7_takeTold_2 at hM
      refine lv_iload_n hx hb dX7_takeTold_2 rfl (lv_at hl 1 rfl) ?_
      refine lv_bipush (v := 11) hx hb dX7_takeTold_3 (by decide) ?_
      refine lv_icmp_ge (tgt := 26) hx hb dX7_takeTold_5 (by decide) (fun c2 => ?_) (fun c2 => ?_)
      · have hM := xit c2 hM
        obtain rfl := hz2 _ (Option.some.inj hM).symm
        exact Kv5 _ _ _ hP hD hS (lv_sub hl [] rfl)
      · have hM := xif c2 hM
        refine lv_aload_n hx hb dX7_takeTold_8 rfl (lv_at hl 0 rfl) ?_
        refine va_get (D := D) (ci := 7) (v := .ref (x 3)) (C := RX7) (T := TX7) (N := 30) hx hb hts (fun w h => List.mem_cons_of_mem _ (List.mem_append_right _ h)) hown hK hP 0 rfl rfl 9 (by decide) (hts _ (List.mem_of_getElem? (i := 1) rfl)) (fun _ h9 => h9) rfl dX7_takeTold_9 ?_
        refine lv_iload_n hx hb dX7_takeTold_12 rfl (lv_at hl 1 rfl) ?_
        refine lv_aload_n hx hb dX7_takeTold_13 rfl (lv_at hl 0 rfl) ?_
        refine va_get (D := D) (ci := 7) (v := .ref (x 2)) (C := RX7) (T := TX7) (N := 30) hx hb hts (fun w h => List.mem_cons_of_mem _ (List.mem_append_right _ h)) hown hK hP 0 rfl rfl 3 (by decide) (hts _ (List.mem_of_getElem? (i := 2) rfl)) (fun _ h9 => h9) rfl dX7_takeTold_14 ?_
        refine lv_iload_n hx hb dX7_takeTold_17 rfl (lv_at hl 1 rfl) ?_
        obtain ⟨g3, hM⟩ := xck hM
        refine xald (v := (u_this_told v1.1.toNatClampNeg)) hx hb hK hP 1 0 rfl rfl g3 rfl dX7_takeTold_18 ?_
        obtain ⟨g4, hM⟩ := xck hM
        refine xast hx hb hK hP hD hS 2 0 rfl rfl g4 rfl dX7_takeTold_19 (fun H locs hP hD hS => ?_)
        have hP : va_P D vwCl [((x 0), .inr (7, o7 x u_this)), ((x 2), .inl (T.1, 22, .inl u_this_told)), ((x 3), .inl (T.1, 11, .inl (upd v1.2 v1.1.toNatClampNeg (u_this_told v1.1.toNatClampNeg))))] H := hP
        have hD : va_D A [((x 0), .inr (7, o7 x u_this)), ((x 2), .inl (T.1, 22, .inl u_this_told)), ((x 3), .inl (T.1, 11, .inl (upd v1.2 v1.1.toNatClampNeg (u_this_told v1.1.toNatClampNeg))))] := hD
        refine lv_iinc (v := v1.1 + 1) (lv' := [(1, .int (v1.1 + 1)), (0, .ref (x 0))]) hx hb dX7_takeTold_20 hl (k := 1) rfl rfl (by decide) rfl (fun ls hl => ?_)
        refine lv_goto (tgt := 2) hx hb dX7_takeTold_23 (by decide) ?_
        exact ih _ (hz1 _ (Option.some.inj hM).symm) _ _ _ hP hD hS (lv_sub hl [1, 0] rfl)
  exact Lv1 _ _ hM _ _ _ hP hD hS (lv_sub hl [1, 0] rfl)
def s_X7_begin_2 (v1 : Int32 × (Nat → Int32)) : Option ((Int32 × (Nat → Int32)) ⊕ (Int32 × (Nat → Int32))) :=
  if (7) ≤ v1.1 then
   (some (.inr (v1.1, v1.2)))
  else
   (if xin v1.1 7 = true then
    (some (.inl (v1.1 + 1, (upd v1.2 v1.1.toNatClampNeg (0)))))
    else none)
def f_X7_begin (N : Nat) (u_this : K7) (u_this_try0 : (Nat → Int32)) (p1 : Int32) (p2 : Int32) : Option ((Nat → Int32)) :=
  (xlp s_X7_begin_2 N (0, u_this_try0)).bind fun v4 =>
  some (upd (upd v4.2 (0) p1) (1) p2)
set_option maxHeartbeats 4000000 in
set_option maxRecDepth 100000 in
theorem c_X7_begin (l : Launch) (D : va_G) (T : xT) (x : Nat → Nat) {sz : Nat} {N : Nat} (u_this : K7) (u_this_try0 : (Nat → Int32)) (p1 : Int32) (p2 : Int32) {rv : (Nat → Int32)} (hM : f_X7_begin N u_this u_this_try0 p1 p2 = some rv) : Met l yX7_begin wsX7_begin ({ frames := 0, cells := 0, slots := 0, locals := 0 } : Room) (va_Pc [.ref (x 0), .int p1, .int p2] (xPre D T [((x 0), .inr (7, o7 x u_this)), ((x 4), .inl (T.1, 7, .inl u_this_try0))] sz xE0)) (va_Qv (fun (_ : Unit) => True) (fun _ => xPost D T [((x 0), .inr (7, o7 x u_this)), ((x 4), .inl (T.1, 7, .inl rv))] (va_A [((x 0), .inr (7, o7 x u_this)), ((x 4), .inl (T.1, 7, .inl u_this_try0))] sz)) (va_A [((x 0), .inr (7, o7 x u_this)), ((x 4), .inl (T.1, 7, .inl u_this_try0))] sz)) 0 0 (va_A [((x 0), .inr (7, o7 x u_this)), ((x 4), .inl (T.1, 7, .inl u_this_try0))] sz) := by
  refine xMet (av := [.ref (x 0), .int p1, .int p2]) (Wd := [((x 0), .inr (7, o7 x u_this)), ((x 4), .inl (T.1, 7, .inl u_this_try0))]) (E := xE0) (Qc := fun A => (va_Qv (fun (_ : Unit) => True) (fun _ => xPost D T [((x 0), .inr (7, o7 x u_this)), ((x 4), .inl (T.1, 7, .inl rv))] A) A)) (cc := cX7_begin) (maxL := 4) (ret := none) (by decide) rfl (Nat.le_of_ble_eq_true rfl) ?_
  intro p e s m below meth c A ls hx hb hr hml hts hown hlocks hnm hP hK hD hS hA hE hl
  have hown : s.vm.findClass RX7 = some m.cls := hown
  have hl : lv_has ls 4 [(0, .ref (x 0)), (1, .int p1), (2, .int p2)] := hl
  unfold f_X7_begin at hM
  refine lv_iconst (v := 0) hx hb dX7_begin_0 (by decide) ?_
  refine lv_istore_n (lv' := [(3, .int (0)), (0, .ref (x 0)), (1, .int p1), (2, .int p2)]) hx hb dX7_begin_1 rfl hl (by decide) rfl (fun ls hl => ?_)
  obtain ⟨v4, hM, hNv4⟩ := xbd hM
  have hQv4 := hM
  have Kv4 : ∀ (H : Heap) (locs : List Loc) (ls : Array Slot), va_P D vwCl [((x 0), .inr (7, o7 x u_this)), ((x 4), .inl (T.1, 7, .inl v4.2))] H → va_D A [((x 0), .inr (7, o7 x u_this)), ((x 4), .inl (T.1, 7, .inl v4.2))] → va_S A s.heap H locs → lv_has ls 4 [(0, .ref (x 0)), (1, .int p1), (2, .int p2)] → W p l e ({ frames := 0, cells := 0, slots := 0, locals := 0 } : Room) s m ([.ref (x 0), .int p1, .int p2] : List Value).toArray below meth c H locs 0 0 (MQ below (va_Qv (fun (_ : Unit) => True) (fun _ => xPost D T [((x 0), .inr (7, o7 x u_this)), ((x 4), .inl (T.1, 7, .inl rv))] A) A) ([.ref (x 0), .int p1, .int p2] : List Value).toArray s 0 0 A) (F0 m 21 ls []) := by
    intro H locs ls hP hD hS hl
    have hM := hNv4
    refine lv_aload_n hx hb dX7_begin_21 rfl (lv_at hl 0 rfl) ?_
    refine va_get (D := D) (ci := 7) (v := .ref (x 4)) (C := RX7) (T := TX7) (N := 30) hx hb hts (fun w h => List.mem_cons_of_mem _ (List.mem_append_right _ h)) hown hK hP 0 rfl rfl 10 (by decide) (hts _ (List.mem_of_getElem? (i := 1) rfl)) (fun _ h9 => h9) rfl dX7_begin_22 ?_
    refine lv_iconst (v := 0) hx hb dX7_begin_25 (by decide) ?_
    refine lv_iload_n hx hb dX7_begin_26 rfl (lv_at hl 1 rfl) ?_
    refine xast hx hb hK hP hD hS 1 0 rfl rfl (xin_vp (by decide)) (show (0 : Int32).toNatClampNeg = 0 by decide) dX7_begin_27 (fun H locs hP hD hS => ?_)
    have hP : va_P D vwCl [((x 0), .inr (7, o7 x u_this)), ((x 4), .inl (T.1, 7, .inl (upd v4.2 (0) p1)))] H := hP
    have hD : va_D A [((x 0), .inr (7, o7 x u_this)), ((x 4), .inl (T.1, 7, .inl (upd v4.2 (0) p1)))] := hD
    refine lv_aload_n hx hb dX7_begin_28 rfl (lv_at hl 0 rfl) ?_
    refine va_get (D := D) (ci := 7) (v := .ref (x 4)) (C := RX7) (T := TX7) (N := 30) hx hb hts (fun w h => List.mem_cons_of_mem _ (List.mem_append_right _ h)) hown hK hP 0 rfl rfl 10 (by decide) (hts _ (List.mem_of_getElem? (i := 1) rfl)) (fun _ h9 => h9) rfl dX7_begin_29 ?_
    refine lv_iconst (v := 1) hx hb dX7_begin_32 (by decide) ?_
    refine lv_iload_n hx hb dX7_begin_33 rfl (lv_at hl 2 rfl) ?_
    refine xast hx hb hK hP hD hS 1 0 rfl rfl (xin_vp (by decide)) (show (1 : Int32).toNatClampNeg = 1 by decide) dX7_begin_34 (fun H locs hP hD hS => ?_)
    have hP : va_P D vwCl [((x 0), .inr (7, o7 x u_this)), ((x 4), .inl (T.1, 7, .inl (upd (upd v4.2 (0) p1) (1) p2)))] H := hP
    have hD : va_D A [((x 0), .inr (7, o7 x u_this)), ((x 4), .inl (T.1, 7, .inl (upd (upd v4.2 (0) p1) (1) p2)))] := hD
    obtain rfl := Option.some.inj hM
    exact xretv hx hb hr hlocks hP hK hD hS dX7_begin_35
  have Lv1 : ∀ (n : Nat) (v1 : Int32 × (Nat → Int32)), xlp s_X7_begin_2 n v1 = some v4 → ∀ (H : Heap) (locs : List Loc) (ls : Array Slot), va_P D vwCl [((x 0), .inr (7, o7 x u_this)), ((x 4), .inl (T.1, 7, .inl v1.2))] H → va_D A [((x 0), .inr (7, o7 x u_this)), ((x 4), .inl (T.1, 7, .inl v1.2))] → va_S A s.heap H locs → lv_has ls 4 [(0, .ref (x 0)), (1, .int p1), (2, .int p2), (3, .int v1.1)] → W p l e ({ frames := 0, cells := 0, slots := 0, locals := 0 } : Room) s m ([.ref (x 0), .int p1, .int p2] : List Value).toArray below meth c H locs 0 0 (MQ below (va_Qv (fun (_ : Unit) => True) (fun _ => xPost D T [((x 0), .inr (7, o7 x u_this)), ((x 4), .inl (T.1, 7, .inl rv))] A) A) ([.ref (x 0), .int p1, .int p2] : List Value).toArray s 0 0 A) (F0 m 2 ls []) := by
    intro n
    induction n with
    | zero => exact fun _ h => (xlp_0 h).elim
    | succ n ih =>
      intro v1 hM H locs ls hP hD hS hl
      obtain ⟨z, hM, hz1, hz2⟩ := xlp_s hM
      unfold s_X7_begin_2 at hM
      refine lv_iload_n hx hb dX7_begin_2 rfl (lv_at hl 3 rfl) ?_
      refine lv_bipush (v := 7) hx hb dX7_begin_3 (by decide) ?_
      refine lv_icmp_ge (tgt := 21) hx hb dX7_begin_5 (by decide) (fun c2 => ?_) (fun c2 => ?_)
      · have hM := xit c2 hM
        obtain rfl := hz2 _ (Option.some.inj hM).symm
        exact Kv4 _ _ _ hP hD hS (lv_sub hl [0, 1, 2] rfl)
      · have hM := xif c2 hM
        refine lv_aload_n hx hb dX7_begin_8 rfl (lv_at hl 0 rfl) ?_
        refine va_get (D := D) (ci := 7) (v := .ref (x 4)) (C := RX7) (T := TX7) (N := 30) hx hb hts (fun w h => List.mem_cons_of_mem _ (List.mem_append_right _ h)) hown hK hP 0 rfl rfl 10 (by decide) (hts _ (List.mem_of_getElem? (i := 1) rfl)) (fun _ h9 => h9) rfl dX7_begin_9 ?_
        refine lv_iload_n hx hb dX7_begin_12 rfl (lv_at hl 3 rfl) ?_
        refine lv_iconst (v := 0) hx hb dX7_begin_13 (by decide) ?_
        obtain ⟨g3, hM⟩ := xck hM
        refine xast hx hb hK hP hD hS 1 0 rfl rfl g3 rfl dX7_begin_14 (fun H locs hP hD hS => ?_)
        have hP : va_P D vwCl [((x 0), .inr (7, o7 x u_this)), ((x 4), .inl (T.1, 7, .inl (upd v1.2 v1.1.toNatClampNeg (0))))] H := hP
        have hD : va_D A [((x 0), .inr (7, o7 x u_this)), ((x 4), .inl (T.1, 7, .inl (upd v1.2 v1.1.toNatClampNeg (0))))] := hD
        refine lv_iinc (v := v1.1 + 1) (lv' := [(3, .int (v1.1 + 1)), (0, .ref (x 0)), (1, .int p1), (2, .int p2)]) hx hb dX7_begin_15 hl (k := 3) rfl rfl (by decide) rfl (fun ls hl => ?_)
        refine lv_goto (tgt := 2) hx hb dX7_begin_18 (by decide) ?_
        exact ih _ (hz1 _ (Option.some.inj hM).symm) _ _ _ hP hD hS (lv_sub hl [1, 2, 3, 0] rfl)
  exact Lv1 _ _ hM _ _ _ hP hD hS (lv_sub hl [1, 2, 3, 0] rfl)
def s_X7_giveNow_2 (u_this_try0 : (Nat → Int32)) (v1 : Int32 × (Nat → Int32)) : Option ((Int32 × (Nat → Int32)) ⊕ (Int32 × (Nat → Int32))) :=
  if (7) ≤ v1.1 then
   (some (.inr (v1.1, v1.2)))
  else
   (if xin v1.1 7 = true then
    (if xin v1.1 21 = true then
     (some (.inl (v1.1 + 1, (upd v1.2 v1.1.toNatClampNeg (u_this_try0 v1.1.toNatClampNeg)))))
     else none)
    else none)
def f_X7_giveNow (N : Nat) (u_this : K7) (u_this_try0 : (Nat → Int32)) (u_this_nows : (Nat → Int32)) : Option ((Nat → Int32)) :=
  (xlp (s_X7_giveNow_2 u_this_try0) N (0, u_this_nows)).bind fun v5 =>
  some v5.2
set_option maxHeartbeats 4000000 in
set_option maxRecDepth 100000 in
theorem c_X7_giveNow (l : Launch) (D : va_G) (T : xT) (x : Nat → Nat) {sz : Nat} {N : Nat} (u_this : K7) (u_this_try0 : (Nat → Int32)) (u_this_nows : (Nat → Int32)) {rv : (Nat → Int32)} (hM : f_X7_giveNow N u_this u_this_try0 u_this_nows = some rv) : Met l yX7_giveNow wsX7_giveNow ({ frames := 0, cells := 0, slots := 0, locals := 0 } : Room) (va_Pc [.ref (x 0)] (xPre D T [((x 0), .inr (7, o7 x u_this)), ((x 4), .inl (T.1, 7, .inl u_this_try0)), ((x 5), .inl (T.1, 21, .inl u_this_nows))] sz xE0)) (va_Qv (fun (_ : Unit) => True) (fun _ => xPost D T [((x 0), .inr (7, o7 x u_this)), ((x 4), .inl (T.1, 7, .inl u_this_try0)), ((x 5), .inl (T.1, 21, .inl rv))] (va_A [((x 0), .inr (7, o7 x u_this)), ((x 4), .inl (T.1, 7, .inl u_this_try0)), ((x 5), .inl (T.1, 21, .inl u_this_nows))] sz)) (va_A [((x 0), .inr (7, o7 x u_this)), ((x 4), .inl (T.1, 7, .inl u_this_try0)), ((x 5), .inl (T.1, 21, .inl u_this_nows))] sz)) 0 0 (va_A [((x 0), .inr (7, o7 x u_this)), ((x 4), .inl (T.1, 7, .inl u_this_try0)), ((x 5), .inl (T.1, 21, .inl u_this_nows))] sz) := by
  refine xMet (av := [.ref (x 0)]) (Wd := [((x 0), .inr (7, o7 x u_this)), ((x 4), .inl (T.1, 7, .inl u_this_try0)), ((x 5), .inl (T.1, 21, .inl u_this_nows))]) (E := xE0) (Qc := fun A => (va_Qv (fun (_ : Unit) => True) (fun _ => xPost D T [((x 0), .inr (7, o7 x u_this)), ((x 4), .inl (T.1, 7, .inl u_this_try0)), ((x 5), .inl (T.1, 21, .inl rv))] A) A)) (cc := cX7_giveNow) (maxL := 2) (ret := none) (by decide) rfl (Nat.le_of_ble_eq_true rfl) ?_
  intro p e s m below meth c A ls hx hb hr hml hts hown hlocks hnm hP hK hD hS hA hE hl
  have hown : s.vm.findClass RX7 = some m.cls := hown
  have hl : lv_has ls 2 [(0, .ref (x 0))] := hl
  unfold f_X7_giveNow at hM
  refine lv_iconst (v := 0) hx hb dX7_giveNow_0 (by decide) ?_
  refine lv_istore_n (lv' := [(1, .int (0)), (0, .ref (x 0))]) hx hb dX7_giveNow_1 rfl hl (by decide) rfl (fun ls hl => ?_)
  obtain ⟨v5, hM, hNv5⟩ := xbd hM
  have hQv5 := hM
  have Kv5 : ∀ (H : Heap) (locs : List Loc) (ls : Array Slot), va_P D vwCl [((x 0), .inr (7, o7 x u_this)), ((x 4), .inl (T.1, 7, .inl u_this_try0)), ((x 5), .inl (T.1, 21, .inl v5.2))] H → va_D A [((x 0), .inr (7, o7 x u_this)), ((x 4), .inl (T.1, 7, .inl u_this_try0)), ((x 5), .inl (T.1, 21, .inl v5.2))] → va_S A s.heap H locs → lv_has ls 2 [] → W p l e ({ frames := 0, cells := 0, slots := 0, locals := 0 } : Room) s m ([.ref (x 0)] : List Value).toArray below meth c H locs 0 0 (MQ below (va_Qv (fun (_ : Unit) => True) (fun _ => xPost D T [((x 0), .inr (7, o7 x u_this)), ((x 4), .inl (T.1, 7, .inl u_this_try0)), ((x 5), .inl (T.1, 21, .inl rv))] A) A) ([.ref (x 0)] : List Value).toArray s 0 0 A) (F0 m 26 ls []) := by
    intro H locs ls hP hD hS hl
    have hM := hNv5
    obtain rfl := Option.some.inj hM
    exact xretv hx hb hr hlocks hP hK hD hS dX7_giveNow_26
  have Lv1 : ∀ (n : Nat) (v1 : Int32 × (Nat → Int32)), xlp (s_X7_giveNow_2 u_this_try0) n v1 = some v5 → ∀ (H : Heap) (locs : List Loc) (ls : Array Slot), va_P D vwCl [((x 0), .inr (7, o7 x u_this)), ((x 4), .inl (T.1, 7, .inl u_this_try0)), ((x 5), .inl (T.1, 21, .inl v1.2))] H → va_D A [((x 0), .inr (7, o7 x u_this)), ((x 4), .inl (T.1, 7, .inl u_this_try0)), ((x 5), .inl (T.1, 21, .inl v1.2))] → va_S A s.heap H locs → lv_has ls 2 [(0, .ref (x 0)), (1, .int v1.1)] → W p l e ({ frames := 0, cells := 0, slots := 0, locals := 0 } : Room) s m ([.ref (x 0)] : List Value).toArray below meth c H locs 0 0 (MQ below (va_Qv (fun (_ : Unit) => True) (fun _ => xPost D T [((x 0), .inr (7, o7 x u_this)), ((x 4), .inl (T.1, 7, .inl u_this_try0)), ((x 5), .inl (T.1, 21, .inl rv))] A) A) ([.ref (x 0)] : List Value).toArray s 0 0 A) (F0 m 2 ls []) := by
    intro n
    induction n with
    | zero => exact fun _ h => (xlp_0 h).elim
    | succ n ih =>
      intro v1 hM H locs ls hP hD hS hl
      obtain ⟨z, hM, hz1, hz2⟩ := xlp_s hM
      unfold s_X7_giveNow_2 at hM
      refine lv_iload_n hx hb dX7_giveNow_2 rfl (lv_at hl 1 rfl) ?_
      refine lv_bipush (v := 7) hx hb dX7_giveNow_3 (by decide) ?_
      refine lv_icmp_ge (tgt := 26) hx hb dX7_giveNow_5 (by decide) (fun c2 => ?_) (fun c2 => ?_)
      · have hM := xit c2 hM
        obtain rfl := hz2 _ (Option.some.inj hM).symm
        exact Kv5 _ _ _ hP hD hS (lv_sub hl [] rfl)
      · have hM := xif c2 hM
        refine lv_aload_n hx hb dX7_giveNow_8 rfl (lv_at hl 0 rfl) ?_
        refine va_get (D := D) (ci := 7) (v := .ref (x 5)) (C := RX7) (T := TX7) (N := 30) hx hb hts (fun w h => List.mem_cons_of_mem _ (List.mem_append_right _ h)) hown hK hP 0 rfl rfl 11 (by decide) (hts _ (List.mem_of_getElem? (i := 1) rfl)) (fun _ h9 => h9) rfl dX7_giveNow_9 ?_
        refine lv_iload_n hx hb dX7_giveNow_12 rfl (lv_at hl 1 rfl) ?_
        refine lv_aload_n hx hb dX7_giveNow_13 rfl (lv_at hl 0 rfl) ?_
        refine va_get (D := D) (ci := 7) (v := .ref (x 4)) (C := RX7) (T := TX7) (N := 30) hx hb hts (fun w h => List.mem_cons_of_mem _ (List.mem_append_right _ h)) hown hK hP 0 rfl rfl 10 (by decide) (hts _ (List.mem_of_getElem? (i := 2) rfl)) (fun _ h9 => h9) rfl dX7_giveNow_14 ?_
        refine lv_iload_n hx hb dX7_giveNow_17 rfl (lv_at hl 1 rfl) ?_
        obtain ⟨g3, hM⟩ := xck hM
        refine xald (v := (u_this_try0 v1.1.toNatClampNeg)) hx hb hK hP 1 0 rfl rfl g3 rfl dX7_giveNow_18 ?_
        obtain ⟨g4, hM⟩ := xck hM
        refine xast hx hb hK hP hD hS 2 0 rfl rfl g4 rfl dX7_giveNow_19 (fun H locs hP hD hS => ?_)
        have hP : va_P D vwCl [((x 0), .inr (7, o7 x u_this)), ((x 4), .inl (T.1, 7, .inl u_this_try0)), ((x 5), .inl (T.1, 21, .inl (upd v1.2 v1.1.toNatClampNeg (u_this_try0 v1.1.toNatClampNeg))))] H := hP
        have hD : va_D A [((x 0), .inr (7, o7 x u_this)), ((x 4), .inl (T.1, 7, .inl u_this_try0)), ((x 5), .inl (T.1, 21, .inl (upd v1.2 v1.1.toNatClampNeg (u_this_try0 v1.1.toNatClampNeg))))] := hD
        refine lv_iinc (v := v1.1 + 1) (lv' := [(1, .int (v1.1 + 1)), (0, .ref (x 0))]) hx hb dX7_giveNow_20 hl (k := 1) rfl rfl (by decide) rfl (fun ls hl => ?_)
        refine lv_goto (tgt := 2) hx hb dX7_giveNow_23 (by decide) ?_
        exact ih _ (hz1 _ (Option.some.inj hM).symm) _ _ _ hP hD hS (lv_sub hl [1, 0] rfl)
  exact Lv1 _ _ hM _ _ _ hP hD hS (lv_sub hl [1, 0] rfl)
def f_X7_anew (N : Nat) (u_this : K7) (u_this_told : (Nat → Int32)) (u_this_par : (Nat → Int32)) (u_this_try0 : (Nat → Int32)) (u_this_nows : (Nat → Int32)) : Option (Int32 × (Nat → Int32) × (Nat → Int32) × (Nat → Int32)) :=
  (f_X7_takeTold N u_this u_this_told u_this_par).bind fun r1 =>
  (f_X7_begin N u_this u_this_try0 ((10) * (r1 2)) (r1 8)).bind fun r2 =>
  (f_X7_giveNow N u_this r2 u_this_nows).bind fun r3 =>
  some ((u_this_nows 3), r1, r2, r3)
set_option maxHeartbeats 4000000 in
set_option maxRecDepth 100000 in
theorem c_X7_anew (l : Launch) (D : va_G) (T : xT) (x : Nat → Nat) {sz : Nat} {N : Nat} (u_this : K7) (u_this_told : (Nat → Int32)) (u_this_par : (Nat → Int32)) (u_this_try0 : (Nat → Int32)) (u_this_nows : (Nat → Int32)) {rv : Int32 × (Nat → Int32) × (Nat → Int32) × (Nat → Int32)} (hM : f_X7_anew N u_this u_this_told u_this_par u_this_try0 u_this_nows = some rv) : Met l yX7_anew wsX7_anew ({ frames := 1, cells := 0, slots := 0, locals := 23 } : Room) (va_Pc [.ref (x 0)] (xPre D T [((x 0), .inr (7, o7 x u_this)), ((x 2), .inl (T.1, 22, .inl u_this_told)), ((x 3), .inl (T.1, 11, .inl u_this_par)), ((x 4), .inl (T.1, 7, .inl u_this_try0)), ((x 5), .inl (T.1, 21, .inl u_this_nows))] sz xE0)) (va_Qi (fun (r : Int32) (_ : Unit) => r = rv.1) (fun _ => xPost D T [((x 0), .inr (7, o7 x u_this)), ((x 2), .inl (T.1, 22, .inl u_this_told)), ((x 3), .inl (T.1, 11, .inl rv.2.1)), ((x 4), .inl (T.1, 7, .inl rv.2.2.1)), ((x 5), .inl (T.1, 21, .inl rv.2.2.2))] (va_A [((x 0), .inr (7, o7 x u_this)), ((x 2), .inl (T.1, 22, .inl u_this_told)), ((x 3), .inl (T.1, 11, .inl u_this_par)), ((x 4), .inl (T.1, 7, .inl u_this_try0)), ((x 5), .inl (T.1, 21, .inl u_this_nows))] sz)) (va_A [((x 0), .inr (7, o7 x u_this)), ((x 2), .inl (T.1, 22, .inl u_this_told)), ((x 3), .inl (T.1, 11, .inl u_this_par)), ((x 4), .inl (T.1, 7, .inl u_this_try0)), ((x 5), .inl (T.1, 21, .inl u_this_nows))] sz)) 0 0 (va_A [((x 0), .inr (7, o7 x u_this)), ((x 2), .inl (T.1, 22, .inl u_this_told)), ((x 3), .inl (T.1, 11, .inl u_this_par)), ((x 4), .inl (T.1, 7, .inl u_this_try0)), ((x 5), .inl (T.1, 21, .inl u_this_nows))] sz) := by
  refine xMet (av := [.ref (x 0)]) (Wd := [((x 0), .inr (7, o7 x u_this)), ((x 2), .inl (T.1, 22, .inl u_this_told)), ((x 3), .inl (T.1, 11, .inl u_this_par)), ((x 4), .inl (T.1, 7, .inl u_this_try0)), ((x 5), .inl (T.1, 21, .inl u_this_nows))]) (E := xE0) (Qc := fun A => (va_Qi (fun (r : Int32) (_ : Unit) => r = rv.1) (fun _ => xPost D T [((x 0), .inr (7, o7 x u_this)), ((x 2), .inl (T.1, 22, .inl u_this_told)), ((x 3), .inl (T.1, 11, .inl rv.2.1)), ((x 4), .inl (T.1, 7, .inl rv.2.2.1)), ((x 5), .inl (T.1, 21, .inl rv.2.2.2))] A) A)) (cc := cX7_anew) (maxL := 2) (ret := (some .int)) (by decide) rfl (Nat.le_of_ble_eq_true rfl) ?_
  intro p e s m below meth c A ls hx hb hr hml hts hown hlocks hnm hP hK hD hS hA hE hl
  have hown : s.vm.findClass RX7 = some m.cls := hown
  have hl : lv_has ls 2 [(0, .ref (x 0))] := hl
  unfold f_X7_anew at hM
  refine lv_aload_n hx hb dX7_anew_0 rfl (lv_at hl 0 rfl) ?_
  refine va_get (D := D) (ci := 7) (v := .ref (x 5)) (C := RX7) (T := TX7) (N := 30) hx hb hts (fun w h => List.mem_cons_of_mem _ (List.mem_append_right _ h)) hown hK hP 0 rfl rfl 11 (by decide) (hts _ (List.mem_of_getElem? (i := 1) rfl)) (fun _ h9 => h9) rfl dX7_anew_1 ?_
  refine lv_iconst (v := 3) hx hb dX7_anew_4 (by decide) ?_
  refine xald (v := (u_this_nows 3)) hx hb hK hP 4 0 rfl rfl (xin_vp (by decide)) (congrArg _ (show (3 : Int32).toNatClampNeg = 3 by decide)) dX7_anew_5 ?_
  refine lv_istore_n (lv' := [(1, .int (u_this_nows 3)), (0, .ref (x 0))]) hx hb dX7_anew_6 rfl hl (by decide) rfl (fun ls hl => ?_)
  refine lv_aload_n hx hb dX7_anew_7 rfl (lv_at hl 1 rfl) ?_
  obtain ⟨r1, er1, hM⟩ := xbd hM
  refine xaftv (W2 := [((x 0), .inr (7, o7 x u_this)), ((x 2), .inl (T.1, 22, .inl u_this_told)), ((x 3), .inl (T.1, 11, .inl r1)), ((x 4), .inl (T.1, 7, .inl u_this_try0)), ((x 5), .inl (T.1, 21, .inl u_this_nows))]) (va_runV (As := []) (rest := []) ⟨hx, hb, hml, hown, hts⟩ (c_X7_takeTold l D T x u_this u_this_told u_this_par er1) (cwV 0 hts gX7_anew_X7_takeTold rfl rfl rfl (by decide +kernel) ⟨Nat.le_of_ble_eq_true rfl, Nat.le_of_ble_eq_true rfl⟩) (xpvv hP hD hK [0, 1, 2] (by decide) rfl 0 7 rfl rfl (fun _ _ _ => trivial) (fun _ _ _ _ _ _ => trivial)) rfl rfl hl.1 rfl (lv_room (Nat.le_of_ble_eq_true rfl)) dX7_anew_8 ⟨Nat.le_of_ble_eq_true rfl, Nat.le_of_ble_eq_true rfl⟩) hP hD hS hA [0, 1, 2] rfl rfl rfl rfl (fun H locs hP hD hS => ?_)
  refine lv_aload_n hx hb dX7_anew_11 rfl (lv_at hl 1 rfl) ?_
  refine lv_bipush (v := 10) hx hb dX7_anew_12 (by decide) ?_
  refine lv_aload_n hx hb dX7_anew_14 rfl (lv_at hl 1 rfl) ?_
  refine va_get (D := D) (ci := 7) (v := .ref (x 3)) (C := RX7) (T := TX7) (N := 30) hx hb hts (fun w h => List.mem_cons_of_mem _ (List.mem_append_right _ h)) hown hK hP 0 rfl rfl 9 (by decide) (hts _ (List.mem_of_getElem? (i := 2) rfl)) (fun _ h9 => h9) rfl dX7_anew_15 ?_
  refine lv_iconst (v := 2) hx hb dX7_anew_18 (by decide) ?_
  refine xald (v := (r1 2)) hx hb hK hP 2 0 rfl rfl (xin_vp (by decide)) (congrArg _ (show (2 : Int32).toNatClampNeg = 2 by decide)) dX7_anew_19 ?_
  refine lv_imul hx hb dX7_anew_20 ?_
  refine lv_aload_n hx hb dX7_anew_21 rfl (lv_at hl 1 rfl) ?_
  refine va_get (D := D) (ci := 7) (v := .ref (x 3)) (C := RX7) (T := TX7) (N := 30) hx hb hts (fun w h => List.mem_cons_of_mem _ (List.mem_append_right _ h)) hown hK hP 0 rfl rfl 9 (by decide) (hts _ (List.mem_of_getElem? (i := 2) rfl)) (fun _ h9 => h9) rfl dX7_anew_22 ?_
  refine lv_bipush (v := 8) hx hb dX7_anew_25 (by decide) ?_
  refine xald (v := (r1 8)) hx hb hK hP 2 0 rfl rfl (xin_vp (by decide)) (congrArg _ (show (8 : Int32).toNatClampNeg = 8 by decide)) dX7_anew_27 ?_
  obtain ⟨r2, er2, hM⟩ := xbd hM
  refine xaftv (W2 := [((x 0), .inr (7, o7 x u_this)), ((x 2), .inl (T.1, 22, .inl u_this_told)), ((x 3), .inl (T.1, 11, .inl r1)), ((x 4), .inl (T.1, 7, .inl r2)), ((x 5), .inl (T.1, 21, .inl u_this_nows))]) (va_runV (As := [.int ((10) * (r1 2)), .int (r1 8)]) (rest := []) ⟨hx, hb, hml, hown, hts⟩ (c_X7_begin l D T x u_this u_this_try0 ((10) * (r1 2)) (r1 8) er2) (cwV 2 hts gX7_anew_X7_begin rfl rfl rfl (by decide +kernel) ⟨Nat.le_of_ble_eq_true rfl, Nat.le_of_ble_eq_true rfl⟩) (xpvv hP hD hK [0, 3] (by decide) rfl 0 7 rfl rfl (fun _ _ _ => trivial) (fun _ _ _ _ _ _ => trivial)) rfl rfl hl.1 rfl (lv_room (Nat.le_of_ble_eq_true rfl)) dX7_anew_28 ⟨Nat.le_of_ble_eq_true rfl, Nat.le_of_ble_eq_true rfl⟩) hP hD hS hA [0, 3] rfl rfl rfl rfl (fun H locs hP hD hS => ?_)
  refine lv_aload_n hx hb dX7_anew_31 rfl (lv_at hl 1 rfl) ?_
  obtain ⟨r3, er3, hM⟩ := xbd hM
  refine xaftv (W2 := [((x 0), .inr (7, o7 x u_this)), ((x 2), .inl (T.1, 22, .inl u_this_told)), ((x 3), .inl (T.1, 11, .inl r1)), ((x 4), .inl (T.1, 7, .inl r2)), ((x 5), .inl (T.1, 21, .inl r3))]) (va_runV (As := []) (rest := []) ⟨hx, hb, hml, hown, hts⟩ (c_X7_giveNow l D T x u_this r2 u_this_nows er3) (cwV 0 hts gX7_anew_X7_giveNow rfl rfl rfl (by decide +kernel) ⟨Nat.le_of_ble_eq_true rfl, Nat.le_of_ble_eq_true rfl⟩) (xpvv hP hD hK [0, 3, 4] (by decide) rfl 0 7 rfl rfl (fun _ _ _ => trivial) (fun _ _ _ _ _ _ => trivial)) rfl rfl hl.1 rfl (lv_room (Nat.le_of_ble_eq_true rfl)) dX7_anew_32 ⟨Nat.le_of_ble_eq_true rfl, Nat.le_of_ble_eq_true rfl⟩) hP hD hS hA [0, 3, 4] rfl rfl rfl rfl (fun H locs hP hD hS => ?_)
  refine lv_iload_n hx hb dX7_anew_35 rfl (lv_at hl 0 rfl) ?_
  obtain rfl := Option.some.inj hM
  exact xreti hx hb hr hlocks hP hK hD hS dX7_anew_36 rfl
def f_X7_in (p1 : Int32) (p2 : Int32) (p3 : Int32) : Int32 :=
  if p1 < p2 then
   (0)
  else
   (if p3 < p1 then
     (0)
    else
     (1))
theorem b_X7_in (a b c : Int32) : f_X7_in a b c = 0 ∨ f_X7_in a b c = 1 := by
  unfold f_X7_in
  repeat' split
  all_goals simp
set_option maxHeartbeats 4000000 in
set_option maxRecDepth 100000 in
theorem c_X7_in (l : Launch) (D : va_G) (T : xT)  {sz : Nat} (p1 : Int32) (p2 : Int32) (p3 : Int32) {rv : Int32} (hM : f_X7_in p1 p2 p3 = rv) : Met l yX7_in wsX7_in ({ frames := 0, cells := 0, slots := 0, locals := 0 } : Room) (va_Pc [.int p1, .int p2, .int p3] (xPre D T [] sz xE0)) (va_Qi (fun (r : Int32) (_ : Unit) => r = rv) (fun _ => xPost D T [] (va_A [] sz)) (va_A [] sz)) 0 0 (va_A [] sz) := by
  refine xMet (av := [.int p1, .int p2, .int p3]) (Wd := []) (E := xE0) (Qc := fun A => (va_Qi (fun (r : Int32) (_ : Unit) => r = rv) (fun _ => xPost D T [] A) A)) (cc := cX7_in) (maxL := 3) (ret := (some .boolean)) (by decide) rfl (Nat.le_of_ble_eq_true rfl) ?_
  intro p e s m below meth c A ls hx hb hr hml hts hown hlocks hnm hP hK hD hS hA hE hl
  have hown : s.vm.findClass RX7 = some m.cls := hown
  have hl : lv_has ls 3 [(0, .int p1), (1, .int p2), (2, .int p3)] := hl
  unfold f_X7_in at hM
  refine lv_iload_n hx hb dX7_in_0 rfl (lv_at hl 0 rfl) ?_
  refine lv_iload_n hx hb dX7_in_1 rfl (lv_at hl 1 rfl) ?_
  refine lv_icmp_lt (tgt := 14) hx hb dX7_in_2 (by decide) (fun c1 => ?_) (fun c1 => ?_)
  · have hM := xit c1 hM
    refine lv_iconst (v := 0) hx hb dX7_in_14 (by decide) ?_
    obtain rfl := hM
    exact xretz hx hb hr hlocks hP hK hD hS dX7_in_15 rfl rfl
  · have hM := xif c1 hM
    refine lv_iload_n hx hb dX7_in_5 rfl (lv_at hl 0 rfl) ?_
    refine lv_iload_n hx hb dX7_in_6 rfl (lv_at hl 2 rfl) ?_
    refine lv_icmp_gt (tgt := 14) hx hb dX7_in_7 (by decide) (fun c2 => ?_) (fun c2 => ?_)
    · have hM := xit c2 hM
      refine lv_iconst (v := 0) hx hb dX7_in_14 (by decide) ?_
      obtain rfl := hM
      exact xretz hx hb hr hlocks hP hK hD hS dX7_in_15 rfl rfl
    · have hM := xif c2 hM
      refine lv_iconst (v := 1) hx hb dX7_in_10 (by decide) ?_
      refine lv_goto (tgt := 15) hx hb dX7_in_11 (by decide) ?_
      obtain rfl := hM
      exact xretz hx hb hr hlocks hP hK hD hS dX7_in_15 rfl rfl
def s_X7_type_32 (p1 : Int64) (v3 : Int32 × Int32 × (Nat → Int32)) : Option ((Int32 × Int32 × (Nat → Int32)) ⊕ (Int32 × Int32 × (Nat → Int32))) :=
  if v3.1 < (0) then
   (some (.inr (v3.1, v3.2.1, v3.2.2)))
  else
   (if xin v3.2.1 300 = true then
    (some (.inl (v3.1 + (-1), (v3.2.1 + (1)), (upd v3.2.2 v3.2.1.toNatClampNeg (vp_nar .byte ((((p1 >>> (((8) * v3.1).toInt64 &&& 63)) &&& (255)).toInt32).toInt8.toInt32))))))
    else none)
def f_X7_type (N : Nat) (u_this : K7) (u_this_text : (Nat → Int32)) (p1 : Int64) (p2 : Int32) : Option (Int32 × K7 × (Nat → Int32)) :=
  if (f_X7_in p2 (1) (8)) = (0) then
   (some ((-1), u_this, u_this_text))
  else
   (if (u_this.2.1 + p2) ≤ (300) then
     ((xlp (s_X7_type_32 p1) N ((p2 - (1)), u_this.2.1, u_this_text)).bind fun v6 =>
      some (v6.2.1, (u_this.1, v6.2.1, u_this.2.2.1, u_this.2.2.2.1, u_this.2.2.2.2.1, u_this.2.2.2.2.2.1, u_this.2.2.2.2.2.2.1, u_this.2.2.2.2.2.2.2.1, u_this.2.2.2.2.2.2.2.2.1, u_this.2.2.2.2.2.2.2.2.2.1, u_this.2.2.2.2.2.2.2.2.2.2.1, u_this.2.2.2.2.2.2.2.2.2.2.2), v6.2.2))
    else
     (some ((-3), u_this, u_this_text)))
set_option maxHeartbeats 4000000 in
set_option maxRecDepth 100000 in
theorem c_X7_type (l : Launch) (D : va_G) (T : xT) (x : Nat → Nat) {sz : Nat} {N : Nat} (u_this : K7) (u_this_text : (Nat → Int32)) (p1 : Int64) (p2 : Int32) {rv : Int32 × K7 × (Nat → Int32)} (hM : f_X7_type N u_this u_this_text p1 p2 = some rv) : Met l yX7_type wsX7_type ({ frames := 1, cells := 0, slots := 0, locals := 22 } : Room) (va_Pc [.ref (x 0), .long p1, .int p2] (xPre D T [((x 0), .inr (7, o7 x u_this)), ((x 1), .inl (T.2.1, 300, .inl u_this_text))] sz xE0)) (va_Qi (fun (r : Int32) (_ : Unit) => r = rv.1) (fun _ => xPost D T [((x 0), .inr (7, o7 x rv.2.1)), ((x 1), .inl (T.2.1, 300, .inl rv.2.2))] (va_A [((x 0), .inr (7, o7 x u_this)), ((x 1), .inl (T.2.1, 300, .inl u_this_text))] sz)) (va_A [((x 0), .inr (7, o7 x u_this)), ((x 1), .inl (T.2.1, 300, .inl u_this_text))] sz)) 0 0 (va_A [((x 0), .inr (7, o7 x u_this)), ((x 1), .inl (T.2.1, 300, .inl u_this_text))] sz) := by
  refine xMet (av := [.ref (x 0), .long p1, .int p2]) (Wd := [((x 0), .inr (7, o7 x u_this)), ((x 1), .inl (T.2.1, 300, .inl u_this_text))]) (E := xE0) (Qc := fun A => (va_Qi (fun (r : Int32) (_ : Unit) => r = rv.1) (fun _ => xPost D T [((x 0), .inr (7, o7 x rv.2.1)), ((x 1), .inl (T.2.1, 300, .inl rv.2.2))] A) A)) (cc := cX7_type) (maxL := 5) (ret := (some .int)) (by decide) rfl (Nat.le_of_ble_eq_true rfl) ?_
  intro p e s m below meth c A ls hx hb hr hml hts hown hlocks hnm hP hK hD hS hA hE hl
  have hown : s.vm.findClass RX7 = some m.cls := hown
  have hl : lv_has ls 5 [(0, .ref (x 0)), (1, .long p1), (3, .int p2)] := hl
  unfold f_X7_type at hM
  refine lv_iload_n hx hb dX7_type_0 rfl (lv_at hl 2 rfl) ?_
  refine lv_iconst (v := 1) hx hb dX7_type_1 (by decide) ?_
  refine lv_bipush (v := 8) hx hb dX7_type_2 (by decide) ?_
  refine xafti (rv := (f_X7_in p2 (1) (8))) (W2 := [((x 0), .inr (7, o7 x u_this)), ((x 1), .inl (T.2.1, 300, .inl u_this_text))]) (va_runS (As := [.int p2, .int (1), .int (8)]) (rest := []) ⟨hx, hb, hml, hown, hts⟩ (c_X7_in (rv := (f_X7_in p2 (1) (8))) l D T p2 (1) (8) rfl) (cwS 3 hts gX7_type_X7_in rfl rfl rfl (by decide +kernel) ⟨Nat.le_of_ble_eq_true rfl, Nat.le_of_ble_eq_true rfl⟩) (xpvs hP hD hK [] (by decide) rfl (fun _ _ _ => trivial) (fun _ _ _ _ _ _ => trivial)) rfl rfl hl.1 rfl (lv_room (Nat.le_of_ble_eq_true rfl)) dX7_type_4 ⟨Nat.le_of_ble_eq_true rfl, Nat.le_of_ble_eq_true rfl⟩) hP hD hS hA [] rfl rfl rfl rfl (fun H locs hP hD hS => ?_)
  refine lv_if_ne (tgt := 12) hx hb dX7_type_7 (by decide) (fun c1 => ?_) (fun c1 => ?_)
  · have hM := xif c1 hM
    refine lv_aload_n hx hb dX7_type_12 rfl (lv_at hl 0 rfl) ?_
    refine va_get (D := D) (ci := 7) (v := .int u_this.2.1) (C := RX7) (T := TX7) (N := 30) hx hb hts (fun w h => List.mem_cons_of_mem _ (List.mem_append_right _ h)) hown hK hP 0 rfl rfl 2 (by decide) (hts _ (List.mem_of_getElem? (i := 1) rfl)) (fun _ h9 => h9) rfl dX7_type_13 ?_
    refine lv_iload_n hx hb dX7_type_16 rfl (lv_at hl 2 rfl) ?_
    refine lv_iadd hx hb dX7_type_17 ?_
    refine lv_sipush (v := 300) hx hb dX7_type_18 (by decide) ?_
    refine lv_icmp_le (tgt := 27) hx hb dX7_type_21 (by decide) (fun c2 => ?_) (fun c2 => ?_)
    · have hM := xit c2 hM
      refine lv_iload_n hx hb dX7_type_27 rfl (lv_at hl 2 rfl) ?_
      refine lv_iconst (v := 1) hx hb dX7_type_28 (by decide) ?_
      refine lv_isub hx hb dX7_type_29 ?_
      refine lv_istore (lv' := [(4, .int (p2 - (1))), (0, .ref (x 0)), (1, .long p1), (3, .int p2)]) hx hb dX7_type_30 hl (by decide) rfl (fun ls hl => ?_)
      obtain ⟨v6, hM, hNv6⟩ := xbd hM
      have hQv6 := hM
      have Kv6 : ∀ (H : Heap) (locs : List Loc) (ls : Array Slot), va_P D vwCl [((x 0), .inr (7, o7 x (u_this.1, v6.2.1, u_this.2.2.1, u_this.2.2.2.1, u_this.2.2.2.2.1, u_this.2.2.2.2.2.1, u_this.2.2.2.2.2.2.1, u_this.2.2.2.2.2.2.2.1, u_this.2.2.2.2.2.2.2.2.1, u_this.2.2.2.2.2.2.2.2.2.1, u_this.2.2.2.2.2.2.2.2.2.2.1, u_this.2.2.2.2.2.2.2.2.2.2.2))), ((x 1), .inl (T.2.1, 300, .inl v6.2.2))] H → va_D A [((x 0), .inr (7, o7 x (u_this.1, v6.2.1, u_this.2.2.1, u_this.2.2.2.1, u_this.2.2.2.2.1, u_this.2.2.2.2.2.1, u_this.2.2.2.2.2.2.1, u_this.2.2.2.2.2.2.2.1, u_this.2.2.2.2.2.2.2.2.1, u_this.2.2.2.2.2.2.2.2.2.1, u_this.2.2.2.2.2.2.2.2.2.2.1, u_this.2.2.2.2.2.2.2.2.2.2.2))), ((x 1), .inl (T.2.1, 300, .inl v6.2.2))] → va_S A s.heap H locs → lv_has ls 5 [(0, .ref (x 0))] → W p l e ({ frames := 1, cells := 0, slots := 0, locals := 22 } : Room) s m ([.ref (x 0), .long p1, .int p2] : List Value).toArray below meth c H locs 0 0 (MQ below (va_Qi (fun (r : Int32) (_ : Unit) => r = rv.1) (fun _ => xPost D T [((x 0), .inr (7, o7 x rv.2.1)), ((x 1), .inl (T.2.1, 300, .inl rv.2.2))] A) A) ([.ref (x 0), .long p1, .int p2] : List Value).toArray s 0 0 A) (F0 m 75 ls []) := by
        intro H locs ls hP hD hS hl
        have hM := hNv6
        refine lv_aload_n hx hb dX7_type_75 rfl (lv_at hl 0 rfl) ?_
        refine va_get (D := D) (ci := 7) (v := .int v6.2.1) (C := RX7) (T := TX7) (N := 30) hx hb hts (fun w h => List.mem_cons_of_mem _ (List.mem_append_right _ h)) hown hK hP 0 rfl rfl 2 (by decide) (hts _ (List.mem_of_getElem? (i := 1) rfl)) (fun _ h9 => h9) rfl dX7_type_76 ?_
        obtain rfl := Option.some.inj hM
        exact xreti hx hb hr hlocks hP hK hD hS dX7_type_79 rfl
      have Lv3 : ∀ (n : Nat) (v3 : Int32 × Int32 × (Nat → Int32)), xlp (s_X7_type_32 p1) n v3 = some v6 → ∀ (H : Heap) (locs : List Loc) (ls : Array Slot), va_P D vwCl [((x 0), .inr (7, o7 x (u_this.1, v3.2.1, u_this.2.2.1, u_this.2.2.2.1, u_this.2.2.2.2.1, u_this.2.2.2.2.2.1, u_this.2.2.2.2.2.2.1, u_this.2.2.2.2.2.2.2.1, u_this.2.2.2.2.2.2.2.2.1, u_this.2.2.2.2.2.2.2.2.2.1, u_this.2.2.2.2.2.2.2.2.2.2.1, u_this.2.2.2.2.2.2.2.2.2.2.2))), ((x 1), .inl (T.2.1, 300, .inl v3.2.2))] H → va_D A [((x 0), .inr (7, o7 x (u_this.1, v3.2.1, u_this.2.2.1, u_this.2.2.2.1, u_this.2.2.2.2.1, u_this.2.2.2.2.2.1, u_this.2.2.2.2.2.2.1, u_this.2.2.2.2.2.2.2.1, u_this.2.2.2.2.2.2.2.2.1, u_this.2.2.2.2.2.2.2.2.2.1, u_this.2.2.2.2.2.2.2.2.2.2.1, u_this.2.2.2.2.2.2.2.2.2.2.2))), ((x 1), .inl (T.2.1, 300, .inl v3.2.2))] → va_S A s.heap H locs → lv_has ls 5 [(0, .ref (x 0)), (1, .long p1), (4, .int v3.1)] → W p l e ({ frames := 1, cells := 0, slots := 0, locals := 22 } : Room) s m ([.ref (x 0), .long p1, .int p2] : List Value).toArray below meth c H locs 0 0 (MQ below (va_Qi (fun (r : Int32) (_ : Unit) => r = rv.1) (fun _ => xPost D T [((x 0), .inr (7, o7 x rv.2.1)), ((x 1), .inl (T.2.1, 300, .inl rv.2.2))] A) A) ([.ref (x 0), .long p1, .int p2] : List Value).toArray s 0 0 A) (F0 m 32 ls []) := by
        intro n
        induction n with
        | zero => exact fun _ h => (xlp_0 h).elim
        | succ n ih =>
          intro v3 hM H locs ls hP hD hS hl
          obtain ⟨z, hM, hz1, hz2⟩ := xlp_s hM
          unfold s_X7_type_32 at hM
          refine lv_iload hx hb dX7_type_32 (lv_at hl 2 rfl) ?_
          refine lv_if_lt (tgt := 75) hx hb dX7_type_34 (by decide) (fun c4 => ?_) (fun c4 => ?_)
          · have hM := xit c4 hM
            obtain rfl := hz2 _ (Option.some.inj hM).symm
            exact Kv6 _ _ _ hP hD hS (lv_sub hl [0] rfl)
          · have hM := xif c4 hM
            refine lv_aload_n hx hb dX7_type_37 rfl (lv_at hl 0 rfl) ?_
            refine va_get (D := D) (ci := 7) (v := .ref (x 1)) (C := RX7) (T := TX7) (N := 30) hx hb hts (fun w h => List.mem_cons_of_mem _ (List.mem_append_right _ h)) hown hK hP 0 rfl rfl 1 (by decide) (hts _ (List.mem_of_getElem? (i := 2) rfl)) (fun _ h9 => h9) rfl dX7_type_38 ?_
            refine lv_aload_n hx hb dX7_type_41 rfl (lv_at hl 0 rfl) ?_
            refine va_get (D := D) (ci := 7) (v := .int v3.2.1) (C := RX7) (T := TX7) (N := 30) hx hb hts (fun w h => List.mem_cons_of_mem _ (List.mem_append_right _ h)) hown hK hP 0 rfl rfl 2 (by decide) (hts _ (List.mem_of_getElem? (i := 1) rfl)) (fun _ h9 => h9) rfl dX7_type_42 ?_
            refine lv_lload_n hx hb dX7_type_45 rfl (lv_at hl 1 rfl) ?_
            refine lv_bipush (v := 8) hx hb dX7_type_46 (by decide) ?_
            refine lv_iload hx hb dX7_type_48 (lv_at hl 2 rfl) ?_
            refine lv_imul hx hb dX7_type_50 ?_
            refine lv_lshr (v := (p1 >>> (((8) * v3.1).toInt64 &&& 63))) hx hb dX7_type_51 rfl ?_
            refine lv_ldc2 (v := 255) hx hb hown (hts _ (List.mem_of_getElem? (i := 3) rfl)) dX7_type_52 ?_
            refine lv_land hx hb dX7_type_55 ?_
            refine lv_l2i (v := ((p1 >>> (((8) * v3.1).toInt64 &&& 63)) &&& (255)).toInt32) hx hb dX7_type_56 rfl ?_
            refine lv_i2b (v := (((p1 >>> (((8) * v3.1).toInt64 &&& 63)) &&& (255)).toInt32).toInt8.toInt32) hx hb dX7_type_57 rfl ?_
            obtain ⟨g5, hM⟩ := xck hM
            refine xbst hx hb hK hP hD hS 1 1 rfl rfl g5 rfl (y := (vp_nar .byte ((((p1 >>> (((8) * v3.1).toInt64 &&& 63)) &&& (255)).toInt32).toInt8.toInt32))) rfl dX7_type_58 (fun H locs hP hD hS => ?_)
            have hP : va_P D vwCl [((x 0), .inr (7, o7 x (u_this.1, v3.2.1, u_this.2.2.1, u_this.2.2.2.1, u_this.2.2.2.2.1, u_this.2.2.2.2.2.1, u_this.2.2.2.2.2.2.1, u_this.2.2.2.2.2.2.2.1, u_this.2.2.2.2.2.2.2.2.1, u_this.2.2.2.2.2.2.2.2.2.1, u_this.2.2.2.2.2.2.2.2.2.2.1, u_this.2.2.2.2.2.2.2.2.2.2.2))), ((x 1), .inl (T.2.1, 300, .inl (upd v3.2.2 v3.2.1.toNatClampNeg (vp_nar .byte ((((p1 >>> (((8) * v3.1).toInt64 &&& 63)) &&& (255)).toInt32).toInt8.toInt32)))))] H := hP
            have hD : va_D A [((x 0), .inr (7, o7 x (u_this.1, v3.2.1, u_this.2.2.1, u_this.2.2.2.1, u_this.2.2.2.2.1, u_this.2.2.2.2.2.1, u_this.2.2.2.2.2.2.1, u_this.2.2.2.2.2.2.2.1, u_this.2.2.2.2.2.2.2.2.1, u_this.2.2.2.2.2.2.2.2.2.1, u_this.2.2.2.2.2.2.2.2.2.2.1, u_this.2.2.2.2.2.2.2.2.2.2.2))), ((x 1), .inl (T.2.1, 300, .inl (upd v3.2.2 v3.2.1.toNatClampNeg (vp_nar .byte ((((p1 >>> (((8) * v3.1).toInt64 &&& 63)) &&& (255)).toInt32).toInt8.toInt32)))))] := hD
            refine lv_aload_n hx hb dX7_type_59 rfl (lv_at hl 0 rfl) ?_
            refine lv_dup hx hb dX7_type_60 rfl ?_
            refine va_get (D := D) (ci := 7) (v := .int v3.2.1) (C := RX7) (T := TX7) (N := 30) hx hb hts (fun w h => List.mem_cons_of_mem _ (List.mem_append_right _ h)) hown hK hP 0 rfl rfl 2 (by decide) (hts _ (List.mem_of_getElem? (i := 1) rfl)) (fun _ h9 => h9) rfl dX7_type_61 ?_
            refine lv_iconst (v := 1) hx hb dX7_type_64 (by decide) ?_
            refine lv_iadd hx hb dX7_type_65 ?_
            refine va_put (D := D) (ci := 7) (v := .int (v3.2.1 + (1))) (C := RX7) (T := TX7) (N := 30) hx hb hts (fun w h => List.mem_cons_of_mem _ (List.mem_append_right _ h)) tyX7 tyX7_ok nmX7 hown hK hP hD hS 0 rfl rfl 2 (by decide) (hts _ (List.mem_of_getElem? (i := 1) rfl)) (fun _ h9 => h9) rfl (tyX7_ok 2 (by decide)) rfl rfl (Nat.le_of_ble_eq_true rfl) dX7_type_66 (fun H locs hP hD hS => ?_)
            have hP : va_P D vwCl [((x 0), .inr (7, o7 x (u_this.1, (v3.2.1 + (1)), u_this.2.2.1, u_this.2.2.2.1, u_this.2.2.2.2.1, u_this.2.2.2.2.2.1, u_this.2.2.2.2.2.2.1, u_this.2.2.2.2.2.2.2.1, u_this.2.2.2.2.2.2.2.2.1, u_this.2.2.2.2.2.2.2.2.2.1, u_this.2.2.2.2.2.2.2.2.2.2.1, u_this.2.2.2.2.2.2.2.2.2.2.2))), ((x 1), .inl (T.2.1, 300, .inl (upd v3.2.2 v3.2.1.toNatClampNeg (vp_nar .byte ((((p1 >>> (((8) * v3.1).toInt64 &&& 63)) &&& (255)).toInt32).toInt8.toInt32)))))] H := hP
            have hD : va_D A [((x 0), .inr (7, o7 x (u_this.1, (v3.2.1 + (1)), u_this.2.2.1, u_this.2.2.2.1, u_this.2.2.2.2.1, u_this.2.2.2.2.2.1, u_this.2.2.2.2.2.2.1, u_this.2.2.2.2.2.2.2.1, u_this.2.2.2.2.2.2.2.2.1, u_this.2.2.2.2.2.2.2.2.2.1, u_this.2.2.2.2.2.2.2.2.2.2.1, u_this.2.2.2.2.2.2.2.2.2.2.2))), ((x 1), .inl (T.2.1, 300, .inl (upd v3.2.2 v3.2.1.toNatClampNeg (vp_nar .byte ((((p1 >>> (((8) * v3.1).toInt64 &&& 63)) &&& (255)).toInt32).toInt8.toInt32)))))] := hD
            refine lv_iinc (v := v3.1 + (-1)) (lv' := [(4, .int (v3.1 + (-1))), (0, .ref (x 0)), (1, .long p1)]) hx hb dX7_type_69 hl (k := 2) rfl rfl (by decide) rfl (fun ls hl => ?_)
            refine lv_goto (tgt := 32) hx hb dX7_type_72 (by decide) ?_
            exact ih _ (hz1 _ (Option.some.inj hM).symm) _ _ _ hP hD hS (lv_sub hl [1, 2, 0] rfl)
      exact Lv3 _ _ hM _ _ _ hP hD hS (lv_sub hl [1, 2, 0] rfl)
    · have hM := xif c2 hM
      refine lv_bipush (v := (-3)) hx hb dX7_type_24 (by decide) ?_
      obtain rfl := Option.some.inj hM
      exact xreti hx hb hr hlocks hP hK hD hS dX7_type_26 rfl
  · have hM := xit c1 hM
    refine lv_iconst (v := (-1)) hx hb dX7_type_10 (by decide) ?_
    obtain rfl := Option.some.inj hM
    exact xreti hx hb hr hlocks hP hK hD hS dX7_type_11 rfl
def f_X7_clear (u_this : K7) : Int32 × K7 :=
  (u_this.2.1, (u_this.1, 0, u_this.2.2.1, u_this.2.2.2.1, u_this.2.2.2.2.1, u_this.2.2.2.2.2.1, u_this.2.2.2.2.2.2.1, u_this.2.2.2.2.2.2.2.1, u_this.2.2.2.2.2.2.2.2.1, u_this.2.2.2.2.2.2.2.2.2.1, u_this.2.2.2.2.2.2.2.2.2.2.1, u_this.2.2.2.2.2.2.2.2.2.2.2))
set_option maxHeartbeats 4000000 in
set_option maxRecDepth 100000 in
theorem c_X7_clear (l : Launch) (D : va_G) (T : xT) (x : Nat → Nat) {sz : Nat} (u_this : K7) {rv : Int32 × K7} (hM : f_X7_clear u_this = rv) : Met l yX7_clear wsX7_clear ({ frames := 0, cells := 0, slots := 0, locals := 0 } : Room) (va_Pc [.ref (x 0)] (xPre D T [((x 0), .inr (7, o7 x u_this))] sz xE0)) (va_Qi (fun (r : Int32) (_ : Unit) => r = rv.1) (fun _ => xPost D T [((x 0), .inr (7, o7 x rv.2))] (va_A [((x 0), .inr (7, o7 x u_this))] sz)) (va_A [((x 0), .inr (7, o7 x u_this))] sz)) 0 0 (va_A [((x 0), .inr (7, o7 x u_this))] sz) := by
  refine xMet (av := [.ref (x 0)]) (Wd := [((x 0), .inr (7, o7 x u_this))]) (E := xE0) (Qc := fun A => (va_Qi (fun (r : Int32) (_ : Unit) => r = rv.1) (fun _ => xPost D T [((x 0), .inr (7, o7 x rv.2))] A) A)) (cc := cX7_clear) (maxL := 2) (ret := (some .int)) (by decide) rfl (Nat.le_of_ble_eq_true rfl) ?_
  intro p e s m below meth c A ls hx hb hr hml hts hown hlocks hnm hP hK hD hS hA hE hl
  have hown : s.vm.findClass RX7 = some m.cls := hown
  have hl : lv_has ls 2 [(0, .ref (x 0))] := hl
  unfold f_X7_clear at hM
  refine lv_aload_n hx hb dX7_clear_0 rfl (lv_at hl 0 rfl) ?_
  refine va_get (D := D) (ci := 7) (v := .int u_this.2.1) (C := RX7) (T := TX7) (N := 30) hx hb hts (fun w h => List.mem_cons_of_mem _ (List.mem_append_right _ h)) hown hK hP 0 rfl rfl 2 (by decide) (hts _ (List.mem_of_getElem? (i := 1) rfl)) (fun _ h9 => h9) rfl dX7_clear_1 ?_
  refine lv_istore_n (lv' := [(1, .int u_this.2.1), (0, .ref (x 0))]) hx hb dX7_clear_4 rfl hl (by decide) rfl (fun ls hl => ?_)
  refine lv_aload_n hx hb dX7_clear_5 rfl (lv_at hl 1 rfl) ?_
  refine lv_iconst (v := 0) hx hb dX7_clear_6 (by decide) ?_
  refine va_put (D := D) (ci := 7) (v := .int (0)) (C := RX7) (T := TX7) (N := 30) hx hb hts (fun w h => List.mem_cons_of_mem _ (List.mem_append_right _ h)) tyX7 tyX7_ok nmX7 hown hK hP hD hS 0 rfl rfl 2 (by decide) (hts _ (List.mem_of_getElem? (i := 1) rfl)) (fun _ h9 => h9) rfl (tyX7_ok 2 (by decide)) rfl rfl (Nat.le_of_ble_eq_true rfl) dX7_clear_7 (fun H locs hP hD hS => ?_)
  have hP : va_P D vwCl [((x 0), .inr (7, o7 x (u_this.1, 0, u_this.2.2.1, u_this.2.2.2.1, u_this.2.2.2.2.1, u_this.2.2.2.2.2.1, u_this.2.2.2.2.2.2.1, u_this.2.2.2.2.2.2.2.1, u_this.2.2.2.2.2.2.2.2.1, u_this.2.2.2.2.2.2.2.2.2.1, u_this.2.2.2.2.2.2.2.2.2.2.1, u_this.2.2.2.2.2.2.2.2.2.2.2)))] H := hP
  have hD : va_D A [((x 0), .inr (7, o7 x (u_this.1, 0, u_this.2.2.1, u_this.2.2.2.1, u_this.2.2.2.2.1, u_this.2.2.2.2.2.1, u_this.2.2.2.2.2.2.1, u_this.2.2.2.2.2.2.2.1, u_this.2.2.2.2.2.2.2.2.1, u_this.2.2.2.2.2.2.2.2.2.1, u_this.2.2.2.2.2.2.2.2.2.2.1, u_this.2.2.2.2.2.2.2.2.2.2.2)))] := hD
  refine lv_iload_n hx hb dX7_clear_10 rfl (lv_at hl 0 rfl) ?_
  obtain rfl := hM
  exact xreti hx hb hr hlocks hP hK hD hS dX7_clear_11 rfl
def f_X7_here (u_this : K7) (u_this_text : (Nat → Int32)) : Option (Int32) :=
  if u_this.2.1 ≤ u_this.2.2.1 then
   (some (-1))
  else
   (if xin u_this.2.2.1 300 = true then
    (some ((u_this_text u_this.2.2.1.toNatClampNeg) &&& (255)))
    else none)
set_option maxHeartbeats 4000000 in
set_option maxRecDepth 100000 in
theorem c_X7_here (l : Launch) (D : va_G) (T : xT) (x : Nat → Nat) {sz : Nat} (u_this : K7) (u_this_text : (Nat → Int32)) {rv : Int32} (hM : f_X7_here u_this u_this_text = some rv) : Met l yX7_here wsX7_here ({ frames := 0, cells := 0, slots := 0, locals := 0 } : Room) (va_Pc [.ref (x 0)] (xPre D T [((x 0), .inr (7, o7 x u_this)), ((x 1), .inl (T.2.1, 300, .inl u_this_text))] sz xE0)) (va_Qi (fun (r : Int32) (_ : Unit) => r = rv) (fun _ => xPost D T [((x 0), .inr (7, o7 x u_this)), ((x 1), .inl (T.2.1, 300, .inl u_this_text))] (va_A [((x 0), .inr (7, o7 x u_this)), ((x 1), .inl (T.2.1, 300, .inl u_this_text))] sz)) (va_A [((x 0), .inr (7, o7 x u_this)), ((x 1), .inl (T.2.1, 300, .inl u_this_text))] sz)) 0 0 (va_A [((x 0), .inr (7, o7 x u_this)), ((x 1), .inl (T.2.1, 300, .inl u_this_text))] sz) := by
  refine xMet (av := [.ref (x 0)]) (Wd := [((x 0), .inr (7, o7 x u_this)), ((x 1), .inl (T.2.1, 300, .inl u_this_text))]) (E := xE0) (Qc := fun A => (va_Qi (fun (r : Int32) (_ : Unit) => r = rv) (fun _ => xPost D T [((x 0), .inr (7, o7 x u_this)), ((x 1), .inl (T.2.1, 300, .inl u_this_text))] A) A)) (cc := cX7_here) (maxL := 1) (ret := (some .int)) (by decide) rfl (Nat.le_of_ble_eq_true rfl) ?_
  intro p e s m below meth c A ls hx hb hr hml hts hown hlocks hnm hP hK hD hS hA hE hl
  have hown : s.vm.findClass RX7 = some m.cls := hown
  have hl : lv_has ls 1 [(0, .ref (x 0))] := hl
  unfold f_X7_here at hM
  refine lv_aload_n hx hb dX7_here_0 rfl (lv_at hl 0 rfl) ?_
  refine va_get (D := D) (ci := 7) (v := .int u_this.2.2.1) (C := RX7) (T := TX7) (N := 30) hx hb hts (fun w h => List.mem_cons_of_mem _ (List.mem_append_right _ h)) hown hK hP 0 rfl rfl 4 (by decide) (hts _ (List.mem_of_getElem? (i := 1) rfl)) (fun _ h9 => h9) rfl dX7_here_1 ?_
  refine lv_aload_n hx hb dX7_here_4 rfl (lv_at hl 0 rfl) ?_
  refine va_get (D := D) (ci := 7) (v := .int u_this.2.1) (C := RX7) (T := TX7) (N := 30) hx hb hts (fun w h => List.mem_cons_of_mem _ (List.mem_append_right _ h)) hown hK hP 0 rfl rfl 2 (by decide) (hts _ (List.mem_of_getElem? (i := 2) rfl)) (fun _ h9 => h9) rfl dX7_here_5 ?_
  refine lv_icmp_ge (tgt := 27) hx hb dX7_here_8 (by decide) (fun c1 => ?_) (fun c1 => ?_)
  · have hM := xit c1 hM
    refine lv_iconst (v := (-1)) hx hb dX7_here_27 (by decide) ?_
    obtain rfl := Option.some.inj hM
    exact xreti hx hb hr hlocks hP hK hD hS dX7_here_28 rfl
  · have hM := xif c1 hM
    refine lv_aload_n hx hb dX7_here_11 rfl (lv_at hl 0 rfl) ?_
    refine va_get (D := D) (ci := 7) (v := .ref (x 1)) (C := RX7) (T := TX7) (N := 30) hx hb hts (fun w h => List.mem_cons_of_mem _ (List.mem_append_right _ h)) hown hK hP 0 rfl rfl 1 (by decide) (hts _ (List.mem_of_getElem? (i := 3) rfl)) (fun _ h9 => h9) rfl dX7_here_12 ?_
    refine lv_aload_n hx hb dX7_here_15 rfl (lv_at hl 0 rfl) ?_
    refine va_get (D := D) (ci := 7) (v := .int u_this.2.2.1) (C := RX7) (T := TX7) (N := 30) hx hb hts (fun w h => List.mem_cons_of_mem _ (List.mem_append_right _ h)) hown hK hP 0 rfl rfl 4 (by decide) (hts _ (List.mem_of_getElem? (i := 1) rfl)) (fun _ h9 => h9) rfl dX7_here_16 ?_
    obtain ⟨g2, hM⟩ := xck hM
    refine xbld (v := (u_this_text u_this.2.2.1.toNatClampNeg)) hx hb hK hP 1 1 rfl rfl g2 rfl dX7_here_19 ?_
    refine lv_sipush (v := 255) hx hb dX7_here_20 (by decide) ?_
    refine lv_iand hx hb dX7_here_23 ?_
    refine lv_goto (tgt := 28) hx hb dX7_here_24 (by decide) ?_
    obtain rfl := Option.some.inj hM
    exact xreti hx hb hr hlocks hP hK hD hS dX7_here_28 rfl
def f_X7_meaning (p1 : Int32) (p2 : Int32) : Int32 :=
  if p2 ≤ (0) then
   (if p1 = 126889 then
     (5)
    else if p1 = 330604 then
     (0)
    else if p1 = 456690 then
     (2)
    else if p1 = 5616614 then
     (6)
    else if p1 = 8740067 then
     (9)
    else 
     (23))
  else
   (if p1 = (174878573) then
     (if p2 = (18) then
       (8)
      else
       (23))
    else
     (23))
set_option maxHeartbeats 4000000 in
set_option maxRecDepth 100000 in
theorem c_X7_meaning (l : Launch) (D : va_G) (T : xT)  {sz : Nat} (p1 : Int32) (p2 : Int32) {rv : Int32} (hM : f_X7_meaning p1 p2 = rv) : Met l yX7_meaning wsX7_meaning ({ frames := 0, cells := 0, slots := 0, locals := 0 } : Room) (va_Pc [.int p1, .int p2] (xPre D T [] sz xE0)) (va_Qi (fun (r : Int32) (_ : Unit) => r = rv) (fun _ => xPost D T [] (va_A [] sz)) (va_A [] sz)) 0 0 (va_A [] sz) := by
  refine xMet (av := [.int p1, .int p2]) (Wd := []) (E := xE0) (Qc := fun A => (va_Qi (fun (r : Int32) (_ : Unit) => r = rv) (fun _ => xPost D T [] A) A)) (cc := cX7_meaning) (maxL := 2) (ret := (some .int)) (by decide) rfl (Nat.le_of_ble_eq_true rfl) ?_
  intro p e s m below meth c A ls hx hb hr hml hts hown hlocks hnm hP hK hD hS hA hE hl
  have hown : s.vm.findClass RX7 = some m.cls := hown
  have hl : lv_has ls 2 [(0, .int p1), (1, .int p2)] := hl
  unfold f_X7_meaning at hM
  refine lv_iload_n hx hb dX7_meaning_0 rfl (lv_at hl 1 rfl) ?_
  refine lv_if_le (tgt := 24) hx hb dX7_meaning_1 (by decide) (fun c1 => ?_) (fun c1 => ?_)
  · have hM := xit c1 hM
    refine lv_iload_n hx hb dX7_meaning_24 rfl (lv_at hl 0 rfl) ?_
    by_cases c2 : p1 = 126889
    · have hM := xit c2 hM
      refine lv_lookup (off := 55) (tgt := 80) hx hb dX7_meaning_25 (by decide) (by rw [c2]; decide) (by decide) ?_
      refine lv_iconst (v := 5) hx hb dX7_meaning_80 (by decide) ?_
      obtain rfl := hM
      exact xreti hx hb hr hlocks hP hK hD hS dX7_meaning_81 rfl
    · have hM := xif c2 hM
      by_cases c3 : p1 = 330604
      · have hM := xit c3 hM
        refine lv_lookup (off := 51) (tgt := 76) hx hb dX7_meaning_25 (by decide) (by rw [c3]; decide) (by decide) ?_
        refine lv_iconst (v := 0) hx hb dX7_meaning_76 (by decide) ?_
        obtain rfl := hM
        exact xreti hx hb hr hlocks hP hK hD hS dX7_meaning_77 rfl
      · have hM := xif c3 hM
        by_cases c4 : p1 = 456690
        · have hM := xit c4 hM
          refine lv_lookup (off := 53) (tgt := 78) hx hb dX7_meaning_25 (by decide) (by rw [c4]; decide) (by decide) ?_
          refine lv_iconst (v := 2) hx hb dX7_meaning_78 (by decide) ?_
          obtain rfl := hM
          exact xreti hx hb hr hlocks hP hK hD hS dX7_meaning_79 rfl
        · have hM := xif c4 hM
          by_cases c5 : p1 = 5616614
          · have hM := xit c5 hM
            refine lv_lookup (off := 57) (tgt := 82) hx hb dX7_meaning_25 (by decide) (by rw [c5]; decide) (by decide) ?_
            refine lv_bipush (v := 6) hx hb dX7_meaning_82 (by decide) ?_
            obtain rfl := hM
            exact xreti hx hb hr hlocks hP hK hD hS dX7_meaning_84 rfl
          · have hM := xif c5 hM
            by_cases c6 : p1 = 8740067
            · have hM := xit c6 hM
              refine lv_lookup (off := 60) (tgt := 85) hx hb dX7_meaning_25 (by decide) (by rw [c6]; decide) (by decide) ?_
              refine lv_bipush (v := 9) hx hb dX7_meaning_85 (by decide) ?_
              obtain rfl := hM
              exact xreti hx hb hr hlocks hP hK hD hS dX7_meaning_87 rfl
            · have hM := xif c6 hM
              refine lv_lookup (off := 63) (tgt := 88) hx hb dX7_meaning_25 (by decide) ((lv_osw c2 (by decide)).trans ((lv_osw c3 (by decide)).trans ((lv_osw c4 (by decide)).trans ((lv_osw c5 (by decide)).trans ((lv_osw c6 (by decide)).trans (rfl)))))) (by decide) ?_
              refine lv_bipush (v := 23) hx hb dX7_meaning_88 (by decide) ?_
              obtain rfl := hM
              exact xreti hx hb hr hlocks hP hK hD hS dX7_meaning_90 rfl
  · have hM := xif c1 hM
    refine lv_iload_n hx hb dX7_meaning_4 rfl (lv_at hl 0 rfl) ?_
    refine lv_ldc (v := 174878573) hx hb hown (hts _ (List.mem_of_getElem? (i := 1) rfl)) dX7_meaning_5 ?_
    refine lv_icmp_ne (tgt := 21) hx hb dX7_meaning_7 (by decide) (fun c7 => ?_) (fun c7 => ?_)
    · have hM := xif c7 hM
      refine lv_bipush (v := 23) hx hb dX7_meaning_21 (by decide) ?_
      obtain rfl := hM
      exact xreti hx hb hr hlocks hP hK hD hS dX7_meaning_23 rfl
    · have hM := xit c7 hM
      refine lv_iload_n hx hb dX7_meaning_10 rfl (lv_at hl 1 rfl) ?_
      refine lv_bipush (v := 18) hx hb dX7_meaning_11 (by decide) ?_
      refine lv_icmp_ne (tgt := 21) hx hb dX7_meaning_13 (by decide) (fun c8 => ?_) (fun c8 => ?_)
      · have hM := xif c8 hM
        refine lv_bipush (v := 23) hx hb dX7_meaning_21 (by decide) ?_
        obtain rfl := hM
        exact xreti hx hb hr hlocks hP hK hD hS dX7_meaning_23 rfl
      · have hM := xit c8 hM
        refine lv_bipush (v := 8) hx hb dX7_meaning_16 (by decide) ?_
        refine lv_goto (tgt := 23) hx hb dX7_meaning_18 (by decide) ?_
        obtain rfl := hM
        exact xreti hx hb hr hlocks hP hK hD hS dX7_meaning_23 rfl
