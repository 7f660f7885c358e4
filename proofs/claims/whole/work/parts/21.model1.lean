/-! laid by wip/whole/gen.py out of the decode rows: functional readings and contracts -/
def s_X7_next_0 (u_this : K7) (u_this_text : (Nat → Int32)) (v1 : Int32) : Option ((Int32) ⊕ (Int32)) :=
  (f_X7_here (u_this.1, u_this.2.1, v1, u_this.2.2.2.1, u_this.2.2.2.2.1, u_this.2.2.2.2.2.1, u_this.2.2.2.2.2.2.1, u_this.2.2.2.2.2.2.2.1, u_this.2.2.2.2.2.2.2.2.1, u_this.2.2.2.2.2.2.2.2.2.1, u_this.2.2.2.2.2.2.2.2.2.2.1, u_this.2.2.2.2.2.2.2.2.2.2.2) u_this_text).bind fun r2 =>
  if r2 = (32) then
   (some (.inl (v1 + (1))))
  else
   (some (.inr v1))
def s_X7_next_184 (u_this : K7) (u_this_text : (Nat → Int32)) (v4 : Int32) (v10 : Int32 × Int32) : Option ((Int32 × Int32) ⊕ (Int32 × Int32)) :=
  (f_X7_here (u_this.1, u_this.2.1, v10.1, v4, u_this.2.2.2.2.1, v10.2, u_this.2.2.2.2.2.2.1, u_this.2.2.2.2.2.2.2.1, u_this.2.2.2.2.2.2.2.2.1, u_this.2.2.2.2.2.2.2.2.2.1, u_this.2.2.2.2.2.2.2.2.2.2.1, u_this.2.2.2.2.2.2.2.2.2.2.2) u_this_text).bind fun r11 =>
  if (f_X7_in r11 (48) (57)) = (0) then
   (some (.inr (v10.1, v10.2)))
  else
   (((if v10.2 ≤ (100) then
       ((f_X7_here (u_this.1, u_this.2.1, v10.1, v4, u_this.2.2.2.2.1, v10.2, u_this.2.2.2.2.2.2.1, u_this.2.2.2.2.2.2.2.1, u_this.2.2.2.2.2.2.2.2.1, u_this.2.2.2.2.2.2.2.2.2.1, u_this.2.2.2.2.2.2.2.2.2.2.1, u_this.2.2.2.2.2.2.2.2.2.2.2) u_this_text).bind fun r14 =>
        some ((((10) * v10.2) + r14) - (48)))
      else
       (some v10.2) : Option (Int32))).bind fun v15 =>
    some (.inl ((v10.1 + (1)), v15)))
def s_X7_next_68 (u_this : K7) (u_this_text : (Nat → Int32)) (v4 : Int32) (v20 : Int32 × Int32 × Int32) : Option ((Int32 × Int32 × Int32) ⊕ (Int32 × Int32 × Int32)) :=
  (f_X7_here (u_this.1, u_this.2.1, v20.2.2, v4, u_this.2.2.2.2.1, 0, u_this.2.2.2.2.2.2.1, u_this.2.2.2.2.2.2.2.1, u_this.2.2.2.2.2.2.2.2.1, u_this.2.2.2.2.2.2.2.2.2.1, u_this.2.2.2.2.2.2.2.2.2.2.1, u_this.2.2.2.2.2.2.2.2.2.2.2) u_this_text).bind fun r21 =>
  if (f_X7_in r21 (97) (122)) = (0) then
   (some (.inr (v20.1, v20.2.1, v20.2.2)))
  else
   (((if (6) ≤ (v20.2.2 - v4) then
       (some v20.1)
      else
       ((f_X7_here (u_this.1, u_this.2.1, v20.2.2, v4, u_this.2.2.2.2.1, 0, u_this.2.2.2.2.2.2.1, u_this.2.2.2.2.2.2.2.1, u_this.2.2.2.2.2.2.2.2.1, u_this.2.2.2.2.2.2.2.2.2.1, u_this.2.2.2.2.2.2.2.2.2.2.1, u_this.2.2.2.2.2.2.2.2.2.2.2) u_this_text).bind fun r24 =>
        some ((((27) * v20.1) + r24) - (96))) : Option (Int32))).bind fun v25 =>
    ((if (v20.2.2 - v4) = (6) then
       ((f_X7_here (u_this.1, u_this.2.1, v20.2.2, v4, u_this.2.2.2.2.1, 0, u_this.2.2.2.2.2.2.1, u_this.2.2.2.2.2.2.2.1, u_this.2.2.2.2.2.2.2.2.1, u_this.2.2.2.2.2.2.2.2.2.1, u_this.2.2.2.2.2.2.2.2.2.2.1, u_this.2.2.2.2.2.2.2.2.2.2.2) u_this_text).bind fun r28 =>
        some (r28 - (96)))
      else
       (if (v20.2.2 - v4) ≤ (6) then
         (some v20.2.1)
        else
         (some (99))) : Option (Int32))).bind fun v29 =>
    some (.inl (v25, v29, (v20.2.2 + (1)))))
def f_X7_next (N : Nat) (u_this : K7) (u_this_text : (Nat → Int32)) : Option (K7) :=
  (xlp (s_X7_next_0 u_this u_this_text) N u_this.2.2.1).bind fun v4 =>
  (f_X7_here (u_this.1, u_this.2.1, v4, v4, u_this.2.2.2.2.1, 0, u_this.2.2.2.2.2.2.1, u_this.2.2.2.2.2.2.2.1, u_this.2.2.2.2.2.2.2.2.1, u_this.2.2.2.2.2.2.2.2.2.1, u_this.2.2.2.2.2.2.2.2.2.2.1, u_this.2.2.2.2.2.2.2.2.2.2.2) u_this_text).bind fun r5 =>
  if (0) ≤ r5 then
   (if (f_X7_in r5 (97) (122)) = (0) then
     (if (f_X7_in r5 (48) (57)) = (0) then
       (if r5 = (59) then
         (some (u_this.1, u_this.2.1, (v4 + (1)), v4, 22, 0, u_this.2.2.2.2.2.2.1, u_this.2.2.2.2.2.2.2.1, u_this.2.2.2.2.2.2.2.2.1, u_this.2.2.2.2.2.2.2.2.2.1, u_this.2.2.2.2.2.2.2.2.2.2.1, u_this.2.2.2.2.2.2.2.2.2.2.2))
        else
         (some (u_this.1, u_this.2.1, (v4 + (1)), v4, 23, 0, u_this.2.2.2.2.2.2.1, u_this.2.2.2.2.2.2.2.1, u_this.2.2.2.2.2.2.2.2.1, u_this.2.2.2.2.2.2.2.2.2.1, u_this.2.2.2.2.2.2.2.2.2.2.1, u_this.2.2.2.2.2.2.2.2.2.2.2)))
      else
       ((xlp (s_X7_next_184 u_this u_this_text v4) N (v4, 0)).bind fun v16 =>
        if (100) < v16.2 then
         (some (u_this.1, u_this.2.1, v16.1, v4, 23, v16.2, u_this.2.2.2.2.2.2.1, u_this.2.2.2.2.2.2.2.1, u_this.2.2.2.2.2.2.2.2.1, u_this.2.2.2.2.2.2.2.2.2.1, u_this.2.2.2.2.2.2.2.2.2.2.1, u_this.2.2.2.2.2.2.2.2.2.2.2))
        else
         (if r5 = (48) then
           (if (v16.1 - v4) ≤ (1) then
             (some (u_this.1, u_this.2.1, v16.1, v4, 21, v16.2, u_this.2.2.2.2.2.2.1, u_this.2.2.2.2.2.2.2.1, u_this.2.2.2.2.2.2.2.2.1, u_this.2.2.2.2.2.2.2.2.2.1, u_this.2.2.2.2.2.2.2.2.2.2.1, u_this.2.2.2.2.2.2.2.2.2.2.2))
            else
             (some (u_this.1, u_this.2.1, v16.1, v4, 23, v16.2, u_this.2.2.2.2.2.2.1, u_this.2.2.2.2.2.2.2.1, u_this.2.2.2.2.2.2.2.2.1, u_this.2.2.2.2.2.2.2.2.2.1, u_this.2.2.2.2.2.2.2.2.2.2.1, u_this.2.2.2.2.2.2.2.2.2.2.2)))
          else
           (some (u_this.1, u_this.2.1, v16.1, v4, 21, v16.2, u_this.2.2.2.2.2.2.1, u_this.2.2.2.2.2.2.2.1, u_this.2.2.2.2.2.2.2.2.1, u_this.2.2.2.2.2.2.2.2.2.1, u_this.2.2.2.2.2.2.2.2.2.2.1, u_this.2.2.2.2.2.2.2.2.2.2.2)))))
    else
     ((xlp (s_X7_next_68 u_this u_this_text v4) N (0, 0, v4)).bind fun v30 =>
      some (u_this.1, u_this.2.1, v30.2.2, v4, (f_X7_meaning v30.1 v30.2.1), 0, u_this.2.2.2.2.2.2.1, u_this.2.2.2.2.2.2.2.1, u_this.2.2.2.2.2.2.2.2.1, u_this.2.2.2.2.2.2.2.2.2.1, u_this.2.2.2.2.2.2.2.2.2.2.1, u_this.2.2.2.2.2.2.2.2.2.2.2)))
  else
   (some (u_this.1, u_this.2.1, v4, v4, 20, 0, u_this.2.2.2.2.2.2.1, u_this.2.2.2.2.2.2.2.1, u_this.2.2.2.2.2.2.2.2.1, u_this.2.2.2.2.2.2.2.2.2.1, u_this.2.2.2.2.2.2.2.2.2.2.1, u_this.2.2.2.2.2.2.2.2.2.2.2))
set_option maxHeartbeats 4000000 in
set_option maxRecDepth 100000 in
theorem c_X7_next (l : Launch) (D : va_G) (T : xT) (x : Nat → Nat) {sz : Nat} {N : Nat} (u_this : K7) (u_this_text : (Nat → Int32)) {rv : K7} (hM : f_X7_next N u_this u_this_text = some rv) : Met l yX7_next wsX7_next ({ frames := 1, cells := 0, slots := 0, locals := 22 } : Room) (va_Pc [.ref (x 0)] (xPre D T [((x 0), .inr (7, o7 x u_this)), ((x 1), .inl (T.2.1, 300, .inl u_this_text))] sz xE0)) (va_Qv (fun (_ : Unit) => True) (fun _ => xPost D T [((x 0), .inr (7, o7 x rv)), ((x 1), .inl (T.2.1, 300, .inl u_this_text))] (va_A [((x 0), .inr (7, o7 x u_this)), ((x 1), .inl (T.2.1, 300, .inl u_this_text))] sz)) (va_A [((x 0), .inr (7, o7 x u_this)), ((x 1), .inl (T.2.1, 300, .inl u_this_text))] sz)) 0 0 (va_A [((x 0), .inr (7, o7 x u_this)), ((x 1), .inl (T.2.1, 300, .inl u_this_text))] sz) := by
  refine xMet (av := [.ref (x 0)]) (Wd := [((x 0), .inr (7, o7 x u_this)), ((x 1), .inl (T.2.1, 300, .inl u_this_text))]) (E := xE0) (Qc := fun A => (va_Qv (fun (_ : Unit) => True) (fun _ => xPost D T [((x 0), .inr (7, o7 x rv)), ((x 1), .inl (T.2.1, 300, .inl u_this_text))] A) A)) (cc := cX7_next) (maxL := 5) (ret := none) (by decide) rfl (Nat.le_of_ble_eq_true rfl) ?_
  intro p e s m below meth c A ls hx hb hr hml hts hown hlocks hnm hP hK hD hS hA hE hl
  have hown : s.vm.findClass RX7 = some m.cls := hown
  have hl : lv_has ls 5 [(0, .ref (x 0))] := hl
  unfold f_X7_next at hM
  obtain ⟨v4, hM, hNv4⟩ := xbd hM
  have hQv4 := hM
  have Kv4 : ∀ (H : Heap) (locs : List Loc) (ls : Array Slot), va_P D vwCl [((x 0), .inr (7, o7 x (u_this.1, u_this.2.1, v4, u_this.2.2.2.1, u_this.2.2.2.2.1, u_this.2.2.2.2.2.1, u_this.2.2.2.2.2.2.1, u_this.2.2.2.2.2.2.2.1, u_this.2.2.2.2.2.2.2.2.1, u_this.2.2.2.2.2.2.2.2.2.1, u_this.2.2.2.2.2.2.2.2.2.2.1, u_this.2.2.2.2.2.2.2.2.2.2.2))), ((x 1), .inl (T.2.1, 300, .inl u_this_text))] H → va_D A [((x 0), .inr (7, o7 x (u_this.1, u_this.2.1, v4, u_this.2.2.2.1, u_this.2.2.2.2.1, u_this.2.2.2.2.2.1, u_this.2.2.2.2.2.2.1, u_this.2.2.2.2.2.2.2.1, u_this.2.2.2.2.2.2.2.2.1, u_this.2.2.2.2.2.2.2.2.2.1, u_this.2.2.2.2.2.2.2.2.2.2.1, u_this.2.2.2.2.2.2.2.2.2.2.2))), ((x 1), .inl (T.2.1, 300, .inl u_this_text))] → va_S A s.heap H locs → lv_has ls 5 [(0, .ref (x 0))] → W p l e ({ frames := 1, cells := 0, slots := 0, locals := 22 } : Room) s m ([.ref (x 0)] : List Value).toArray below meth c H locs 0 0 (MQ below (va_Qv (fun (_ : Unit) => True) (fun _ => xPost D T [((x 0), .inr (7, o7 x rv)), ((x 1), .inl (T.2.1, 300, .inl u_this_text))] A) A) ([.ref (x 0)] : List Value).toArray s 0 0 A) (F0 m 22 ls []) := by
    intro H locs ls hP hD hS hl
    have hM := hNv4
    refine lv_aload_n hx hb dX7_next_22 rfl (lv_at hl 0 rfl) ?_
    refine lv_aload_n hx hb dX7_next_23 rfl (lv_at hl 0 rfl) ?_
    refine va_get (D := D) (ci := 7) (v := .int v4) (C := RX7) (T := TX7) (N := 30) hx hb hts (fun w h => List.mem_cons_of_mem _ (List.mem_append_right _ h)) hown hK hP 0 rfl rfl 4 (by decide) (hts _ (List.mem_of_getElem? (i := 1) rfl)) (fun _ h9 => h9) rfl dX7_next_24 ?_
    refine va_put (D := D) (ci := 7) (v := .int v4) (C := RX7) (T := TX7) (N := 30) hx hb hts (fun w h => List.mem_cons_of_mem _ (List.mem_append_right _ h)) tyX7 tyX7_ok nmX7 hown hK hP hD hS 0 rfl rfl 5 (by decide) (hts _ (List.mem_of_getElem? (i := 2) rfl)) (fun _ h9 => h9) rfl (tyX7_ok 5 (by decide)) rfl rfl (Nat.le_of_ble_eq_true rfl) dX7_next_27 (fun H locs hP hD hS => ?_)
    have hP : va_P D vwCl [((x 0), .inr (7, o7 x (u_this.1, u_this.2.1, v4, v4, u_this.2.2.2.2.1, u_this.2.2.2.2.2.1, u_this.2.2.2.2.2.2.1, u_this.2.2.2.2.2.2.2.1, u_this.2.2.2.2.2.2.2.2.1, u_this.2.2.2.2.2.2.2.2.2.1, u_this.2.2.2.2.2.2.2.2.2.2.1, u_this.2.2.2.2.2.2.2.2.2.2.2))), ((x 1), .inl (T.2.1, 300, .inl u_this_text))] H := hP
    have hD : va_D A [((x 0), .inr (7, o7 x (u_this.1, u_this.2.1, v4, v4, u_this.2.2.2.2.1, u_this.2.2.2.2.2.1, u_this.2.2.2.2.2.2.1, u_this.2.2.2.2.2.2.2.1, u_this.2.2.2.2.2.2.2.2.1, u_this.2.2.2.2.2.2.2.2.2.1, u_this.2.2.2.2.2.2.2.2.2.2.1, u_this.2.2.2.2.2.2.2.2.2.2.2))), ((x 1), .inl (T.2.1, 300, .inl u_this_text))] := hD
    refine lv_aload_n hx hb dX7_next_30 rfl (lv_at hl 0 rfl) ?_
    refine lv_iconst (v := 0) hx hb dX7_next_31 (by decide) ?_
    refine va_put (D := D) (ci := 7) (v := .int (0)) (C := RX7) (T := TX7) (N := 30) hx hb hts (fun w h => List.mem_cons_of_mem _ (List.mem_append_right _ h)) tyX7 tyX7_ok nmX7 hown hK hP hD hS 0 rfl rfl 7 (by decide) (hts _ (List.mem_of_getElem? (i := 3) rfl)) (fun _ h9 => h9) rfl (tyX7_ok 7 (by decide)) rfl rfl (Nat.le_of_ble_eq_true rfl) dX7_next_32 (fun H locs hP hD hS => ?_)
    have hP : va_P D vwCl [((x 0), .inr (7, o7 x (u_this.1, u_this.2.1, v4, v4, u_this.2.2.2.2.1, 0, u_this.2.2.2.2.2.2.1, u_this.2.2.2.2.2.2.2.1, u_this.2.2.2.2.2.2.2.2.1, u_this.2.2.2.2.2.2.2.2.2.1, u_this.2.2.2.2.2.2.2.2.2.2.1, u_this.2.2.2.2.2.2.2.2.2.2.2))), ((x 1), .inl (T.2.1, 300, .inl u_this_text))] H := hP
    have hD : va_D A [((x 0), .inr (7, o7 x (u_this.1, u_this.2.1, v4, v4, u_this.2.2.2.2.1, 0, u_this.2.2.2.2.2.2.1, u_this.2.2.2.2.2.2.2.1, u_this.2.2.2.2.2.2.2.2.1, u_this.2.2.2.2.2.2.2.2.2.1, u_this.2.2.2.2.2.2.2.2.2.2.1, u_this.2.2.2.2.2.2.2.2.2.2.2))), ((x 1), .inl (T.2.1, 300, .inl u_this_text))] := hD
    refine lv_aload_n hx hb dX7_next_35 rfl (lv_at hl 0 rfl) ?_
    obtain ⟨r5, er5, hM⟩ := xbd hM
    refine xafti (rv := r5) (W2 := [((x 0), .inr (7, o7 x (u_this.1, u_this.2.1, v4, v4, u_this.2.2.2.2.1, 0, u_this.2.2.2.2.2.2.1, u_this.2.2.2.2.2.2.2.1, u_this.2.2.2.2.2.2.2.2.1, u_this.2.2.2.2.2.2.2.2.2.1, u_this.2.2.2.2.2.2.2.2.2.2.1, u_this.2.2.2.2.2.2.2.2.2.2.2))), ((x 1), .inl (T.2.1, 300, .inl u_this_text))]) (va_runV (As := []) (rest := []) ⟨hx, hb, hml, hown, hts⟩ (c_X7_here l D T x (u_this.1, u_this.2.1, v4, v4, u_this.2.2.2.2.1, 0, u_this.2.2.2.2.2.2.1, u_this.2.2.2.2.2.2.2.1, u_this.2.2.2.2.2.2.2.2.1, u_this.2.2.2.2.2.2.2.2.2.1, u_this.2.2.2.2.2.2.2.2.2.2.1, u_this.2.2.2.2.2.2.2.2.2.2.2) u_this_text er5) (cwV 0 hts gX7_next_X7_here rfl rfl rfl (by decide +kernel) ⟨Nat.le_of_ble_eq_true rfl, Nat.le_of_ble_eq_true rfl⟩) (xpvv hP hD hK [0, 1] (by decide) rfl 0 7 rfl rfl (fun _ _ _ => trivial) (fun _ _ _ _ _ _ => trivial)) rfl rfl hl.1 rfl (lv_room (Nat.le_of_ble_eq_true rfl)) dX7_next_36 ⟨Nat.le_of_ble_eq_true rfl, Nat.le_of_ble_eq_true rfl⟩) hP hD hS hA [0, 1] rfl rfl rfl rfl (fun H locs hP hD hS => ?_)
    refine lv_istore_n (lv' := [(1, .int r5), (0, .ref (x 0))]) hx hb dX7_next_39 rfl hl (by decide) rfl (fun ls hl => ?_)
    refine lv_iload_n hx hb dX7_next_40 rfl (lv_at hl 0 rfl) ?_
    refine lv_if_ge (tgt := 53) hx hb dX7_next_41 (by decide) (fun c6 => ?_) (fun c6 => ?_)
    · have hM := xit c6 hM
      refine lv_iload_n hx hb dX7_next_53 rfl (lv_at hl 0 rfl) ?_
      refine lv_bipush (v := 97) hx hb dX7_next_54 (by decide) ?_
      refine lv_bipush (v := 122) hx hb dX7_next_56 (by decide) ?_
      refine xafti (rv := (f_X7_in r5 (97) (122))) (W2 := [((x 0), .inr (7, o7 x (u_this.1, u_this.2.1, v4, v4, u_this.2.2.2.2.1, 0, u_this.2.2.2.2.2.2.1, u_this.2.2.2.2.2.2.2.1, u_this.2.2.2.2.2.2.2.2.1, u_this.2.2.2.2.2.2.2.2.2.1, u_this.2.2.2.2.2.2.2.2.2.2.1, u_this.2.2.2.2.2.2.2.2.2.2.2))), ((x 1), .inl (T.2.1, 300, .inl u_this_text))]) (va_runS (As := [.int r5, .int (97), .int (122)]) (rest := []) ⟨hx, hb, hml, hown, hts⟩ (c_X7_in (rv := (f_X7_in r5 (97) (122))) l D T r5 (97) (122) rfl) (cwS 3 hts gX7_next_X7_in rfl rfl rfl (by decide +kernel) ⟨Nat.le_of_ble_eq_true rfl, Nat.le_of_ble_eq_true rfl⟩) (xpvs hP hD hK [] (by decide) rfl (fun _ _ _ => trivial) (fun _ _ _ _ _ _ => trivial)) rfl rfl hl.1 rfl (lv_room (Nat.le_of_ble_eq_true rfl)) dX7_next_58 ⟨Nat.le_of_ble_eq_true rfl, Nat.le_of_ble_eq_true rfl⟩) hP hD hS hA [] rfl rfl rfl rfl (fun H locs hP hD hS => ?_)
      refine lv_if_eq (tgt := 173) hx hb dX7_next_61 (by decide) (fun c7 => ?_) (fun c7 => ?_)
      · have hM := xit c7 hM
        refine lv_iload_n hx hb dX7_next_173 rfl (lv_at hl 0 rfl) ?_
        refine lv_bipush (v := 48) hx hb dX7_next_174 (by decide) ?_
        refine lv_bipush (v := 57) hx hb dX7_next_176 (by decide) ?_
        refine xafti (rv := (f_X7_in r5 (48) (57))) (W2 := [((x 0), .inr (7, o7 x (u_this.1, u_this.2.1, v4, v4, u_this.2.2.2.2.1, 0, u_this.2.2.2.2.2.2.1, u_this.2.2.2.2.2.2.2.1, u_this.2.2.2.2.2.2.2.2.1, u_this.2.2.2.2.2.2.2.2.2.1, u_this.2.2.2.2.2.2.2.2.2.2.1, u_this.2.2.2.2.2.2.2.2.2.2.2))), ((x 1), .inl (T.2.1, 300, .inl u_this_text))]) (va_runS (As := [.int r5, .int (48), .int (57)]) (rest := []) ⟨hx, hb, hml, hown, hts⟩ (c_X7_in (rv := (f_X7_in r5 (48) (57))) l D T r5 (48) (57) rfl) (cwS 3 hts gX7_next_X7_in rfl rfl rfl (by decide +kernel) ⟨Nat.le_of_ble_eq_true rfl, Nat.le_of_ble_eq_true rfl⟩) (xpvs hP hD hK [] (by decide) rfl (fun _ _ _ => trivial) (fun _ _ _ _ _ _ => trivial)) rfl rfl hl.1 rfl (lv_room (Nat.le_of_ble_eq_true rfl)) dX7_next_178 ⟨Nat.le_of_ble_eq_true rfl, Nat.le_of_ble_eq_true rfl⟩) hP hD hS hA [] rfl rfl rfl rfl (fun H locs hP hD hS => ?_)
        refine lv_if_eq (tgt := 288) hx hb dX7_next_181 (by decide) (fun c8 => ?_) (fun c8 => ?_)
        · have hM := xit c8 hM
          refine lv_aload_n hx hb dX7_next_288 rfl (lv_at hl 1 rfl) ?_
          refine lv_dup hx hb dX7_next_289 rfl ?_
          refine va_get (D := D) (ci := 7) (v := .int v4) (C := RX7) (T := TX7) (N := 30) hx hb hts (fun w h => List.mem_cons_of_mem _ (List.mem_append_right _ h)) hown hK hP 0 rfl rfl 4 (by decide) (hts _ (List.mem_of_getElem? (i := 1) rfl)) (fun _ h9 => h9) rfl dX7_next_290 ?_
          refine lv_iconst (v := 1) hx hb dX7_next_293 (by decide) ?_
          refine lv_iadd hx hb dX7_next_294 ?_
          refine va_put (D := D) (ci := 7) (v := .int (v4 + (1))) (C := RX7) (T := TX7) (N := 30) hx hb hts (fun w h => List.mem_cons_of_mem _ (List.mem_append_right _ h)) tyX7 tyX7_ok nmX7 hown hK hP hD hS 0 rfl rfl 4 (by decide) (hts _ (List.mem_of_getElem? (i := 1) rfl)) (fun _ h9 => h9) rfl (tyX7_ok 4 (by decide)) rfl rfl (Nat.le_of_ble_eq_true rfl) dX7_next_295 (fun H locs hP hD hS => ?_)
          have hP : va_P D vwCl [((x 0), .inr (7, o7 x (u_this.1, u_this.2.1, (v4 + (1)), v4, u_this.2.2.2.2.1, 0, u_this.2.2.2.2.2.2.1, u_this.2.2.2.2.2.2.2.1, u_this.2.2.2.2.2.2.2.2.1, u_this.2.2.2.2.2.2.2.2.2.1, u_this.2.2.2.2.2.2.2.2.2.2.1, u_this.2.2.2.2.2.2.2.2.2.2.2))), ((x 1), .inl (T.2.1, 300, .inl u_this_text))] H := hP
          have hD : va_D A [((x 0), .inr (7, o7 x (u_this.1, u_this.2.1, (v4 + (1)), v4, u_this.2.2.2.2.1, 0, u_this.2.2.2.2.2.2.1, u_this.2.2.2.2.2.2.2.1, u_this.2.2.2.2.2.2.2.2.1, u_this.2.2.2.2.2.2.2.2.2.1, u_this.2.2.2.2.2.2.2.2.2.2.1, u_this.2.2.2.2.2.2.2.2.2.2.2))), ((x 1), .inl (T.2.1, 300, .inl u_this_text))] := hD
          refine lv_aload_n hx hb dX7_next_298 rfl (lv_at hl 1 rfl) ?_
          refine lv_iload_n hx hb dX7_next_299 rfl (lv_at hl 0 rfl) ?_
          refine lv_bipush (v := 59) hx hb dX7_next_300 (by decide) ?_
          refine lv_icmp_ne (tgt := 310) hx hb dX7_next_302 (by decide) (fun c9 => ?_) (fun c9 => ?_)
          · have hM := xif c9 hM
            refine lv_bipush (v := 23) hx hb dX7_next_310 (by decide) ?_
            refine va_put (D := D) (ci := 7) (v := .int (23)) (C := RX7) (T := TX7) (N := 30) hx hb hts (fun w h => List.mem_cons_of_mem _ (List.mem_append_right _ h)) tyX7 tyX7_ok nmX7 hown hK hP hD hS 0 rfl rfl 6 (by decide) (hts _ (List.mem_of_getElem? (i := 4) rfl)) (fun _ h9 => h9) rfl (tyX7_ok 6 (by decide)) rfl rfl (Nat.le_of_ble_eq_true rfl) dX7_next_312 (fun H locs hP hD hS => ?_)
            have hP : va_P D vwCl [((x 0), .inr (7, o7 x (u_this.1, u_this.2.1, (v4 + (1)), v4, 23, 0, u_this.2.2.2.2.2.2.1, u_this.2.2.2.2.2.2.2.1, u_this.2.2.2.2.2.2.2.2.1, u_this.2.2.2.2.2.2.2.2.2.1, u_this.2.2.2.2.2.2.2.2.2.2.1, u_this.2.2.2.2.2.2.2.2.2.2.2))), ((x 1), .inl (T.2.1, 300, .inl u_this_text))] H := hP
            have hD : va_D A [((x 0), .inr (7, o7 x (u_this.1, u_this.2.1, (v4 + (1)), v4, 23, 0, u_this.2.2.2.2.2.2.1, u_this.2.2.2.2.2.2.2.1, u_this.2.2.2.2.2.2.2.2.1, u_this.2.2.2.2.2.2.2.2.2.1, u_this.2.2.2.2.2.2.2.2.2.2.1, u_this.2.2.2.2.2.2.2.2.2.2.2))), ((x 1), .inl (T.2.1, 300, .inl u_this_text))] := hD
            obtain rfl := Option.some.inj hM
            exact xretv hx hb hr hlocks hP hK hD hS dX7_next_315
          · have hM := xit c9 hM
            refine lv_bipush (v := 22) hx hb dX7_next_305 (by decide) ?_
            refine lv_goto (tgt := 312) hx hb dX7_next_307 (by decide) ?_
            refine va_put (D := D) (ci := 7) (v := .int (22)) (C := RX7) (T := TX7) (N := 30) hx hb hts (fun w h => List.mem_cons_of_mem _ (List.mem_append_right _ h)) tyX7 tyX7_ok nmX7 hown hK hP hD hS 0 rfl rfl 6 (by decide) (hts _ (List.mem_of_getElem? (i := 4) rfl)) (fun _ h9 => h9) rfl (tyX7_ok 6 (by decide)) rfl rfl (Nat.le_of_ble_eq_true rfl) dX7_next_312 (fun H locs hP hD hS => ?_)
            have hP : va_P D vwCl [((x 0), .inr (7, o7 x (u_this.1, u_this.2.1, (v4 + (1)), v4, 22, 0, u_this.2.2.2.2.2.2.1, u_this.2.2.2.2.2.2.2.1, u_this.2.2.2.2.2.2.2.2.1, u_this.2.2.2.2.2.2.2.2.2.1, u_this.2.2.2.2.2.2.2.2.2.2.1, u_this.2.2.2.2.2.2.2.2.2.2.2))), ((x 1), .inl (T.2.1, 300, .inl u_this_text))] H := hP
            have hD : va_D A [((x 0), .inr (7, o7 x (u_this.1, u_this.2.1, (v4 + (1)), v4, 22, 0, u_this.2.2.2.2.2.2.1, u_this.2.2.2.2.2.2.2.1, u_this.2.2.2.2.2.2.2.2.1, u_this.2.2.2.2.2.2.2.2.2.1, u_this.2.2.2.2.2.2.2.2.2.2.1, u_this.2.2.2.2.2.2.2.2.2.2.2))), ((x 1), .inl (T.2.1, 300, .inl u_this_text))] := hD
            obtain rfl := Option.some.inj hM
            exact xretv hx hb hr hlocks hP hK hD hS dX7_next_315
        · have hM := xif c8 hM
          obtain ⟨v16, hM, hNv16⟩ := xbd hM
          have hQv16 := hM
          have Kv16 : ∀ (H : Heap) (locs : List Loc) (ls : Array Slot), va_P D vwCl [((x 0), .inr (7, o7 x (u_this.1, u_this.2.1, v16.1, v4, u_this.2.2.2.2.1, v16.2, u_this.2.2.2.2.2.2.1, u_this.2.2.2.2.2.2.2.1, u_this.2.2.2.2.2.2.2.2.1, u_this.2.2.2.2.2.2.2.2.2.1, u_this.2.2.2.2.2.2.2.2.2.2.1, u_this.2.2.2.2.2.2.2.2.2.2.2))), ((x 1), .inl (T.2.1, 300, .inl u_this_text))] H → va_D A [((x 0), .inr (7, o7 x (u_this.1, u_this.2.1, v16.1, v4, u_this.2.2.2.2.1, v16.2, u_this.2.2.2.2.2.2.1, u_this.2.2.2.2.2.2.2.1, u_this.2.2.2.2.2.2.2.2.1, u_this.2.2.2.2.2.2.2.2.2.1, u_this.2.2.2.2.2.2.2.2.2.2.1, u_this.2.2.2.2.2.2.2.2.2.2.2))), ((x 1), .inl (T.2.1, 300, .inl u_this_text))] → va_S A s.heap H locs → lv_has ls 5 [(0, .ref (x 0)), (1, .int r5)] → W p l e ({ frames := 1, cells := 0, slots := 0, locals := 22 } : Room) s m ([.ref (x 0)] : List Value).toArray below meth c H locs 0 0 (MQ below (va_Qv (fun (_ : Unit) => True) (fun _ => xPost D T [((x 0), .inr (7, o7 x rv)), ((x 1), .inl (T.2.1, 300, .inl u_this_text))] A) A) ([.ref (x 0)] : List Value).toArray s 0 0 A) (F0 m 246 ls []) := by
            intro H locs ls hP hD hS hl
            have hM := hNv16
            refine lv_aload_n hx hb dX7_next_246 rfl (lv_at hl 0 rfl) ?_
            refine lv_aload_n hx hb dX7_next_247 rfl (lv_at hl 0 rfl) ?_
            refine va_get (D := D) (ci := 7) (v := .int v16.2) (C := RX7) (T := TX7) (N := 30) hx hb hts (fun w h => List.mem_cons_of_mem _ (List.mem_append_right _ h)) hown hK hP 0 rfl rfl 7 (by decide) (hts _ (List.mem_of_getElem? (i := 3) rfl)) (fun _ h9 => h9) rfl dX7_next_248 ?_
            refine lv_bipush (v := 100) hx hb dX7_next_251 (by decide) ?_
            refine lv_icmp_gt (tgt := 275) hx hb dX7_next_253 (by decide) (fun c17 => ?_) (fun c17 => ?_)
            · have hM := xit c17 hM
              refine lv_bipush (v := 23) hx hb dX7_next_275 (by decide) ?_
              refine lv_goto (tgt := 282) hx hb dX7_next_277 (by decide) ?_
              refine va_put (D := D) (ci := 7) (v := .int (23)) (C := RX7) (T := TX7) (N := 30) hx hb hts (fun w h => List.mem_cons_of_mem _ (List.mem_append_right _ h)) tyX7 tyX7_ok nmX7 hown hK hP hD hS 0 rfl rfl 6 (by decide) (hts _ (List.mem_of_getElem? (i := 4) rfl)) (fun _ h9 => h9) rfl (tyX7_ok 6 (by decide)) rfl rfl (Nat.le_of_ble_eq_true rfl) dX7_next_282 (fun H locs hP hD hS => ?_)
              have hP : va_P D vwCl [((x 0), .inr (7, o7 x (u_this.1, u_this.2.1, v16.1, v4, 23, v16.2, u_this.2.2.2.2.2.2.1, u_this.2.2.2.2.2.2.2.1, u_this.2.2.2.2.2.2.2.2.1, u_this.2.2.2.2.2.2.2.2.2.1, u_this.2.2.2.2.2.2.2.2.2.2.1, u_this.2.2.2.2.2.2.2.2.2.2.2))), ((x 1), .inl (T.2.1, 300, .inl u_this_text))] H := hP
              have hD : va_D A [((x 0), .inr (7, o7 x (u_this.1, u_this.2.1, v16.1, v4, 23, v16.2, u_this.2.2.2.2.2.2.1, u_this.2.2.2.2.2.2.2.1, u_this.2.2.2.2.2.2.2.2.1, u_this.2.2.2.2.2.2.2.2.2.1, u_this.2.2.2.2.2.2.2.2.2.2.1, u_this.2.2.2.2.2.2.2.2.2.2.2))), ((x 1), .inl (T.2.1, 300, .inl u_this_text))] := hD
              refine lv_goto (tgt := 315) hx hb dX7_next_285 (by decide) ?_
              obtain rfl := Option.some.inj hM
              exact xretv hx hb hr hlocks hP hK hD hS dX7_next_315
            · have hM := xif c17 hM
              refine lv_iload_n hx hb dX7_next_256 rfl (lv_at hl 1 rfl) ?_
              refine lv_bipush (v := 48) hx hb dX7_next_257 (by decide) ?_
              refine lv_icmp_ne (tgt := 280) hx hb dX7_next_259 (by decide) (fun c18 => ?_) (fun c18 => ?_)
              · have hM := xif c18 hM
                refine lv_bipush (v := 21) hx hb dX7_next_280 (by decide) ?_
                refine va_put (D := D) (ci := 7) (v := .int (21)) (C := RX7) (T := TX7) (N := 30) hx hb hts (fun w h => List.mem_cons_of_mem _ (List.mem_append_right _ h)) tyX7 tyX7_ok nmX7 hown hK hP hD hS 0 rfl rfl 6 (by decide) (hts _ (List.mem_of_getElem? (i := 4) rfl)) (fun _ h9 => h9) rfl (tyX7_ok 6 (by decide)) rfl rfl (Nat.le_of_ble_eq_true rfl) dX7_next_282 (fun H locs hP hD hS => ?_)
                have hP : va_P D vwCl [((x 0), .inr (7, o7 x (u_this.1, u_this.2.1, v16.1, v4, 21, v16.2, u_this.2.2.2.2.2.2.1, u_this.2.2.2.2.2.2.2.1, u_this.2.2.2.2.2.2.2.2.1, u_this.2.2.2.2.2.2.2.2.2.1, u_this.2.2.2.2.2.2.2.2.2.2.1, u_this.2.2.2.2.2.2.2.2.2.2.2))), ((x 1), .inl (T.2.1, 300, .inl u_this_text))] H := hP
                have hD : va_D A [((x 0), .inr (7, o7 x (u_this.1, u_this.2.1, v16.1, v4, 21, v16.2, u_this.2.2.2.2.2.2.1, u_this.2.2.2.2.2.2.2.1, u_this.2.2.2.2.2.2.2.2.1, u_this.2.2.2.2.2.2.2.2.2.1, u_this.2.2.2.2.2.2.2.2.2.2.1, u_this.2.2.2.2.2.2.2.2.2.2.2))), ((x 1), .inl (T.2.1, 300, .inl u_this_text))] := hD
                refine lv_goto (tgt := 315) hx hb dX7_next_285 (by decide) ?_
                obtain rfl := Option.some.inj hM
                exact xretv hx hb hr hlocks hP hK hD hS dX7_next_315
              · have hM := xit c18 hM
                refine lv_aload_n hx hb dX7_next_262 rfl (lv_at hl 0 rfl) ?_
                refine va_get (D := D) (ci := 7) (v := .int v16.1) (C := RX7) (T := TX7) (N := 30) hx hb hts (fun w h => List.mem_cons_of_mem _ (List.mem_append_right _ h)) hown hK hP 0 rfl rfl 4 (by decide) (hts _ (List.mem_of_getElem? (i := 1) rfl)) (fun _ h9 => h9) rfl dX7_next_263 ?_
                refine lv_aload_n hx hb dX7_next_266 rfl (lv_at hl 0 rfl) ?_
                refine va_get (D := D) (ci := 7) (v := .int v4) (C := RX7) (T := TX7) (N := 30) hx hb hts (fun w h => List.mem_cons_of_mem _ (List.mem_append_right _ h)) hown hK hP 0 rfl rfl 5 (by decide) (hts _ (List.mem_of_getElem? (i := 2) rfl)) (fun _ h9 => h9) rfl dX7_next_267 ?_
                refine lv_isub hx hb dX7_next_270 ?_
                refine lv_iconst (v := 1) hx hb dX7_next_271 (by decide) ?_
                refine lv_icmp_le (tgt := 280) hx hb dX7_next_272 (by decide) (fun c19 => ?_) (fun c19 => ?_)
                · have hM := xit c19 hM
                  refine lv_bipush (v := 21) hx hb dX7_next_280 (by decide) ?_
                  refine va_put (D := D) (ci := 7) (v := .int (21)) (C := RX7) (T := TX7) (N := 30) hx hb hts (fun w h => List.mem_cons_of_mem _ (List.mem_append_right _ h)) tyX7 tyX7_ok nmX7 hown hK hP hD hS 0 rfl rfl 6 (by decide) (hts _ (List.mem_of_getElem? (i := 4) rfl)) (fun _ h9 => h9) rfl (tyX7_ok 6 (by decide)) rfl rfl (Nat.le_of_ble_eq_true rfl) dX7_next_282 (fun H locs hP hD hS => ?_)
                  have hP : va_P D vwCl [((x 0), .inr (7, o7 x (u_this.1, u_this.2.1, v16.1, v4, 21, v16.2, u_this.2.2.2.2.2.2.1, u_this.2.2.2.2.2.2.2.1, u_this.2.2.2.2.2.2.2.2.1, u_this.2.2.2.2.2.2.2.2.2.1, u_this.2.2.2.2.2.2.2.2.2.2.1, u_this.2.2.2.2.2.2.2.2.2.2.2))), ((x 1), .inl (T.2.1, 300, .inl u_this_text))] H := hP
                  have hD : va_D A [((x 0), .inr (7, o7 x (u_this.1, u_this.2.1, v16.1, v4, 21, v16.2, u_this.2.2.2.2.2.2.1, u_this.2.2.2.2.2.2.2.1, u_this.2.2.2.2.2.2.2.2.1, u_this.2.2.2.2.2.2.2.2.2.1, u_this.2.2.2.2.2.2.2.2.2.2.1, u_this.2.2.2.2.2.2.2.2.2.2.2))), ((x 1), .inl (T.2.1, 300, .inl u_this_text))] := hD
                  refine lv_goto (tgt := 315) hx hb dX7_next_285 (by decide) ?_
                  obtain rfl := Option.some.inj hM
                  exact xretv hx hb hr hlocks hP hK hD hS dX7_next_315
                · have hM := xif c19 hM
                  refine lv_bipush (v := 23) hx hb dX7_next_275 (by decide) ?_
                  refine lv_goto (tgt := 282) hx hb dX7_next_277 (by decide) ?_
                  refine va_put (D := D) (ci := 7) (v := .int (23)) (C := RX7) (T := TX7) (N := 30) hx hb hts (fun w h => List.mem_cons_of_mem _ (List.mem_append_right _ h)) tyX7 tyX7_ok nmX7 hown hK hP hD hS 0 rfl rfl 6 (by decide) (hts _ (List.mem_of_getElem? (i := 4) rfl)) (fun _ h9 => h9) rfl (tyX7_ok 6 (by decide)) rfl rfl (Nat.le_of_ble_eq_true rfl) dX7_next_282 (fun H locs hP hD hS => ?_)
                  have hP : va_P D vwCl [((x 0), .inr (7, o7 x (u_this.1, u_this.2.1, v16.1, v4, 23, v16.2, u_this.2.2.2.2.2.2.1, u_this.2.2.2.2.2.2.2.1, u_this.2.2.2.2.2.2.2.2.1, u_this.2.2.2.2.2.2.2.2.2.1, u_this.2.2.2.2.2.2.2.2.2.2.1, u_this.2.2.2.2.2.2.2.2.2.2.2))), ((x 1), .inl (T.2.1, 300, .inl u_this_text))] H := hP
                  have hD : va_D A [((x 0), .inr (7, o7 x (u_this.1, u_this.2.1, v16.1, v4, 23, v16.2, u_this.2.2.2.2.2.2.1, u_this.2.2.2.2.2.2.2.1, u_this.2.2.2.2.2.2.2.2.1, u_this.2.2.2.2.2.2.2.2.2.1, u_this.2.2.2.2.2.2.2.2.2.2.1, u_this.2.2.2.2.2.2.2.2.2.2.2))), ((x 1), .inl (T.2.1, 300, .inl u_this_text))] := hD
                  refine lv_goto (tgt := 315) hx hb dX7_next_285 (by decide) ?_
                  obtain rfl := Option.some.inj hM
                  exact xretv hx hb hr hlocks hP hK hD hS dX7_next_315
          have Lv10 : ∀ (n : Nat) (v10 : Int32 × Int32), xlp (s_X7_next_184 u_this u_this_text v4) n v10 = some v16 → ∀ (H : Heap) (locs : List Loc) (ls : Array Slot), va_P D vwCl [((x 0), .inr (7, o7 x (u_this.1, u_this.2.1, v10.1, v4, u_this.2.2.2.2.1, v10.2, u_this.2.2.2.2.2.2.1, u_this.2.2.2.2.2.2.2.1, u_this.2.2.2.2.2.2.2.2.1, u_this.2.2.2.2.2.2.2.2.2.1, u_this.2.2.2.2.2.2.2.2.2.2.1, u_this.2.2.2.2.2.2.2.2.2.2.2))), ((x 1), .inl (T.2.1, 300, .inl u_this_text))] H → va_D A [((x 0), .inr (7, o7 x (u_this.1, u_this.2.1, v10.1, v4, u_this.2.2.2.2.1, v10.2, u_this.2.2.2.2.2.2.1, u_this.2.2.2.2.2.2.2.1, u_this.2.2.2.2.2.2.2.2.1, u_this.2.2.2.2.2.2.2.2.2.1, u_this.2.2.2.2.2.2.2.2.2.2.1, u_this.2.2.2.2.2.2.2.2.2.2.2))), ((x 1), .inl (T.2.1, 300, .inl u_this_text))] → va_S A s.heap H locs → lv_has ls 5 [(0, .ref (x 0)), (1, .int r5)] → W p l e ({ frames := 1, cells := 0, slots := 0, locals := 22 } : Room) s m ([.ref (x 0)] : List Value).toArray below meth c H locs 0 0 (MQ below (va_Qv (fun (_ : Unit) => True) (fun _ => xPost D T [((x 0), .inr (7, o7 x rv)), ((x 1), .inl (T.2.1, 300, .inl u_this_text))] A) A) ([.ref (x 0)] : List Value).toArray s 0 0 A) (F0 m 184 ls []) := by
            intro n
            induction n with
            | zero => exact fun _ h => (xlp_0 h).elim
            | succ n ih =>
              intro v10 hM H locs ls hP hD hS hl
              obtain ⟨z, hM, hz1, hz2⟩ := xlp_s hM
              unfold s_X7_next_184 at hM
              refine lv_aload_n hx hb dX7_next_184 rfl (lv_at hl 0 rfl) ?_
              obtain ⟨r11, er11, hM⟩ := xbd hM
              refine xafti (rv := r11) (W2 := [((x 0), .inr (7, o7 x (u_this.1, u_this.2.1, v10.1, v4, u_this.2.2.2.2.1, v10.2, u_this.2.2.2.2.2.2.1, u_this.2.2.2.2.2.2.2.1, u_this.2.2.2.2.2.2.2.2.1, u_this.2.2.2.2.2.2.2.2.2.1, u_this.2.2.2.2.2.2.2.2.2.2.1, u_this.2.2.2.2.2.2.2.2.2.2.2))), ((x 1), .inl (T.2.1, 300, .inl u_this_text))]) (va_runV (As := []) (rest := []) ⟨hx, hb, hml, hown, hts⟩ (c_X7_here l D T x (u_this.1, u_this.2.1, v10.1, v4, u_this.2.2.2.2.1, v10.2, u_this.2.2.2.2.2.2.1, u_this.2.2.2.2.2.2.2.1, u_this.2.2.2.2.2.2.2.2.1, u_this.2.2.2.2.2.2.2.2.2.1, u_this.2.2.2.2.2.2.2.2.2.2.1, u_this.2.2.2.2.2.2.2.2.2.2.2) u_this_text er11) (cwV 0 hts gX7_next_X7_here rfl rfl rfl (by decide +kernel) ⟨Nat.le_of_ble_eq_true rfl, Nat.le_of_ble_eq_true rfl⟩) (xpvv hP hD hK [0, 1] (by decide) rfl 0 7 rfl rfl (fun _ _ _ => trivial) (fun _ _ _ _ _ _ => trivial)) rfl rfl hl.1 rfl (lv_room (Nat.le_of_ble_eq_true rfl)) dX7_next_185 ⟨Nat.le_of_ble_eq_true rfl, Nat.le_of_ble_eq_true rfl⟩) hP hD hS hA [0, 1] rfl rfl rfl rfl (fun H locs hP hD hS => ?_)
              refine lv_bipush (v := 48) hx hb dX7_next_188 (by decide) ?_
              refine lv_bipush (v := 57) hx hb dX7_next_190 (by decide) ?_
              refine xafti (rv := (f_X7_in r11 (48) (57))) (W2 := [((x 0), .inr (7, o7 x (u_this.1, u_this.2.1, v10.1, v4, u_this.2.2.2.2.1, v10.2, u_this.2.2.2.2.2.2.1, u_this.2.2.2.2.2.2.2.1, u_this.2.2.2.2.2.2.2.2.1, u_this.2.2.2.2.2.2.2.2.2.1, u_this.2.2.2.2.2.2.2.2.2.2.1, u_this.2.2.2.2.2.2.2.2.2.2.2))), ((x 1), .inl (T.2.1, 300, .inl u_this_text))]) (va_runS (As := [.int r11, .int (48), .int (57)]) (rest := []) ⟨hx, hb, hml, hown, hts⟩ (c_X7_in (rv := (f_X7_in r11 (48) (57))) l D T r11 (48) (57) rfl) (cwS 3 hts gX7_next_X7_in rfl rfl rfl (by decide +kernel) ⟨Nat.le_of_ble_eq_true rfl, Nat.le_of_ble_eq_true rfl⟩) (xpvs hP hD hK [] (by decide) rfl (fun _ _ _ => trivial) (fun _ _ _ _ _ _ => trivial)) rfl rfl hl.1 rfl (lv_room (Nat.le_of_ble_eq_true rfl)) dX7_next_192 ⟨Nat.le_of_ble_eq_true rfl, Nat.le_of_ble_eq_true rfl⟩) hP hD hS hA [] rfl rfl rfl rfl (fun H locs hP hD hS => ?_)
              refine lv_if_eq (tgt := 246) hx hb dX7_next_195 (by decide) (fun c12 => ?_) (fun c12 => ?_)
              · have hM := xit c12 hM
                obtain rfl := hz2 _ (Option.some.inj hM).symm
                exact Kv16 _ _ _ hP hD hS (lv_sub hl [0, 1] rfl)
              · have hM := xif c12 hM
                refine lv_aload_n hx hb dX7_next_198 rfl (lv_at hl 0 rfl) ?_
                refine lv_aload_n hx hb dX7_next_199 rfl (lv_at hl 0 rfl) ?_
                refine va_get (D := D) (ci := 7) (v := .int v10.2) (C := RX7) (T := TX7) (N := 30) hx hb hts (fun w h => List.mem_cons_of_mem _ (List.mem_append_right _ h)) hown hK hP 0 rfl rfl 7 (by decide) (hts _ (List.mem_of_getElem? (i := 3) rfl)) (fun _ h9 => h9) rfl dX7_next_200 ?_
                refine lv_bipush (v := 100) hx hb dX7_next_203 (by decide) ?_
                obtain ⟨v15, hM, hNv15⟩ := xbd hM
                have Kv15 : ∀ (H : Heap) (locs : List Loc) (ls : Array Slot), va_P D vwCl [((x 0), .inr (7, o7 x (u_this.1, u_this.2.1, v10.1, v4, u_this.2.2.2.2.1, v10.2, u_this.2.2.2.2.2.2.1, u_this.2.2.2.2.2.2.2.1, u_this.2.2.2.2.2.2.2.2.1, u_this.2.2.2.2.2.2.2.2.2.1, u_this.2.2.2.2.2.2.2.2.2.2.1, u_this.2.2.2.2.2.2.2.2.2.2.2))), ((x 1), .inl (T.2.1, 300, .inl u_this_text))] H → va_D A [((x 0), .inr (7, o7 x (u_this.1, u_this.2.1, v10.1, v4, u_this.2.2.2.2.1, v10.2, u_this.2.2.2.2.2.2.1, u_this.2.2.2.2.2.2.2.1, u_this.2.2.2.2.2.2.2.2.1, u_this.2.2.2.2.2.2.2.2.2.1, u_this.2.2.2.2.2.2.2.2.2.2.1, u_this.2.2.2.2.2.2.2.2.2.2.2))), ((x 1), .inl (T.2.1, 300, .inl u_this_text))] → va_S A s.heap H locs → lv_has ls 5 [(0, .ref (x 0)), (1, .int r5)] → W p l e ({ frames := 1, cells := 0, slots := 0, locals := 22 } : Room) s m ([.ref (x 0)] : List Value).toArray below meth c H locs 0 0 (MQ below (va_Qv (fun (_ : Unit) => True) (fun _ => xPost D T [((x 0), .inr (7, o7 x rv)), ((x 1), .inl (T.2.1, 300, .inl u_this_text))] A) A) ([.ref (x 0)] : List Value).toArray s 0 0 A) (F0 m 230 ls [.int v15, .ref (x 0)]) := by
                  intro H locs ls hP hD hS hl
                  have hM := hNv15
                  refine va_put (D := D) (ci := 7) (v := .int v15) (C := RX7) (T := TX7) (N := 30) hx hb hts (fun w h => List.mem_cons_of_mem _ (List.mem_append_right _ h)) tyX7 tyX7_ok nmX7 hown hK hP hD hS 0 rfl rfl 7 (by decide) (hts _ (List.mem_of_getElem? (i := 3) rfl)) (fun _ h9 => h9) rfl (tyX7_ok 7 (by decide)) rfl rfl (Nat.le_of_ble_eq_true rfl) dX7_next_230 (fun H locs hP hD hS => ?_)
                  have hP : va_P D vwCl [((x 0), .inr (7, o7 x (u_this.1, u_this.2.1, v10.1, v4, u_this.2.2.2.2.1, v15, u_this.2.2.2.2.2.2.1, u_this.2.2.2.2.2.2.2.1, u_this.2.2.2.2.2.2.2.2.1, u_this.2.2.2.2.2.2.2.2.2.1, u_this.2.2.2.2.2.2.2.2.2.2.1, u_this.2.2.2.2.2.2.2.2.2.2.2))), ((x 1), .inl (T.2.1, 300, .inl u_this_text))] H := hP
                  have hD : va_D A [((x 0), .inr (7, o7 x (u_this.1, u_this.2.1, v10.1, v4, u_this.2.2.2.2.1, v15, u_this.2.2.2.2.2.2.1, u_this.2.2.2.2.2.2.2.1, u_this.2.2.2.2.2.2.2.2.1, u_this.2.2.2.2.2.2.2.2.2.1, u_this.2.2.2.2.2.2.2.2.2.2.1, u_this.2.2.2.2.2.2.2.2.2.2.2))), ((x 1), .inl (T.2.1, 300, .inl u_this_text))] := hD
                  refine lv_aload_n hx hb dX7_next_233 rfl (lv_at hl 0 rfl) ?_
                  refine lv_dup hx hb dX7_next_234 rfl ?_
                  refine va_get (D := D) (ci := 7) (v := .int v10.1) (C := RX7) (T := TX7) (N := 30) hx hb hts (fun w h => List.mem_cons_of_mem _ (List.mem_append_right _ h)) hown hK hP 0 rfl rfl 4 (by decide) (hts _ (List.mem_of_getElem? (i := 1) rfl)) (fun _ h9 => h9) rfl dX7_next_235 ?_
                  refine lv_iconst (v := 1) hx hb dX7_next_238 (by decide) ?_
                  refine lv_iadd hx hb dX7_next_239 ?_
                  refine va_put (D := D) (ci := 7) (v := .int (v10.1 + (1))) (C := RX7) (T := TX7) (N := 30) hx hb hts (fun w h => List.mem_cons_of_mem _ (List.mem_append_right _ h)) tyX7 tyX7_ok nmX7 hown hK hP hD hS 0 rfl rfl 4 (by decide) (hts _ (List.mem_of_getElem? (i := 1) rfl)) (fun _ h9 => h9) rfl (tyX7_ok 4 (by decide)) rfl rfl (Nat.le_of_ble_eq_true rfl) dX7_next_240 (fun H locs hP hD hS => ?_)
                  have hP : va_P D vwCl [((x 0), .inr (7, o7 x (u_this.1, u_this.2.1, (v10.1 + (1)), v4, u_this.2.2.2.2.1, v15, u_this.2.2.2.2.2.2.1, u_this.2.2.2.2.2.2.2.1, u_this.2.2.2.2.2.2.2.2.1, u_this.2.2.2.2.2.2.2.2.2.1, u_this.2.2.2.2.2.2.2.2.2.2.1, u_this.2.2.2.2.2.2.2.2.2.2.2))), ((x 1), .inl (T.2.1, 300, .inl u_this_text))] H := hP
                  have hD : va_D A [((x 0), .inr (7, o7 x (u_this.1, u_this.2.1, (v10.1 + (1)), v4, u_this.2.2.2.2.1, v15, u_this.2.2.2.2.2.2.1, u_this.2.2.2.2.2.2.2.1, u_this.2.2.2.2.2.2.2.2.1, u_this.2.2.2.2.2.2.2.2.2.1, u_this.2.2.2.2.2.2.2.2.2.2.1, u_this.2.2.2.2.2.2.2.2.2.2.2))), ((x 1), .inl (T.2.1, 300, .inl u_this_text))] := hD
                  refine lv_goto (tgt := 184) hx hb dX7_next_243 (by decide) ?_
                  exact ih _ (hz1 _ (Option.some.inj hM).symm) _ _ _ hP hD hS (lv_sub hl [0, 1] rfl)
                refine lv_icmp_le (tgt := 215) hx hb dX7_next_205 (by decide) (fun c13 => ?_) (fun c13 => ?_)
                · have hM := xit c13 hM
                  refine lv_bipush (v := 10) hx hb dX7_next_215 (by decide) ?_
                  refine lv_aload_n hx hb dX7_next_217 rfl (lv_at hl 0 rfl) ?_
                  refine va_get (D := D) (ci := 7) (v := .int v10.2) (C := RX7) (T := TX7) (N := 30) hx hb hts (fun w h => List.mem_cons_of_mem _ (List.mem_append_right _ h)) hown hK hP 0 rfl rfl 7 (by decide) (hts _ (List.mem_of_getElem? (i := 3) rfl)) (fun _ h9 => h9) rfl dX7_next_218 ?_
                  refine lv_imul hx hb dX7_next_221 ?_
                  refine lv_aload_n hx hb dX7_next_222 rfl (lv_at hl 0 rfl) ?_
                  obtain ⟨r14, er14, hM⟩ := xbd hM
                  refine xafti (rv := r14) (W2 := [((x 0), .inr (7, o7 x (u_this.1, u_this.2.1, v10.1, v4, u_this.2.2.2.2.1, v10.2, u_this.2.2.2.2.2.2.1, u_this.2.2.2.2.2.2.2.1, u_this.2.2.2.2.2.2.2.2.1, u_this.2.2.2.2.2.2.2.2.2.1, u_this.2.2.2.2.2.2.2.2.2.2.1, u_this.2.2.2.2.2.2.2.2.2.2.2))), ((x 1), .inl (T.2.1, 300, .inl u_this_text))]) (va_runV (As := []) (rest := [.int ((10) * v10.2), .ref (x 0)]) ⟨hx, hb, hml, hown, hts⟩ (c_X7_here l D T x (u_this.1, u_this.2.1, v10.1, v4, u_this.2.2.2.2.1, v10.2, u_this.2.2.2.2.2.2.1, u_this.2.2.2.2.2.2.2.1, u_this.2.2.2.2.2.2.2.2.1, u_this.2.2.2.2.2.2.2.2.2.1, u_this.2.2.2.2.2.2.2.2.2.2.1, u_this.2.2.2.2.2.2.2.2.2.2.2) u_this_text er14) (cwV 0 hts gX7_next_X7_here rfl rfl rfl (by decide +kernel) ⟨Nat.le_of_ble_eq_true rfl, Nat.le_of_ble_eq_true rfl⟩) (xpvv hP hD hK [0, 1] (by decide) rfl 0 7 rfl rfl (fun _ _ _ => trivial) (fun _ _ _ _ _ _ => trivial)) rfl rfl hl.1 rfl (lv_room (Nat.le_of_ble_eq_true rfl)) dX7_next_223 ⟨Nat.le_of_ble_eq_true rfl, Nat.le_of_ble_eq_true rfl⟩) hP hD hS hA [0, 1] rfl rfl rfl rfl (fun H locs hP hD hS => ?_)
                  refine lv_iadd hx hb dX7_next_226 ?_
                  refine lv_bipush (v := 48) hx hb dX7_next_227 (by decide) ?_
                  refine lv_isub hx hb dX7_next_229 ?_
                  obtain rfl := Option.some.inj hM
                  exact Kv15 _ _ _ hP hD hS (lv_sub hl [0, 1] rfl)
                · have hM := xif c13 hM
                  refine lv_aload_n hx hb dX7_next_208 rfl (lv_at hl 0 rfl) ?_
                  refine va_get (D := D) (ci := 7) (v := .int v10.2) (C := RX7) (T := TX7) (N := 30) hx hb hts (fun w h => List.mem_cons_of_mem _ (List.mem_append_right _ h)) hown hK hP 0 rfl rfl 7 (by decide) (hts _ (List.mem_of_getElem? (i := 3) rfl)) (fun _ h9 => h9) rfl dX7_next_209 ?_
                  refine lv_goto (tgt := 230) hx hb dX7_next_212 (by decide) ?_
                  obtain rfl := Option.some.inj hM
                  exact Kv15 _ _ _ hP hD hS (lv_sub hl [0, 1] rfl)
          exact Lv10 _ _ hM _ _ _ hP hD hS (lv_sub hl [1, 0] rfl)
      · have hM := xif c7 hM
        refine lv_iconst (v := 0) hx hb dX7_next_64 (by decide) ?_
        refine lv_istore_n (lv' := [(2, .int (0)), (1, .int r5), (0, .ref (x 0))]) hx hb dX7_next_65 rfl hl (by decide) rfl (fun ls hl => ?_)
        refine lv_iconst (v := 0) hx hb dX7_next_66 (by decide) ?_
        refine lv_istore_n (lv' := [(3, .int (0)), (2, .int (0)), (1, .int r5), (0, .ref (x 0))]) hx hb dX7_next_67 rfl hl (by decide) rfl (fun ls hl => ?_)
        obtain ⟨v30, hM, hNv30⟩ := xbd hM
        have hQv30 := hM
        have Kv30 : ∀ (H : Heap) (locs : List Loc) (ls : Array Slot), va_P D vwCl [((x 0), .inr (7, o7 x (u_this.1, u_this.2.1, v30.2.2, v4, u_this.2.2.2.2.1, 0, u_this.2.2.2.2.2.2.1, u_this.2.2.2.2.2.2.2.1, u_this.2.2.2.2.2.2.2.2.1, u_this.2.2.2.2.2.2.2.2.2.1, u_this.2.2.2.2.2.2.2.2.2.2.1, u_this.2.2.2.2.2.2.2.2.2.2.2))), ((x 1), .inl (T.2.1, 300, .inl u_this_text))] H → va_D A [((x 0), .inr (7, o7 x (u_this.1, u_this.2.1, v30.2.2, v4, u_this.2.2.2.2.1, 0, u_this.2.2.2.2.2.2.1, u_this.2.2.2.2.2.2.2.1, u_this.2.2.2.2.2.2.2.2.1, u_this.2.2.2.2.2.2.2.2.2.1, u_this.2.2.2.2.2.2.2.2.2.2.1, u_this.2.2.2.2.2.2.2.2.2.2.2))), ((x 1), .inl (T.2.1, 300, .inl u_this_text))] → va_S A s.heap H locs → lv_has ls 5 [(0, .ref (x 0)), (2, .int v30.1), (3, .int v30.2.1)] → W p l e ({ frames := 1, cells := 0, slots := 0, locals := 22 } : Room) s m ([.ref (x 0)] : List Value).toArray below meth c H locs 0 0 (MQ below (va_Qv (fun (_ : Unit) => True) (fun _ => xPost D T [((x 0), .inr (7, o7 x rv)), ((x 1), .inl (T.2.1, 300, .inl u_this_text))] A) A) ([.ref (x 0)] : List Value).toArray s 0 0 A) (F0 m 161 ls []) := by
          intro H locs ls hP hD hS hl
          have hM := hNv30
          refine lv_aload_n hx hb dX7_next_161 rfl (lv_at hl 0 rfl) ?_
          refine lv_iload_n hx hb dX7_next_162 rfl (lv_at hl 1 rfl) ?_
          refine lv_iload_n hx hb dX7_next_163 rfl (lv_at hl 2 rfl) ?_
          refine xafti (rv := (f_X7_meaning v30.1 v30.2.1)) (W2 := [((x 0), .inr (7, o7 x (u_this.1, u_this.2.1, v30.2.2, v4, u_this.2.2.2.2.1, 0, u_this.2.2.2.2.2.2.1, u_this.2.2.2.2.2.2.2.1, u_this.2.2.2.2.2.2.2.2.1, u_this.2.2.2.2.2.2.2.2.2.1, u_this.2.2.2.2.2.2.2.2.2.2.1, u_this.2.2.2.2.2.2.2.2.2.2.2))), ((x 1), .inl (T.2.1, 300, .inl u_this_text))]) (va_runS (As := [.int v30.1, .int v30.2.1]) (rest := [.ref (x 0)]) ⟨hx, hb, hml, hown, hts⟩ (c_X7_meaning (rv := (f_X7_meaning v30.1 v30.2.1)) l D T v30.1 v30.2.1 rfl) (cwS 2 hts gX7_next_X7_meaning rfl rfl rfl (by decide +kernel) ⟨Nat.le_of_ble_eq_true rfl, Nat.le_of_ble_eq_true rfl⟩) (xpvs hP hD hK [] (by decide) rfl (fun _ _ _ => trivial) (fun _ _ _ _ _ _ => trivial)) rfl rfl hl.1 rfl (lv_room (Nat.le_of_ble_eq_true rfl)) dX7_next_164 ⟨Nat.le_of_ble_eq_true rfl, Nat.le_of_ble_eq_true rfl⟩) hP hD hS hA [] rfl rfl rfl rfl (fun H locs hP hD hS => ?_)
          refine va_put (D := D) (ci := 7) (v := .int (f_X7_meaning v30.1 v30.2.1)) (C := RX7) (T := TX7) (N := 30) hx hb hts (fun w h => List.mem_cons_of_mem _ (List.mem_append_right _ h)) tyX7 tyX7_ok nmX7 hown hK hP hD hS 0 rfl rfl 6 (by decide) (hts _ (List.mem_of_getElem? (i := 4) rfl)) (fun _ h9 => h9) rfl (tyX7_ok 6 (by decide)) rfl rfl (Nat.le_of_ble_eq_true rfl) dX7_next_167 (fun H locs hP hD hS => ?_)
          have hP : va_P D vwCl [((x 0), .inr (7, o7 x (u_this.1, u_this.2.1, v30.2.2, v4, (f_X7_meaning v30.1 v30.2.1), 0, u_this.2.2.2.2.2.2.1, u_this.2.2.2.2.2.2.2.1, u_this.2.2.2.2.2.2.2.2.1, u_this.2.2.2.2.2.2.2.2.2.1, u_this.2.2.2.2.2.2.2.2.2.2.1, u_this.2.2.2.2.2.2.2.2.2.2.2))), ((x 1), .inl (T.2.1, 300, .inl u_this_text))] H := hP
          have hD : va_D A [((x 0), .inr (7, o7 x (u_this.1, u_this.2.1, v30.2.2, v4, (f_X7_meaning v30.1 v30.2.1), 0, u_this.2.2.2.2.2.2.1, u_this.2.2.2.2.2.2.2.1, u_this.2.2.2.2.2.2.2.2.1, u_this.2.2.2.2.2.2.2.2.2.1, u_this.2.2.2.2.2.2.2.2.2.2.1, u_this.2.2.2.2.2.2.2.2.2.2.2))), ((x 1), .inl (T.2.1, 300, .inl u_this_text))] := hD
          refine lv_goto (tgt := 315) hx hb dX7_next_170 (by decide) ?_
          obtain rfl := Option.some.inj hM
          exact xretv hx hb hr hlocks hP hK hD hS dX7_next_315
        have Lv20 : ∀ (n : Nat) (v20 : Int32 × Int32 × Int32), xlp (s_X7_next_68 u_this u_this_text v4) n v20 = some v30 → ∀ (H : Heap) (locs : List Loc) (ls : Array Slot), va_P D vwCl [((x 0), .inr (7, o7 x (u_this.1, u_this.2.1, v20.2.2, v4, u_this.2.2.2.2.1, 0, u_this.2.2.2.2.2.2.1, u_this.2.2.2.2.2.2.2.1, u_this.2.2.2.2.2.2.2.2.1, u_this.2.2.2.2.2.2.2.2.2.1, u_this.2.2.2.2.2.2.2.2.2.2.1, u_this.2.2.2.2.2.2.2.2.2.2.2))), ((x 1), .inl (T.2.1, 300, .inl u_this_text))] H → va_D A [((x 0), .inr (7, o7 x (u_this.1, u_this.2.1, v20.2.2, v4, u_this.2.2.2.2.1, 0, u_this.2.2.2.2.2.2.1, u_this.2.2.2.2.2.2.2.1, u_this.2.2.2.2.2.2.2.2.1, u_this.2.2.2.2.2.2.2.2.2.1, u_this.2.2.2.2.2.2.2.2.2.2.1, u_this.2.2.2.2.2.2.2.2.2.2.2))), ((x 1), .inl (T.2.1, 300, .inl u_this_text))] → va_S A s.heap H locs → lv_has ls 5 [(0, .ref (x 0)), (2, .int v20.1), (3, .int v20.2.1)] → W p l e ({ frames := 1, cells := 0, slots := 0, locals := 22 } : Room) s m ([.ref (x 0)] : List Value).toArray below meth c H locs 0 0 (MQ below (va_Qv (fun (_ : Unit) => True) (fun _ => xPost D T [((x 0), .inr (7, o7 x rv)), ((x 1), .inl (T.2.1, 300, .inl u_this_text))] A) A) ([.ref (x 0)] : List Value).toArray s 0 0 A) (F0 m 68 ls []) := by
          intro n
          induction n with
          | zero => exact fun _ h => (xlp_0 h).elim
          | succ n ih =>
            intro v20 hM H locs ls hP hD hS hl
            obtain ⟨z, hM, hz1, hz2⟩ := xlp_s hM
            unfold s_X7_next_68 at hM
            refine lv_aload_n hx hb dX7_next_68 rfl (lv_at hl 0 rfl) ?_
            obtain ⟨r21, er21, hM⟩ := xbd hM
            refine xafti (rv := r21) (W2 := [((x 0), .inr (7, o7 x (u_this.1, u_this.2.1, v20.2.2, v4, u_this.2.2.2.2.1, 0, u_this.2.2.2.2.2.2.1, u_this.2.2.2.2.2.2.2.1, u_this.2.2.2.2.2.2.2.2.1, u_this.2.2.2.2.2.2.2.2.2.1, u_this.2.2.2.2.2.2.2.2.2.2.1, u_this.2.2.2.2.2.2.2.2.2.2.2))), ((x 1), .inl (T.2.1, 300, .inl u_this_text))]) (va_runV (As := []) (rest := []) ⟨hx, hb, hml, hown, hts⟩ (c_X7_here l D T x (u_this.1, u_this.2.1, v20.2.2, v4, u_this.2.2.2.2.1, 0, u_this.2.2.2.2.2.2.1, u_this.2.2.2.2.2.2.2.1, u_this.2.2.2.2.2.2.2.2.1, u_this.2.2.2.2.2.2.2.2.2.1, u_this.2.2.2.2.2.2.2.2.2.2.1, u_this.2.2.2.2.2.2.2.2.2.2.2) u_this_text er21) (cwV 0 hts gX7_next_X7_here rfl rfl rfl (by decide +kernel) ⟨Nat.le_of_ble_eq_true rfl, Nat.le_of_ble_eq_true rfl⟩) (xpvv hP hD hK [0, 1] (by decide) rfl 0 7 rfl rfl (fun _ _ _ => trivial) (fun _ _ _ _ _ _ => trivial)) rfl rfl hl.1 rfl (lv_room (Nat.le_of_ble_eq_true rfl)) dX7_next_69 ⟨Nat.le_of_ble_eq_true rfl, Nat.le_of_ble_eq_true rfl⟩) hP hD hS hA [0, 1] rfl rfl rfl rfl (fun H locs hP hD hS => ?_)
            refine lv_bipush (v := 97) hx hb dX7_next_72 (by decide) ?_
            refine lv_bipush (v := 122) hx hb dX7_next_74 (by decide) ?_
            refine xafti (rv := (f_X7_in r21 (97) (122))) (W2 := [((x 0), .inr (7, o7 x (u_this.1, u_this.2.1, v20.2.2, v4, u_this.2.2.2.2.1, 0, u_this.2.2.2.2.2.2.1, u_this.2.2.2.2.2.2.2.1, u_this.2.2.2.2.2.2.2.2.1, u_this.2.2.2.2.2.2.2.2.2.1, u_this.2.2.2.2.2.2.2.2.2.2.1, u_this.2.2.2.2.2.2.2.2.2.2.2))), ((x 1), .inl (T.2.1, 300, .inl u_this_text))]) (va_runS (As := [.int r21, .int (97), .int (122)]) (rest := []) ⟨hx, hb, hml, hown, hts⟩ (c_X7_in (rv := (f_X7_in r21 (97) (122))) l D T r21 (97) (122) rfl) (cwS 3 hts gX7_next_X7_in rfl rfl rfl (by decide +kernel) ⟨Nat.le_of_ble_eq_true rfl, Nat.le_of_ble_eq_true rfl⟩) (xpvs hP hD hK [] (by decide) rfl (fun _ _ _ => trivial) (fun _ _ _ _ _ _ => trivial)) rfl rfl hl.1 rfl (lv_room (Nat.le_of_ble_eq_true rfl)) dX7_next_76 ⟨Nat.le_of_ble_eq_true rfl, Nat.le_of_ble_eq_true rfl⟩) hP hD hS hA [] rfl rfl rfl rfl (fun H locs hP hD hS => ?_)
            refine lv_if_eq (tgt := 161) hx hb dX7_next_79 (by decide) (fun c22 => ?_) (fun c22 => ?_)
            · have hM := xit c22 hM
              obtain rfl := hz2 _ (Option.some.inj hM).symm
              exact Kv30 _ _ _ hP hD hS (lv_sub hl [0, 1, 2] rfl)
            · have hM := xif c22 hM
              refine lv_aload_n hx hb dX7_next_82 rfl (lv_at hl 0 rfl) ?_
              refine va_get (D := D) (ci := 7) (v := .int v20.2.2) (C := RX7) (T := TX7) (N := 30) hx hb hts (fun w h => List.mem_cons_of_mem _ (List.mem_append_right _ h)) hown hK hP 0 rfl rfl 4 (by decide) (hts _ (List.mem_of_getElem? (i := 1) rfl)) (fun _ h9 => h9) rfl dX7_next_83 ?_
              refine lv_aload_n hx hb dX7_next_86 rfl (lv_at hl 0 rfl) ?_
              refine va_get (D := D) (ci := 7) (v := .int v4) (C := RX7) (T := TX7) (N := 30) hx hb hts (fun w h => List.mem_cons_of_mem _ (List.mem_append_right _ h)) hown hK hP 0 rfl rfl 5 (by decide) (hts _ (List.mem_of_getElem? (i := 2) rfl)) (fun _ h9 => h9) rfl dX7_next_87 ?_
              refine lv_isub hx hb dX7_next_90 ?_
              refine lv_istore (lv' := [(4, .int (v20.2.2 - v4)), (0, .ref (x 0)), (2, .int v20.1), (3, .int v20.2.1)]) hx hb dX7_next_91 hl (by decide) rfl (fun ls hl => ?_)
              refine lv_iload hx hb dX7_next_93 (lv_at hl 0 rfl) ?_
              refine lv_bipush (v := 6) hx hb dX7_next_95 (by decide) ?_
              obtain ⟨v25, hM, hNv25⟩ := xbd hM
              have Kv25 : ∀ (H : Heap) (locs : List Loc) (ls : Array Slot), va_P D vwCl [((x 0), .inr (7, o7 x (u_this.1, u_this.2.1, v20.2.2, v4, u_this.2.2.2.2.1, 0, u_this.2.2.2.2.2.2.1, u_this.2.2.2.2.2.2.2.1, u_this.2.2.2.2.2.2.2.2.1, u_this.2.2.2.2.2.2.2.2.2.1, u_this.2.2.2.2.2.2.2.2.2.2.1, u_this.2.2.2.2.2.2.2.2.2.2.2))), ((x 1), .inl (T.2.1, 300, .inl u_this_text))] H → va_D A [((x 0), .inr (7, o7 x (u_this.1, u_this.2.1, v20.2.2, v4, u_this.2.2.2.2.1, 0, u_this.2.2.2.2.2.2.1, u_this.2.2.2.2.2.2.2.1, u_this.2.2.2.2.2.2.2.2.1, u_this.2.2.2.2.2.2.2.2.2.1, u_this.2.2.2.2.2.2.2.2.2.2.1, u_this.2.2.2.2.2.2.2.2.2.2.2))), ((x 1), .inl (T.2.1, 300, .inl u_this_text))] → va_S A s.heap H locs → lv_has ls 5 [(0, .ref (x 0)), (3, .int v20.2.1), (4, .int (v20.2.2 - v4))] → W p l e ({ frames := 1, cells := 0, slots := 0, locals := 22 } : Room) s m ([.ref (x 0)] : List Value).toArray below meth c H locs 0 0 (MQ below (va_Qv (fun (_ : Unit) => True) (fun _ => xPost D T [((x 0), .inr (7, o7 x rv)), ((x 1), .inl (T.2.1, 300, .inl u_this_text))] A) A) ([.ref (x 0)] : List Value).toArray s 0 0 A) (F0 m 116 ls [.int v25]) := by
                intro H locs ls hP hD hS hl
                have hM := hNv25
                refine lv_istore_n (lv' := [(2, .int v25), (0, .ref (x 0)), (3, .int v20.2.1), (4, .int (v20.2.2 - v4))]) hx hb dX7_next_116 rfl hl (by decide) rfl (fun ls hl => ?_)
                refine lv_iload hx hb dX7_next_117 (lv_at hl 3 rfl) ?_
                refine lv_bipush (v := 6) hx hb dX7_next_119 (by decide) ?_
                obtain ⟨v29, hM, hNv29⟩ := xbd hM
                have Kv29 : ∀ (H : Heap) (locs : List Loc) (ls : Array Slot), va_P D vwCl [((x 0), .inr (7, o7 x (u_this.1, u_this.2.1, v20.2.2, v4, u_this.2.2.2.2.1, 0, u_this.2.2.2.2.2.2.1, u_this.2.2.2.2.2.2.2.1, u_this.2.2.2.2.2.2.2.2.1, u_this.2.2.2.2.2.2.2.2.2.1, u_this.2.2.2.2.2.2.2.2.2.2.1, u_this.2.2.2.2.2.2.2.2.2.2.2))), ((x 1), .inl (T.2.1, 300, .inl u_this_text))] H → va_D A [((x 0), .inr (7, o7 x (u_this.1, u_this.2.1, v20.2.2, v4, u_this.2.2.2.2.1, 0, u_this.2.2.2.2.2.2.1, u_this.2.2.2.2.2.2.2.1, u_this.2.2.2.2.2.2.2.2.1, u_this.2.2.2.2.2.2.2.2.2.1, u_this.2.2.2.2.2.2.2.2.2.2.1, u_this.2.2.2.2.2.2.2.2.2.2.2))), ((x 1), .inl (T.2.1, 300, .inl u_this_text))] → va_S A s.heap H locs → lv_has ls 5 [(0, .ref (x 0)), (2, .int v25)] → W p l e ({ frames := 1, cells := 0, slots := 0, locals := 22 } : Room) s m ([.ref (x 0)] : List Value).toArray below meth c H locs 0 0 (MQ below (va_Qv (fun (_ : Unit) => True) (fun _ => xPost D T [((x 0), .inr (7, o7 x rv)), ((x 1), .inl (T.2.1, 300, .inl u_this_text))] A) A) ([.ref (x 0)] : List Value).toArray s 0 0 A) (F0 m 147 ls [.int v29]) := by
                  intro H locs ls hP hD hS hl
                  have hM := hNv29
                  refine lv_istore_n (lv' := [(3, .int v29), (0, .ref (x 0)), (2, .int v25)]) hx hb dX7_next_147 rfl hl (by decide) rfl (fun ls hl => ?_)
                  refine lv_aload_n hx hb dX7_next_148 rfl (lv_at hl 1 rfl) ?_
                  refine lv_dup hx hb dX7_next_149 rfl ?_
                  refine va_get (D := D) (ci := 7) (v := .int v20.2.2) (C := RX7) (T := TX7) (N := 30) hx hb hts (fun w h => List.mem_cons_of_mem _ (List.mem_append_right _ h)) hown hK hP 0 rfl rfl 4 (by decide) (hts _ (List.mem_of_getElem? (i := 1) rfl)) (fun _ h9 => h9) rfl dX7_next_150 ?_
                  refine lv_iconst (v := 1) hx hb dX7_next_153 (by decide) ?_
                  refine lv_iadd hx hb dX7_next_154 ?_
                  refine va_put (D := D) (ci := 7) (v := .int (v20.2.2 + (1))) (C := RX7) (T := TX7) (N := 30) hx hb hts (fun w h => List.mem_cons_of_mem _ (List.mem_append_right _ h)) tyX7 tyX7_ok nmX7 hown hK hP hD hS 0 rfl rfl 4 (by decide) (hts _ (List.mem_of_getElem? (i := 1) rfl)) (fun _ h9 => h9) rfl (tyX7_ok 4 (by decide)) rfl rfl (Nat.le_of_ble_eq_true rfl) dX7_next_155 (fun H locs hP hD hS => ?_)
                  have hP : va_P D vwCl [((x 0), .inr (7, o7 x (u_this.1, u_this.2.1, (v20.2.2 + (1)), v4, u_this.2.2.2.2.1, 0, u_this.2.2.2.2.2.2.1, u_this.2.2.2.2.2.2.2.1, u_this.2.2.2.2.2.2.2.2.1, u_this.2.2.2.2.2.2.2.2.2.1, u_this.2.2.2.2.2.2.2.2.2.2.1, u_this.2.2.2.2.2.2.2.2.2.2.2))), ((x 1), .inl (T.2.1, 300, .inl u_this_text))] H := hP
                  have hD : va_D A [((x 0), .inr (7, o7 x (u_this.1, u_this.2.1, (v20.2.2 + (1)), v4, u_this.2.2.2.2.1, 0, u_this.2.2.2.2.2.2.1, u_this.2.2.2.2.2.2.2.1, u_this.2.2.2.2.2.2.2.2.1, u_this.2.2.2.2.2.2.2.2.2.1, u_this.2.2.2.2.2.2.2.2.2.2.1, u_this.2.2.2.2.2.2.2.2.2.2.2))), ((x 1), .inl (T.2.1, 300, .inl u_this_text))] := hD
                  refine lv_goto (tgt := 68) hx hb dX7_next_158 (by decide) ?_
                  exact ih _ (hz1 _ (Option.some.inj hM).symm) _ _ _ hP hD hS (lv_sub hl [1, 2, 0] rfl)
                refine lv_icmp_ne (tgt := 134) hx hb dX7_next_121 (by decide) (fun c26 => ?_) (fun c26 => ?_)
                · have hM := xif c26 hM
                  refine lv_iload hx hb dX7_next_134 (lv_at hl 3 rfl) ?_
                  refine lv_bipush (v := 6) hx hb dX7_next_136 (by decide) ?_
                  refine lv_icmp_le (tgt := 146) hx hb dX7_next_138 (by decide) (fun c27 => ?_) (fun c27 => ?_)
                  · have hM := xit c27 hM
                    refine lv_iload_n hx hb dX7_next_146 rfl (lv_at hl 2 rfl) ?_
                    obtain rfl := Option.some.inj hM
                    exact Kv29 _ _ _ hP hD hS (lv_sub hl [1, 0] rfl)
                  · have hM := xif c27 hM
                    refine lv_bipush (v := 99) hx hb dX7_next_141 (by decide) ?_
                    refine lv_goto (tgt := 147) hx hb dX7_next_143 (by decide) ?_
                    obtain rfl := Option.some.inj hM
                    exact Kv29 _ _ _ hP hD hS (lv_sub hl [1, 0] rfl)
                · have hM := xit c26 hM
                  refine lv_aload_n hx hb dX7_next_124 rfl (lv_at hl 1 rfl) ?_
                  obtain ⟨r28, er28, hM⟩ := xbd hM
                  refine xafti (rv := r28) (W2 := [((x 0), .inr (7, o7 x (u_this.1, u_this.2.1, v20.2.2, v4, u_this.2.2.2.2.1, 0, u_this.2.2.2.2.2.2.1, u_this.2.2.2.2.2.2.2.1, u_this.2.2.2.2.2.2.2.2.1, u_this.2.2.2.2.2.2.2.2.2.1, u_this.2.2.2.2.2.2.2.2.2.2.1, u_this.2.2.2.2.2.2.2.2.2.2.2))), ((x 1), .inl (T.2.1, 300, .inl u_this_text))]) (va_runV (As := []) (rest := []) ⟨hx, hb, hml, hown, hts⟩ (c_X7_here l D T x (u_this.1, u_this.2.1, v20.2.2, v4, u_this.2.2.2.2.1, 0, u_this.2.2.2.2.2.2.1, u_this.2.2.2.2.2.2.2.1, u_this.2.2.2.2.2.2.2.2.1, u_this.2.2.2.2.2.2.2.2.2.1, u_this.2.2.2.2.2.2.2.2.2.2.1, u_this.2.2.2.2.2.2.2.2.2.2.2) u_this_text er28) (cwV 0 hts gX7_next_X7_here rfl rfl rfl (by decide +kernel) ⟨Nat.le_of_ble_eq_true rfl, Nat.le_of_ble_eq_true rfl⟩) (xpvv hP hD hK [0, 1] (by decide) rfl 0 7 rfl rfl (fun _ _ _ => trivial) (fun _ _ _ _ _ _ => trivial)) rfl rfl hl.1 rfl (lv_room (Nat.le_of_ble_eq_true rfl)) dX7_next_125 ⟨Nat.le_of_ble_eq_true rfl, Nat.le_of_ble_eq_true rfl⟩) hP hD hS hA [0, 1] rfl rfl rfl rfl (fun H locs hP hD hS => ?_)
                  refine lv_bipush (v := 96) hx hb dX7_next_128 (by decide) ?_
                  refine lv_isub hx hb dX7_next_130 ?_
                  refine lv_goto (tgt := 147) hx hb dX7_next_131 (by decide) ?_
                  obtain rfl := Option.some.inj hM
                  exact Kv29 _ _ _ hP hD hS (lv_sub hl [1, 0] rfl)
              refine lv_icmp_ge (tgt := 115) hx hb dX7_next_97 (by decide) (fun c23 => ?_) (fun c23 => ?_)
              · have hM := xit c23 hM
                refine lv_iload_n hx hb dX7_next_115 rfl (lv_at hl 2 rfl) ?_
                obtain rfl := Option.some.inj hM
                exact Kv25 _ _ _ hP hD hS (lv_sub hl [1, 3, 0] rfl)
              · have hM := xif c23 hM
                refine lv_bipush (v := 27) hx hb dX7_next_100 (by decide) ?_
                refine lv_iload_n hx hb dX7_next_102 rfl (lv_at hl 2 rfl) ?_
                refine lv_imul hx hb dX7_next_103 ?_
                refine lv_aload_n hx hb dX7_next_104 rfl (lv_at hl 1 rfl) ?_
                obtain ⟨r24, er24, hM⟩ := xbd hM
                refine xafti (rv := r24) (W2 := [((x 0), .inr (7, o7 x (u_this.1, u_this.2.1, v20.2.2, v4, u_this.2.2.2.2.1, 0, u_this.2.2.2.2.2.2.1, u_this.2.2.2.2.2.2.2.1, u_this.2.2.2.2.2.2.2.2.1, u_this.2.2.2.2.2.2.2.2.2.1, u_this.2.2.2.2.2.2.2.2.2.2.1, u_this.2.2.2.2.2.2.2.2.2.2.2))), ((x 1), .inl (T.2.1, 300, .inl u_this_text))]) (va_runV (As := []) (rest := [.int ((27) * v20.1)]) ⟨hx, hb, hml, hown, hts⟩ (c_X7_here l D T x (u_this.1, u_this.2.1, v20.2.2, v4, u_this.2.2.2.2.1, 0, u_this.2.2.2.2.2.2.1, u_this.2.2.2.2.2.2.2.1, u_this.2.2.2.2.2.2.2.2.1, u_this.2.2.2.2.2.2.2.2.2.1, u_this.2.2.2.2.2.2.2.2.2.2.1, u_this.2.2.2.2.2.2.2.2.2.2.2) u_this_text er24) (cwV 0 hts gX7_next_X7_here rfl rfl rfl (by decide +kernel) ⟨Nat.le_of_ble_eq_true rfl, Nat.le_of_ble_eq_true rfl⟩) (xpvv hP hD hK [0, 1] (by decide) rfl 0 7 rfl rfl (fun _ _ _ => trivial) (fun _ _ _ _ _ _ => trivial)) rfl rfl hl.1 rfl (lv_room (Nat.le_of_ble_eq_true rfl)) dX7_next_105 ⟨Nat.le_of_ble_eq_true rfl, Nat.le_of_ble_eq_true rfl⟩) hP hD hS hA [0, 1] rfl rfl rfl rfl (fun H locs hP hD hS => ?_)
                refine lv_iadd hx hb dX7_next_108 ?_
                refine lv_bipush (v := 96) hx hb dX7_next_109 (by decide) ?_
                refine lv_isub hx hb dX7_next_111 ?_
                refine lv_goto (tgt := 116) hx hb dX7_next_112 (by decide) ?_
                obtain rfl := Option.some.inj hM
                exact Kv25 _ _ _ hP hD hS (lv_sub hl [1, 3, 0] rfl)
        exact Lv20 _ _ hM _ _ _ hP hD hS (lv_sub hl [3, 1, 0] rfl)
    · have hM := xif c6 hM
      refine lv_aload_n hx hb dX7_next_44 rfl (lv_at hl 1 rfl) ?_
      refine lv_bipush (v := 20) hx hb dX7_next_45 (by decide) ?_
      refine va_put (D := D) (ci := 7) (v := .int (20)) (C := RX7) (T := TX7) (N := 30) hx hb hts (fun w h => List.mem_cons_of_mem _ (List.mem_append_right _ h)) tyX7 tyX7_ok nmX7 hown hK hP hD hS 0 rfl rfl 6 (by decide) (hts _ (List.mem_of_getElem? (i := 4) rfl)) (fun _ h9 => h9) rfl (tyX7_ok 6 (by decide)) rfl rfl (Nat.le_of_ble_eq_true rfl) dX7_next_47 (fun H locs hP hD hS => ?_)
      have hP : va_P D vwCl [((x 0), .inr (7, o7 x (u_this.1, u_this.2.1, v4, v4, 20, 0, u_this.2.2.2.2.2.2.1, u_this.2.2.2.2.2.2.2.1, u_this.2.2.2.2.2.2.2.2.1, u_this.2.2.2.2.2.2.2.2.2.1, u_this.2.2.2.2.2.2.2.2.2.2.1, u_this.2.2.2.2.2.2.2.2.2.2.2))), ((x 1), .inl (T.2.1, 300, .inl u_this_text))] H := hP
      have hD : va_D A [((x 0), .inr (7, o7 x (u_this.1, u_this.2.1, v4, v4, 20, 0, u_this.2.2.2.2.2.2.1, u_this.2.2.2.2.2.2.2.1, u_this.2.2.2.2.2.2.2.2.1, u_this.2.2.2.2.2.2.2.2.2.1, u_this.2.2.2.2.2.2.2.2.2.2.1, u_this.2.2.2.2.2.2.2.2.2.2.2))), ((x 1), .inl (T.2.1, 300, .inl u_this_text))] := hD
      refine lv_goto (tgt := 315) hx hb dX7_next_50 (by decide) ?_
      obtain rfl := Option.some.inj hM
      exact xretv hx hb hr hlocks hP hK hD hS dX7_next_315
  have Lv1 : ∀ (n : Nat) (v1 : Int32), xlp (s_X7_next_0 u_this u_this_text) n v1 = some v4 → ∀ (H : Heap) (locs : List Loc) (ls : Array Slot), va_P D vwCl [((x 0), .inr (7, o7 x (u_this.1, u_this.2.1, v1, u_this.2.2.2.1, u_this.2.2.2.2.1, u_this.2.2.2.2.2.1, u_this.2.2.2.2.2.2.1, u_this.2.2.2.2.2.2.2.1, u_this.2.2.2.2.2.2.2.2.1, u_this.2.2.2.2.2.2.2.2.2.1, u_this.2.2.2.2.2.2.2.2.2.2.1, u_this.2.2.2.2.2.2.2.2.2.2.2))), ((x 1), .inl (T.2.1, 300, .inl u_this_text))] H → va_D A [((x 0), .inr (7, o7 x (u_this.1, u_this.2.1, v1, u_this.2.2.2.1, u_this.2.2.2.2.1, u_this.2.2.2.2.2.1, u_this.2.2.2.2.2.2.1, u_this.2.2.2.2.2.2.2.1, u_this.2.2.2.2.2.2.2.2.1, u_this.2.2.2.2.2.2.2.2.2.1, u_this.2.2.2.2.2.2.2.2.2.2.1, u_this.2.2.2.2.2.2.2.2.2.2.2))), ((x 1), .inl (T.2.1, 300, .inl u_this_text))] → va_S A s.heap H locs → lv_has ls 5 [(0, .ref (x 0))] → W p l e ({ frames := 1, cells := 0, slots := 0, locals := 22 } : Room) s m ([.ref (x 0)] : List Value).toArray below meth c H locs 0 0 (MQ below (va_Qv (fun (_ : Unit) => True) (fun _ => xPost D T [((x 0), .inr (7, o7 x rv)), ((x 1), .inl (T.2.1, 300, .inl u_this_text))] A) A) ([.ref (x 0)] : List Value).toArray s 0 0 A) (F0 m 0 ls []) := by
    intro n
    induction n with
    | zero => exact fun _ h => (xlp_0 h).elim
    | succ n ih =>
      intro v1 hM H locs ls hP hD hS hl
      obtain ⟨z, hM, hz1, hz2⟩ := xlp_s hM
      unfold s_X7_next_0 at hM
      refine lv_aload_n hx hb dX7_next_0 rfl (lv_at hl 0 rfl) ?_
      obtain ⟨r2, er2, hM⟩ := xbd hM
      refine xafti (rv := r2) (W2 := [((x 0), .inr (7, o7 x (u_this.1, u_this.2.1, v1, u_this.2.2.2.1, u_this.2.2.2.2.1, u_this.2.2.2.2.2.1, u_this.2.2.2.2.2.2.1, u_this.2.2.2.2.2.2.2.1, u_this.2.2.2.2.2.2.2.2.1, u_this.2.2.2.2.2.2.2.2.2.1, u_this.2.2.2.2.2.2.2.2.2.2.1, u_this.2.2.2.2.2.2.2.2.2.2.2))), ((x 1), .inl (T.2.1, 300, .inl u_this_text))]) (va_runV (As := []) (rest := []) ⟨hx, hb, hml, hown, hts⟩ (c_X7_here l D T x (u_this.1, u_this.2.1, v1, u_this.2.2.2.1, u_this.2.2.2.2.1, u_this.2.2.2.2.2.1, u_this.2.2.2.2.2.2.1, u_this.2.2.2.2.2.2.2.1, u_this.2.2.2.2.2.2.2.2.1, u_this.2.2.2.2.2.2.2.2.2.1, u_this.2.2.2.2.2.2.2.2.2.2.1, u_this.2.2.2.2.2.2.2.2.2.2.2) u_this_text er2) (cwV 0 hts gX7_next_X7_here rfl rfl rfl (by decide +kernel) ⟨Nat.le_of_ble_eq_true rfl, Nat.le_of_ble_eq_true rfl⟩) (xpvv hP hD hK [0, 1] (by decide) rfl 0 7 rfl rfl (fun _ _ _ => trivial) (fun _ _ _ _ _ _ => trivial)) rfl rfl hl.1 rfl (lv_room (Nat.le_of_ble_eq_true rfl)) dX7_next_1 ⟨Nat.le_of_ble_eq_true rfl, Nat.le_of_ble_eq_true rfl⟩) hP hD hS hA [0, 1] rfl rfl rfl rfl (fun H locs hP hD hS => ?_)
      refine lv_bipush (v := 32) hx hb dX7_next_4 (by decide) ?_
      refine lv_icmp_ne (tgt := 22) hx hb dX7_next_6 (by decide) (fun c3 => ?_) (fun c3 => ?_)
      · have hM := xif c3 hM
        obtain rfl := hz2 _ (Option.some.inj hM).symm
        exact Kv4 _ _ _ hP hD hS (lv_sub hl [0] rfl)
      · have hM := xit c3 hM
        refine lv_aload_n hx hb dX7_next_9 rfl (lv_at hl 0 rfl) ?_
        refine lv_dup hx hb dX7_next_10 rfl ?_
        refine va_get (D := D) (ci := 7) (v := .int v1) (C := RX7) (T := TX7) (N := 30) hx hb hts (fun w h => List.mem_cons_of_mem _ (List.mem_append_right _ h)) hown hK hP 0 rfl rfl 4 (by decide) (hts _ (List.mem_of_getElem? (i := 1) rfl)) (fun _ h9 => h9) rfl dX7_next_11 ?_
        refine lv_iconst (v := 1) hx hb dX7_next_14 (by decide) ?_
        refine lv_iadd hx hb dX7_next_15 ?_
        refine va_put (D := D) (ci := 7) (v := .int (v1 + (1))) (C := RX7) (T := TX7) (N := 30) hx hb hts (fun w h => List.mem_cons_of_mem _ (List.mem_append_right _ h)) tyX7 tyX7_ok nmX7 hown hK hP hD hS 0 rfl rfl 4 (by decide) (hts _ (List.mem_of_getElem? (i := 1) rfl)) (fun _ h9 => h9) rfl (tyX7_ok 4 (by decide)) rfl rfl (Nat.le_of_ble_eq_true rfl) dX7_next_16 (fun H locs hP hD hS => ?_)
        have hP : va_P D vwCl [((x 0), .inr (7, o7 x (u_this.1, u_this.2.1, (v1 + (1)), u_this.2.2.2.1, u_this.2.2.2.2.1, u_this.2.2.2.2.2.1, u_this.2.2.2.2.2.2.1, u_this.2.2.2.2.2.2.2.1, u_this.2.2.2.2.2.2.2.2.1, u_this.2.2.2.2.2.2.2.2.2.1, u_this.2.2.2.2.2.2.2.2.2.2.1, u_this.2.2.2.2.2.2.2.2.2.2.2))), ((x 1), .inl (T.2.1, 300, .inl u_this_text))] H := hP
        have hD : va_D A [((x 0), .inr (7, o7 x (u_this.1, u_this.2.1, (v1 + (1)), u_this.2.2.2.1, u_this.2.2.2.2.1, u_this.2.2.2.2.2.1, u_this.2.2.2.2.2.2.1, u_this.2.2.2.2.2.2.2.1, u_this.2.2.2.2.2.2.2.2.1, u_this.2.2.2.2.2.2.2.2.2.1, u_this.2.2.2.2.2.2.2.2.2.2.1, u_this.2.2.2.2.2.2.2.2.2.2.2))), ((x 1), .inl (T.2.1, 300, .inl u_this_text))] := hD
        refine lv_goto (tgt := 0) hx hb dX7_next_19 (by decide) ?_
        exact ih _ (hz1 _ (Option.some.inj hM).symm) _ _ _ hP hD hS (lv_sub hl [0] rfl)
  exact Lv1 _ _ hM _ _ _ hP hD hS (lv_sub hl [0] rfl)
def f_X7_due (N : Nat) (u_this : K7) (u_this_text : (Nat → Int32)) (p1 : Int32) : Option (Int32 × K7) :=
  if u_this.2.2.2.2.2.2.1 = (-9) then
   (if p1 = (0) then
     (some (u_this.2.2.2.2.2.1, (u_this.1, u_this.2.1, u_this.2.2.1, u_this.2.2.2.1, u_this.2.2.2.2.1, u_this.2.2.2.2.2.1, u_this.2.2.2.1, u_this.2.2.2.2.2.2.2.1, u_this.2.2.2.2.2.2.2.2.1, u_this.2.2.2.2.2.2.2.2.2.1, u_this.2.2.2.2.2.2.2.2.2.2.1, u_this.2.2.2.2.2.2.2.2.2.2.2)))
    else
     ((f_X7_next N u_this u_this_text).bind fun r3 =>
      some (u_this.2.2.2.2.2.1, r3)))
  else
   (some (u_this.2.2.2.2.2.1, u_this))
set_option maxHeartbeats 4000000 in
set_option maxRecDepth 100000 in
theorem c_X7_due (l : Launch) (D : va_G) (T : xT) (x : Nat → Nat) {sz : Nat} {N : Nat} (u_this : K7) (u_this_text : (Nat → Int32)) (p1 : Int32) {rv : Int32 × K7} (hM : f_X7_due N u_this u_this_text p1 = some rv) : Met l yX7_due wsX7_due ({ frames := 2, cells := 0, slots := 0, locals := 46 } : Room) (va_Pc [.ref (x 0), .int p1] (xPre D T [((x 0), .inr (7, o7 x u_this)), ((x 1), .inl (T.2.1, 300, .inl u_this_text))] sz xE0)) (va_Qi (fun (r : Int32) (_ : Unit) => r = rv.1) (fun _ => xPost D T [((x 0), .inr (7, o7 x rv.2)), ((x 1), .inl (T.2.1, 300, .inl u_this_text))] (va_A [((x 0), .inr (7, o7 x u_this)), ((x 1), .inl (T.2.1, 300, .inl u_this_text))] sz)) (va_A [((x 0), .inr (7, o7 x u_this)), ((x 1), .inl (T.2.1, 300, .inl u_this_text))] sz)) 0 0 (va_A [((x 0), .inr (7, o7 x u_this)), ((x 1), .inl (T.2.1, 300, .inl u_this_text))] sz) := by
  refine xMet (av := [.ref (x 0), .int p1]) (Wd := [((x 0), .inr (7, o7 x u_this)), ((x 1), .inl (T.2.1, 300, .inl u_this_text))]) (E := xE0) (Qc := fun A => (va_Qi (fun (r : Int32) (_ : Unit) => r = rv.1) (fun _ => xPost D T [((x 0), .inr (7, o7 x rv.2)), ((x 1), .inl (T.2.1, 300, .inl u_this_text))] A) A)) (cc := cX7_due) (maxL := 3) (ret := (some .int)) (by decide) rfl (Nat.le_of_ble_eq_true rfl) ?_
  intro p e s m below meth c A ls hx hb hr hml hts hown hlocks hnm hP hK hD hS hA hE hl
  have hown : s.vm.findClass RX7 = some m.cls := hown
  have hl : lv_has ls 3 [(0, .ref (x 0)), (1, .int p1)] := hl
  unfold f_X7_due at hM
  refine lv_aload_n hx hb dX7_due_0 rfl (lv_at hl 0 rfl) ?_
  refine va_get (D := D) (ci := 7) (v := .int u_this.2.2.2.2.2.1) (C := RX7) (T := TX7) (N := 30) hx hb hts (fun w h => List.mem_cons_of_mem _ (List.mem_append_right _ h)) hown hK hP 0 rfl rfl 7 (by decide) (hts _ (List.mem_of_getElem? (i := 1) rfl)) (fun _ h9 => h9) rfl dX7_due_1 ?_
  refine lv_istore_n (lv' := [(2, .int u_this.2.2.2.2.2.1), (0, .ref (x 0)), (1, .int p1)]) hx hb dX7_due_4 rfl hl (by decide) rfl (fun ls hl => ?_)
  refine lv_aload_n hx hb dX7_due_5 rfl (lv_at hl 1 rfl) ?_
  refine va_get (D := D) (ci := 7) (v := .int u_this.2.2.2.2.2.2.1) (C := RX7) (T := TX7) (N := 30) hx hb hts (fun w h => List.mem_cons_of_mem _ (List.mem_append_right _ h)) hown hK hP 0 rfl rfl 8 (by decide) (hts _ (List.mem_of_getElem? (i := 2) rfl)) (fun _ h9 => h9) rfl dX7_due_6 ?_
  refine lv_bipush (v := (-9)) hx hb dX7_due_9 (by decide) ?_
  refine lv_icmp_ne (tgt := 33) hx hb dX7_due_11 (by decide) (fun c1 => ?_) (fun c1 => ?_)
  · have hM := xif c1 hM
    refine lv_iload_n hx hb dX7_due_33 rfl (lv_at hl 0 rfl) ?_
    obtain rfl := Option.some.inj hM
    exact xreti hx hb hr hlocks hP hK hD hS dX7_due_34 rfl
  · have hM := xit c1 hM
    refine lv_iload_n hx hb dX7_due_14 rfl (lv_at hl 2 rfl) ?_
    refine lv_if_eq (tgt := 25) hx hb dX7_due_15 (by decide) (fun c2 => ?_) (fun c2 => ?_)
    · have hM := xit c2 hM
      refine lv_aload_n hx hb dX7_due_25 rfl (lv_at hl 1 rfl) ?_
      refine lv_aload_n hx hb dX7_due_26 rfl (lv_at hl 1 rfl) ?_
      refine va_get (D := D) (ci := 7) (v := .int u_this.2.2.2.1) (C := RX7) (T := TX7) (N := 30) hx hb hts (fun w h => List.mem_cons_of_mem _ (List.mem_append_right _ h)) hown hK hP 0 rfl rfl 5 (by decide) (hts _ (List.mem_of_getElem? (i := 3) rfl)) (fun _ h9 => h9) rfl dX7_due_27 ?_
      refine va_put (D := D) (ci := 7) (v := .int u_this.2.2.2.1) (C := RX7) (T := TX7) (N := 30) hx hb hts (fun w h => List.mem_cons_of_mem _ (List.mem_append_right _ h)) tyX7 tyX7_ok nmX7 hown hK hP hD hS 0 rfl rfl 8 (by decide) (hts _ (List.mem_of_getElem? (i := 2) rfl)) (fun _ h9 => h9) rfl (tyX7_ok 8 (by decide)) rfl rfl (Nat.le_of_ble_eq_true rfl) dX7_due_30 (fun H locs hP hD hS => ?_)
      have hP : va_P D vwCl [((x 0), .inr (7, o7 x (u_this.1, u_this.2.1, u_this.2.2.1, u_this.2.2.2.1, u_this.2.2.2.2.1, u_this.2.2.2.2.2.1, u_this.2.2.2.1, u_this.2.2.2.2.2.2.2.1, u_this.2.2.2.2.2.2.2.2.1, u_this.2.2.2.2.2.2.2.2.2.1, u_this.2.2.2.2.2.2.2.2.2.2.1, u_this.2.2.2.2.2.2.2.2.2.2.2))), ((x 1), .inl (T.2.1, 300, .inl u_this_text))] H := hP
      have hD : va_D A [((x 0), .inr (7, o7 x (u_this.1, u_this.2.1, u_this.2.2.1, u_this.2.2.2.1, u_this.2.2.2.2.1, u_this.2.2.2.2.2.1, u_this.2.2.2.1, u_this.2.2.2.2.2.2.2.1, u_this.2.2.2.2.2.2.2.2.1, u_this.2.2.2.2.2.2.2.2.2.1, u_this.2.2.2.2.2.2.2.2.2.2.1, u_this.2.2.2.2.2.2.2.2.2.2.2))), ((x 1), .inl (T.2.1, 300, .inl u_this_text))] := hD
      refine lv_iload_n hx hb dX7_due_33 rfl (lv_at hl 0 rfl) ?_
      obtain rfl := Option.some.inj hM
      exact xreti hx hb hr hlocks hP hK hD hS dX7_due_34 rfl
    · have hM := xif c2 hM
      refine lv_aload_n hx hb dX7_due_18 rfl (lv_at hl 1 rfl) ?_
      obtain ⟨r3, er3, hM⟩ := xbd hM
      refine xaftv (W2 := [((x 0), .inr (7, o7 x r3)), ((x 1), .inl (T.2.1, 300, .inl u_this_text))]) (va_runV (As := []) (rest := []) ⟨hx, hb, hml, hown, hts⟩ (c_X7_next l D T x u_this u_this_text er3) (cwV 0 hts gX7_due_X7_next rfl rfl rfl (by decide +kernel) ⟨Nat.le_of_ble_eq_true rfl, Nat.le_of_ble_eq_true rfl⟩) (xpvv hP hD hK [0, 1] (by decide) rfl 0 7 rfl rfl (fun _ _ _ => trivial) (fun _ _ _ _ _ _ => trivial)) rfl rfl hl.1 rfl (lv_room (Nat.le_of_ble_eq_true rfl)) dX7_due_19 ⟨Nat.le_of_ble_eq_true rfl, Nat.le_of_ble_eq_true rfl⟩) hP hD hS hA [0, 1] rfl rfl rfl rfl (fun H locs hP hD hS => ?_)
      refine lv_goto (tgt := 33) hx hb dX7_due_22 (by decide) ?_
      refine lv_iload_n hx hb dX7_due_33 rfl (lv_at hl 0 rfl) ?_
      obtain rfl := Option.some.inj hM
      exact xreti hx hb hr hlocks hP hK hD hS dX7_due_34 rfl
def f_X7_lowOf (p1 : Int32) : Int32 :=
  if p1 = (0) then
   (1)
  else
   (if p1 = (1) then
     (1)
    else
     (if p1 = (2) then
       (1)
      else
       (if p1 = (4) then
         (1)
        else
         (if p1 = (6) then
           (1)
          else
           (0)))))
set_option maxHeartbeats 4000000 in
set_option maxRecDepth 100000 in
theorem c_X7_lowOf (l : Launch) (D : va_G) (T : xT)  {sz : Nat} (p1 : Int32) {rv : Int32} (hM : f_X7_lowOf p1 = rv) : Met l yX7_lowOf wsX7_lowOf ({ frames := 0, cells := 0, slots := 0, locals := 0 } : Room) (va_Pc [.int p1] (xPre D T [] sz xE0)) (va_Qi (fun (r : Int32) (_ : Unit) => r = rv) (fun _ => xPost D T [] (va_A [] sz)) (va_A [] sz)) 0 0 (va_A [] sz) := by
  refine xMet (av := [.int p1]) (Wd := []) (E := xE0) (Qc := fun A => (va_Qi (fun (r : Int32) (_ : Unit) => r = rv) (fun _ => xPost D T [] A) A)) (cc := cX7_lowOf) (maxL := 1) (ret := (some .int)) (by decide) rfl (Nat.le_of_ble_eq_true rfl) ?_
  intro p e s m below meth c A ls hx hb hr hml hts hown hlocks hnm hP hK hD hS hA hE hl
  have hown : s.vm.findClass RX7 = some m.cls := hown
  have hl : lv_has ls 1 [(0, .int p1)] := hl
  unfold f_X7_lowOf at hM
  refine lv_iload_n hx hb dX7_lowOf_0 rfl (lv_at hl 0 rfl) ?_
  refine lv_if_eq (tgt := 25) hx hb dX7_lowOf_1 (by decide) (fun c1 => ?_) (fun c1 => ?_)
  · have hM := xit c1 hM
    refine lv_iconst (v := 1) hx hb dX7_lowOf_25 (by decide) ?_
    refine lv_goto (tgt := 30) hx hb dX7_lowOf_26 (by decide) ?_
    obtain rfl := hM
    exact xreti hx hb hr hlocks hP hK hD hS dX7_lowOf_30 rfl
  · have hM := xif c1 hM
    refine lv_iload_n hx hb dX7_lowOf_4 rfl (lv_at hl 0 rfl) ?_
    refine lv_iconst (v := 1) hx hb dX7_lowOf_5 (by decide) ?_
    refine lv_icmp_eq (tgt := 25) hx hb dX7_lowOf_6 (by decide) (fun c2 => ?_) (fun c2 => ?_)
    · have hM := xit c2 hM
      refine lv_iconst (v := 1) hx hb dX7_lowOf_25 (by decide) ?_
      refine lv_goto (tgt := 30) hx hb dX7_lowOf_26 (by decide) ?_
      obtain rfl := hM
      exact xreti hx hb hr hlocks hP hK hD hS dX7_lowOf_30 rfl
    · have hM := xif c2 hM
      refine lv_iload_n hx hb dX7_lowOf_9 rfl (lv_at hl 0 rfl) ?_
      refine lv_iconst (v := 2) hx hb dX7_lowOf_10 (by decide) ?_
      refine lv_icmp_eq (tgt := 25) hx hb dX7_lowOf_11 (by decide) (fun c3 => ?_) (fun c3 => ?_)
      · have hM := xit c3 hM
        refine lv_iconst (v := 1) hx hb dX7_lowOf_25 (by decide) ?_
        refine lv_goto (tgt := 30) hx hb dX7_lowOf_26 (by decide) ?_
        obtain rfl := hM
        exact xreti hx hb hr hlocks hP hK hD hS dX7_lowOf_30 rfl
      · have hM := xif c3 hM
        refine lv_iload_n hx hb dX7_lowOf_14 rfl (lv_at hl 0 rfl) ?_
        refine lv_iconst (v := 4) hx hb dX7_lowOf_15 (by decide) ?_
        refine lv_icmp_eq (tgt := 25) hx hb dX7_lowOf_16 (by decide) (fun c4 => ?_) (fun c4 => ?_)
        · have hM := xit c4 hM
          refine lv_iconst (v := 1) hx hb dX7_lowOf_25 (by decide) ?_
          refine lv_goto (tgt := 30) hx hb dX7_lowOf_26 (by decide) ?_
          obtain rfl := hM
          exact xreti hx hb hr hlocks hP hK hD hS dX7_lowOf_30 rfl
        · have hM := xif c4 hM
          refine lv_iload_n hx hb dX7_lowOf_19 rfl (lv_at hl 0 rfl) ?_
          refine lv_bipush (v := 6) hx hb dX7_lowOf_20 (by decide) ?_
          refine lv_icmp_ne (tgt := 29) hx hb dX7_lowOf_22 (by decide) (fun c5 => ?_) (fun c5 => ?_)
          · have hM := xif c5 hM
            refine lv_iconst (v := 0) hx hb dX7_lowOf_29 (by decide) ?_
            obtain rfl := hM
            exact xreti hx hb hr hlocks hP hK hD hS dX7_lowOf_30 rfl
          · have hM := xit c5 hM
            refine lv_iconst (v := 1) hx hb dX7_lowOf_25 (by decide) ?_
            refine lv_goto (tgt := 30) hx hb dX7_lowOf_26 (by decide) ?_
            obtain rfl := hM
            exact xreti hx hb hr hlocks hP hK hD hS dX7_lowOf_30 rfl
def f_X7_highOf (p1 : Int32) : Int32 :=
  if p1 = (1) then
   (30)
  else
   (if p1 = (7) then
     (30)
    else
     (if p1 = (8) then
       (100)
      else
       (if p1 = (10) then
         (40)
        else
         (99))))
set_option maxHeartbeats 4000000 in
set_option maxRecDepth 100000 in
theorem c_X7_highOf (l : Launch) (D : va_G) (T : xT)  {sz : Nat} (p1 : Int32) {rv : Int32} (hM : f_X7_highOf p1 = rv) : Met l yX7_highOf wsX7_highOf ({ frames := 0, cells := 0, slots := 0, locals := 0 } : Room) (va_Pc [.int p1] (xPre D T [] sz xE0)) (va_Qi (fun (r : Int32) (_ : Unit) => r = rv) (fun _ => xPost D T [] (va_A [] sz)) (va_A [] sz)) 0 0 (va_A [] sz) := by
  refine xMet (av := [.int p1]) (Wd := []) (E := xE0) (Qc := fun A => (va_Qi (fun (r : Int32) (_ : Unit) => r = rv) (fun _ => xPost D T [] A) A)) (cc := cX7_highOf) (maxL := 1) (ret := (some .int)) (by decide) rfl (Nat.le_of_ble_eq_true rfl) ?_
  intro p e s m below meth c A ls hx hb hr hml hts hown hlocks hnm hP hK hD hS hA hE hl
  have hown : s.vm.findClass RX7 = some m.cls := hown
  have hl : lv_has ls 1 [(0, .int p1)] := hl
  unfold f_X7_highOf at hM
  refine lv_iload_n hx hb dX7_highOf_0 rfl (lv_at hl 0 rfl) ?_
  refine lv_iconst (v := 1) hx hb dX7_highOf_1 (by decide) ?_
  refine lv_icmp_eq (tgt := 11) hx hb dX7_highOf_2 (by decide) (fun c1 => ?_) (fun c1 => ?_)
  · have hM := xit c1 hM
    refine lv_bipush (v := 30) hx hb dX7_highOf_11 (by decide) ?_
    refine lv_goto (tgt := 40) hx hb dX7_highOf_13 (by decide) ?_
    obtain rfl := hM
    exact xreti hx hb hr hlocks hP hK hD hS dX7_highOf_40 rfl
  · have hM := xif c1 hM
    refine lv_iload_n hx hb dX7_highOf_5 rfl (lv_at hl 0 rfl) ?_
    refine lv_bipush (v := 7) hx hb dX7_highOf_6 (by decide) ?_
    refine lv_icmp_ne (tgt := 16) hx hb dX7_highOf_8 (by decide) (fun c2 => ?_) (fun c2 => ?_)
    · have hM := xif c2 hM
      refine lv_iload_n hx hb dX7_highOf_16 rfl (lv_at hl 0 rfl) ?_
      refine lv_bipush (v := 8) hx hb dX7_highOf_17 (by decide) ?_
      refine lv_icmp_ne (tgt := 27) hx hb dX7_highOf_19 (by decide) (fun c3 => ?_) (fun c3 => ?_)
      · have hM := xif c3 hM
        refine lv_iload_n hx hb dX7_highOf_27 rfl (lv_at hl 0 rfl) ?_
        refine lv_bipush (v := 10) hx hb dX7_highOf_28 (by decide) ?_
        refine lv_icmp_ne (tgt := 38) hx hb dX7_highOf_30 (by decide) (fun c4 => ?_) (fun c4 => ?_)
        · have hM := xif c4 hM
          refine lv_bipush (v := 99) hx hb dX7_highOf_38 (by decide) ?_
          obtain rfl := hM
          exact xreti hx hb hr hlocks hP hK hD hS dX7_highOf_40 rfl
        · have hM := xit c4 hM
          refine lv_bipush (v := 40) hx hb dX7_highOf_33 (by decide) ?_
          refine lv_goto (tgt := 40) hx hb dX7_highOf_35 (by decide) ?_
          obtain rfl := hM
          exact xreti hx hb hr hlocks hP hK hD hS dX7_highOf_40 rfl
      · have hM := xit c3 hM
        refine lv_bipush (v := 100) hx hb dX7_highOf_22 (by decide) ?_
        refine lv_goto (tgt := 40) hx hb dX7_highOf_24 (by decide) ?_
        obtain rfl := hM
        exact xreti hx hb hr hlocks hP hK hD hS dX7_highOf_40 rfl
    · have hM := xit c2 hM
      refine lv_bipush (v := 30) hx hb dX7_highOf_11 (by decide) ?_
      refine lv_goto (tgt := 40) hx hb dX7_highOf_13 (by decide) ?_
      obtain rfl := hM
      exact xreti hx hb hr hlocks hP hK hD hS dX7_highOf_40 rfl
def f_X7_manyOf (p1 : Int32) : Int32 :=
  if p1 = (2) then
   (3)
  else
   (if p1 = (5) then
     (1)
    else
     (if p1 = (8) then
       (1)
      else
       (2)))
set_option maxHeartbeats 4000000 in
set_option maxRecDepth 100000 in
theorem c_X7_manyOf (l : Launch) (D : va_G) (T : xT)  {sz : Nat} (p1 : Int32) {rv : Int32} (hM : f_X7_manyOf p1 = rv) : Met l yX7_manyOf wsX7_manyOf ({ frames := 0, cells := 0, slots := 0, locals := 0 } : Room) (va_Pc [.int p1] (xPre D T [] sz xE0)) (va_Qi (fun (r : Int32) (_ : Unit) => r = rv) (fun _ => xPost D T [] (va_A [] sz)) (va_A [] sz)) 0 0 (va_A [] sz) := by
  refine xMet (av := [.int p1]) (Wd := []) (E := xE0) (Qc := fun A => (va_Qi (fun (r : Int32) (_ : Unit) => r = rv) (fun _ => xPost D T [] A) A)) (cc := cX7_manyOf) (maxL := 1) (ret := (some .int)) (by decide) rfl (Nat.le_of_ble_eq_true rfl) ?_
  intro p e s m below meth c A ls hx hb hr hml hts hown hlocks hnm hP hK hD hS hA hE hl
  have hown : s.vm.findClass RX7 = some m.cls := hown
  have hl : lv_has ls 1 [(0, .int p1)] := hl
  unfold f_X7_manyOf at hM
  refine lv_iload_n hx hb dX7_manyOf_0 rfl (lv_at hl 0 rfl) ?_
  refine lv_iconst (v := 2) hx hb dX7_manyOf_1 (by decide) ?_
  refine lv_icmp_ne (tgt := 9) hx hb dX7_manyOf_2 (by decide) (fun c1 => ?_) (fun c1 => ?_)
  · have hM := xif c1 hM
    refine lv_iload_n hx hb dX7_manyOf_9 rfl (lv_at hl 0 rfl) ?_
    refine lv_iconst (v := 5) hx hb dX7_manyOf_10 (by decide) ?_
    refine lv_icmp_eq (tgt := 20) hx hb dX7_manyOf_11 (by decide) (fun c2 => ?_) (fun c2 => ?_)
    · have hM := xit c2 hM
      refine lv_iconst (v := 1) hx hb dX7_manyOf_20 (by decide) ?_
      refine lv_goto (tgt := 25) hx hb dX7_manyOf_21 (by decide) ?_
      obtain rfl := hM
      exact xreti hx hb hr hlocks hP hK hD hS dX7_manyOf_25 rfl
    · have hM := xif c2 hM
      refine lv_iload_n hx hb dX7_manyOf_14 rfl (lv_at hl 0 rfl) ?_
      refine lv_bipush (v := 8) hx hb dX7_manyOf_15 (by decide) ?_
      refine lv_icmp_ne (tgt := 24) hx hb dX7_manyOf_17 (by decide) (fun c3 => ?_) (fun c3 => ?_)
      · have hM := xif c3 hM
        refine lv_iconst (v := 2) hx hb dX7_manyOf_24 (by decide) ?_
        obtain rfl := hM
        exact xreti hx hb hr hlocks hP hK hD hS dX7_manyOf_25 rfl
      · have hM := xit c3 hM
        refine lv_iconst (v := 1) hx hb dX7_manyOf_20 (by decide) ?_
        refine lv_goto (tgt := 25) hx hb dX7_manyOf_21 (by decide) ?_
        obtain rfl := hM
        exact xreti hx hb hr hlocks hP hK hD hS dX7_manyOf_25 rfl
  · have hM := xit c1 hM
    refine lv_iconst (v := 3) hx hb dX7_manyOf_5 (by decide) ?_
    refine lv_goto (tgt := 25) hx hb dX7_manyOf_6 (by decide) ?_
    obtain rfl := hM
    exact xreti hx hb hr hlocks hP hK hD hS dX7_manyOf_25 rfl
def s_X7_pump_94 (N : Nat) (u_this_text : (Nat → Int32)) (v3 : Int32 × Int32 × K7 × (Nat → Int32)) (v11 : Int32) (v12 : Int32 × K7 × (Nat → Int32)) : Option ((Int32 × K7 × (Nat → Int32)) ⊕ (Int32 × K7 × (Nat → Int32))) :=
  if (v3.2.2.1.2.2.2.2.1 + v11) ≤ v12.1 then
   (some (.inr (v12.1, v12.2.1, v12.2.2)))
  else
   (((if v12.2.1.2.2.2.2.1 = (21) then
       ((some (f_X7_in v12.2.1.2.2.2.2.2.1 (f_X7_lowOf v12.1) (f_X7_highOf v12.1)) : Option (Int32)).bind fun r15 =>
        if r15 = (0) then
         (some (0))
        else
         (some (1)))
      else
       (some (0)) : Option (Int32))).bind fun v17 =>
    (f_X7_due N v12.2.1 u_this_text v17).bind fun r18 =>
    if r18.2.2.2.2.2.2.2.1 = (-9) then
     (if xin ((11) + v12.1) 22 = true then
      (some (.inl (v12.1 + 1, r18.2, (upd v12.2.2 (((11) + v12.1).toNatClampNeg) r18.1))))
      else none)
    else
     (some (.inl (v12.1 + 1, r18.2, v12.2.2))))
def s_X7_pump_25 (N : Nat) (u_this_text : (Nat → Int32)) (v3 : Int32 × Int32 × K7 × (Nat → Int32)) : Option ((Int32 × Int32 × K7 × (Nat → Int32)) ⊕ (Int32 × Int32 × K7 × (Nat → Int32))) :=
  if v3.2.2.1.2.2.2.2.2.2.1 = (-9) then
   (if v3.2.2.1.2.2.2.2.1 = (20) then
     (some (.inr (v3.1, v3.2.1, v3.2.2.1, v3.2.2.2)))
    else
     (((if (20) ≤ v3.2.2.1.2.2.2.2.1 then
         (some (0))
        else
         (if ((v3.2.1 >>> (v3.2.2.1.2.2.2.2.1 &&& 31)) &&& (1)) = (0) then
           (some (1))
          else
           (some (0))) : Option (Int32))).bind fun v8 =>
      (f_X7_due N v3.2.2.1 u_this_text v8).bind fun r9 =>
      ((if r9.2.2.2.2.2.2.2.1 = (-9) then
         (some (f_X7_manyOf v3.2.2.1.2.2.2.2.1))
        else
         (some (0)) : Option (Int32))).bind fun v11 =>
      (xlp (s_X7_pump_94 N u_this_text v3 v11) N (v3.2.2.1.2.2.2.2.1, r9.2, v3.2.2.2)).bind fun v21 =>
      ((if v21.2.1.2.2.2.2.1 = (22) then
         (some (1))
        else
         (some (0)) : Option (Int32))).bind fun v23 =>
      (f_X7_due N v21.2.1 u_this_text v23).bind fun r24 =>
      if (20) ≤ v3.2.2.1.2.2.2.2.1 then
       (some (.inl (v3.1 + 1, (v3.2.1 ||| (0)), r24.2, v21.2.2)))
      else
       (some (.inl (v3.1 + 1, (v3.2.1 ||| ((1) <<< (v3.2.2.1.2.2.2.2.1 &&& 31))), r24.2, v21.2.2)))))
  else
   (some (.inr (v3.1, v3.2.1, v3.2.2.1, v3.2.2.2)))
def s_X7_pump_230 (v28 : Int32 × (Nat → Int32)) : Option ((Int32 × (Nat → Int32)) ⊕ (Int32 × (Nat → Int32))) :=
  if (11) ≤ v28.1 then
   (some (.inr (v28.1, v28.2)))
  else
   (if xin ((11) + v28.1) 22 = true then
    (if xin v28.1 22 = true then
     (some (.inl (v28.1 + 1, (upd v28.2 v28.1.toNatClampNeg (v28.2 ((11) + v28.1).toNatClampNeg)))))
     else none)
    else none)
def f_X7_pump (N : Nat) (u_this : K7) (u_this_text : (Nat → Int32)) (u_this_told : (Nat → Int32)) (u_this_par : (Nat → Int32)) (u_this_try0 : (Nat → Int32)) (u_this_nows : (Nat → Int32)) (u_this_isKept : (Nat → Int32)) : Option (Int32 × K7 × (Nat → Int32) × (Nat → Int32) × (Nat → Int32) × (Nat → Int32) × (Nat → Int32)) :=
  (f_X7_tellPlain (u_this.1, u_this.2.1, 0, u_this.2.2.2.1, u_this.2.2.2.2.1, u_this.2.2.2.2.2.1, (-9), u_this.2.2.2.2.2.2.2.1, u_this.2.2.2.2.2.2.2.2.1, u_this.2.2.2.2.2.2.2.2.2.1, u_this.2.2.2.2.2.2.2.2.2.2.1, u_this.2.2.2.2.2.2.2.2.2.2.2) u_this_told (11)).bind fun r1 =>
  (f_X7_next N (u_this.1, u_this.2.1, 0, u_this.2.2.2.1, u_this.2.2.2.2.1, u_this.2.2.2.2.2.1, (-9), u_this.2.2.2.2.2.2.2.1, u_this.2.2.2.2.2.2.2.2.1, u_this.2.2.2.2.2.2.2.2.2.1, u_this.2.2.2.2.2.2.2.2.2.2.1, u_this.2.2.2.2.2.2.2.2.2.2.2) u_this_text).bind fun r2 =>
  (xlp (s_X7_pump_25 N u_this_text) N (0, 0, r2, r1)).bind fun v26 =>
  if v26.2.2.1.2.2.2.2.2.2.1 = (-9) then
   ((xlp s_X7_pump_230 N (0, v26.2.2.2)).bind fun v32 =>
    (f_X7_anew N v26.2.2.1 v32.2 u_this_par u_this_try0 u_this_nows).bind fun r33 =>
    some (v26.1, (v26.2.2.1.1, 0, v26.2.2.1.2.2.1, v26.2.2.1.2.2.2.1, v26.2.2.1.2.2.2.2.1, v26.2.2.1.2.2.2.2.2.1, v26.2.2.1.2.2.2.2.2.2.1, v26.2.2.1.2.2.2.2.2.2.2.1, v26.2.2.1.2.2.2.2.2.2.2.2.1, v26.2.2.1.2.2.2.2.2.2.2.2.2.1, v26.2.2.1.2.2.2.2.2.2.2.2.2.2.1, v26.2.2.1.2.2.2.2.2.2.2.2.2.2.2), v32.2, r33.2.1, r33.2.2.1, r33.2.2.2, (upd (upd u_this_isKept (0) (0)) (1) (0))))
  else
   (some (((-10) - v26.2.2.1.2.2.2.2.2.2.1), v26.2.2.1, v26.2.2.2, u_this_par, u_this_try0, u_this_nows, u_this_isKept))
set_option maxHeartbeats 4000000 in
set_option maxRecDepth 100000 in
theorem c_X7_pump (l : Launch) (D : va_G) (T : xT) (x : Nat → Nat) {sz : Nat} {N : Nat} (u_this : K7) (u_this_text : (Nat → Int32)) (u_this_told : (Nat → Int32)) (u_this_par : (Nat → Int32)) (u_this_try0 : (Nat → Int32)) (u_this_nows : (Nat → Int32)) (u_this_isKept : (Nat → Int32)) {rv : Int32 × K7 × (Nat → Int32) × (Nat → Int32) × (Nat → Int32) × (Nat → Int32) × (Nat → Int32)} (hM : f_X7_pump N u_this u_this_text u_this_told u_this_par u_this_try0 u_this_nows u_this_isKept = some rv) : Met l yX7_pump wsX7_pump ({ frames := 3, cells := 0, slots := 0, locals := 68 } : Room) (va_Pc [.ref (x 0)] (xPre D T [((x 0), .inr (7, o7 x u_this)), ((x 1), .inl (T.2.1, 300, .inl u_this_text)), ((x 2), .inl (T.1, 22, .inl u_this_told)), ((x 3), .inl (T.1, 11, .inl u_this_par)), ((x 4), .inl (T.1, 7, .inl u_this_try0)), ((x 5), .inl (T.1, 21, .inl u_this_nows)), ((x 6), .inl (T.2.2.1, 2, .inl u_this_isKept))] sz xE0)) (va_Qi (fun (r : Int32) (_ : Unit) => r = rv.1) (fun _ => xPost D T [((x 0), .inr (7, o7 x rv.2.1)), ((x 1), .inl (T.2.1, 300, .inl u_this_text)), ((x 2), .inl (T.1, 22, .inl rv.2.2.1)), ((x 3), .inl (T.1, 11, .inl rv.2.2.2.1)), ((x 4), .inl (T.1, 7, .inl rv.2.2.2.2.1)), ((x 5), .inl (T.1, 21, .inl rv.2.2.2.2.2.1)), ((x 6), .inl (T.2.2.1, 2, .inl rv.2.2.2.2.2.2))] (va_A [((x 0), .inr (7, o7 x u_this)), ((x 1), .inl (T.2.1, 300, .inl u_this_text)), ((x 2), .inl (T.1, 22, .inl u_this_told)), ((x 3), .inl (T.1, 11, .inl u_this_par)), ((x 4), .inl (T.1, 7, .inl u_this_try0)), ((x 5), .inl (T.1, 21, .inl u_this_nows)), ((x 6), .inl (T.2.2.1, 2, .inl u_this_isKept))] sz)) (va_A [((x 0), .inr (7, o7 x u_this)), ((x 1), .inl (T.2.1, 300, .inl u_this_text)), ((x 2), .inl (T.1, 22, .inl u_this_told)), ((x 3), .inl (T.1, 11, .inl u_this_par)), ((x 4), .inl (T.1, 7, .inl u_this_try0)), ((x 5), .inl (T.1, 21, .inl u_this_nows)), ((x 6), .inl (T.2.2.1, 2, .inl u_this_isKept))] sz)) 0 0 (va_A [((x 0), .inr (7, o7 x u_this)), ((x 1), .inl (T.2.1, 300, .inl u_this_text)), ((x 2), .inl (T.1, 22, .inl u_this_told)), ((x 3), .inl (T.1, 11, .inl u_this_par)), ((x 4), .inl (T.1, 7, .inl u_this_try0)), ((x 5), .inl (T.1, 21, .inl u_this_nows)), ((x 6), .inl (T.2.2.1, 2, .inl u_this_isKept))] sz) := by
  refine xMet (av := [.ref (x 0)]) (Wd := [((x 0), .inr (7, o7 x u_this)), ((x 1), .inl (T.2.1, 300, .inl u_this_text)), ((x 2), .inl (T.1, 22, .inl u_this_told)), ((x 3), .inl (T.1, 11, .inl u_this_par)), ((x 4), .inl (T.1, 7, .inl u_this_try0)), ((x 5), .inl (T.1, 21, .inl u_this_nows)), ((x 6), .inl (T.2.2.1, 2, .inl u_this_isKept))]) (E := xE0) (Qc := fun A => (va_Qi (fun (r : Int32) (_ : Unit) => r = rv.1) (fun _ => xPost D T [((x 0), .inr (7, o7 x rv.2.1)), ((x 1), .inl (T.2.1, 300, .inl u_this_text)), ((x 2), .inl (T.1, 22, .inl rv.2.2.1)), ((x 3), .inl (T.1, 11, .inl rv.2.2.2.1)), ((x 4), .inl (T.1, 7, .inl rv.2.2.2.2.1)), ((x 5), .inl (T.1, 21, .inl rv.2.2.2.2.2.1)), ((x 6), .inl (T.2.2.1, 2, .inl rv.2.2.2.2.2.2))] A) A)) (cc := cX7_pump) (maxL := 7) (ret := (some .int)) (by decide) rfl (Nat.le_of_ble_eq_true rfl) ?_
  intro p e s m below meth c A ls hx hb hr hml hts hown hlocks hnm hP hK hD hS hA hE hl
  have hown : s.vm.findClass RX7 = some m.cls := hown
  have hl : lv_has ls 7 [(0, .ref (x 0))] := hl
  unfold f_X7_pump at hM
  refine lv_aload_n hx hb dX7_pump_0 rfl (lv_at hl 0 rfl) ?_
  refine lv_iconst (v := 0) hx hb dX7_pump_1 (by decide) ?_
  refine va_put (D := D) (ci := 7) (v := .int (0)) (C := RX7) (T := TX7) (N := 30) hx hb hts (fun w h => List.mem_cons_of_mem _ (List.mem_append_right _ h)) tyX7 tyX7_ok nmX7 hown hK hP hD hS 0 rfl rfl 4 (by decide) (hts _ (List.mem_of_getElem? (i := 1) rfl)) (fun _ h9 => h9) rfl (tyX7_ok 4 (by decide)) rfl rfl (Nat.le_of_ble_eq_true rfl) dX7_pump_2 (fun H locs hP hD hS => ?_)
  have hP : va_P D vwCl [((x 0), .inr (7, o7 x (u_this.1, u_this.2.1, 0, u_this.2.2.2.1, u_this.2.2.2.2.1, u_this.2.2.2.2.2.1, u_this.2.2.2.2.2.2.1, u_this.2.2.2.2.2.2.2.1, u_this.2.2.2.2.2.2.2.2.1, u_this.2.2.2.2.2.2.2.2.2.1, u_this.2.2.2.2.2.2.2.2.2.2.1, u_this.2.2.2.2.2.2.2.2.2.2.2))), ((x 1), .inl (T.2.1, 300, .inl u_this_text)), ((x 2), .inl (T.1, 22, .inl u_this_told)), ((x 3), .inl (T.1, 11, .inl u_this_par)), ((x 4), .inl (T.1, 7, .inl u_this_try0)), ((x 5), .inl (T.1, 21, .inl u_this_nows)), ((x 6), .inl (T.2.2.1, 2, .inl u_this_isKept))] H := hP
  have hD : va_D A [((x 0), .inr (7, o7 x (u_this.1, u_this.2.1, 0, u_this.2.2.2.1, u_this.2.2.2.2.1, u_this.2.2.2.2.2.1, u_this.2.2.2.2.2.2.1, u_this.2.2.2.2.2.2.2.1, u_this.2.2.2.2.2.2.2.2.1, u_this.2.2.2.2.2.2.2.2.2.1, u_this.2.2.2.2.2.2.2.2.2.2.1, u_this.2.2.2.2.2.2.2.2.2.2.2))), ((x 1), .inl (T.2.1, 300, .inl u_this_text)), ((x 2), .inl (T.1, 22, .inl u_this_told)), ((x 3), .inl (T.1, 11, .inl u_this_par)), ((x 4), .inl (T.1, 7, .inl u_this_try0)), ((x 5), .inl (T.1, 21, .inl u_this_nows)), ((x 6), .inl (T.2.2.1, 2, .inl u_this_isKept))] := hD
  refine lv_aload_n hx hb dX7_pump_5 rfl (lv_at hl 0 rfl) ?_
  refine lv_bipush (v := (-9)) hx hb dX7_pump_6 (by decide) ?_
  refine va_put (D := D) (ci := 7) (v := .int (-9)) (C := RX7) (T := TX7) (N := 30) hx hb hts (fun w h => List.mem_cons_of_mem _ (List.mem_append_right _ h)) tyX7 tyX7_ok nmX7 hown hK hP hD hS 0 rfl rfl 8 (by decide) (hts _ (List.mem_of_getElem? (i := 2) rfl)) (fun _ h9 => h9) rfl (tyX7_ok 8 (by decide)) rfl rfl (Nat.le_of_ble_eq_true rfl) dX7_pump_8 (fun H locs hP hD hS => ?_)
  have hP : va_P D vwCl [((x 0), .inr (7, o7 x (u_this.1, u_this.2.1, 0, u_this.2.2.2.1, u_this.2.2.2.2.1, u_this.2.2.2.2.2.1, (-9), u_this.2.2.2.2.2.2.2.1, u_this.2.2.2.2.2.2.2.2.1, u_this.2.2.2.2.2.2.2.2.2.1, u_this.2.2.2.2.2.2.2.2.2.2.1, u_this.2.2.2.2.2.2.2.2.2.2.2))), ((x 1), .inl (T.2.1, 300, .inl u_this_text)), ((x 2), .inl (T.1, 22, .inl u_this_told)), ((x 3), .inl (T.1, 11, .inl u_this_par)), ((x 4), .inl (T.1, 7, .inl u_this_try0)), ((x 5), .inl (T.1, 21, .inl u_this_nows)), ((x 6), .inl (T.2.2.1, 2, .inl u_this_isKept))] H := hP
  have hD : va_D A [((x 0), .inr (7, o7 x (u_this.1, u_this.2.1, 0, u_this.2.2.2.1, u_this.2.2.2.2.1, u_this.2.2.2.2.2.1, (-9), u_this.2.2.2.2.2.2.2.1, u_this.2.2.2.2.2.2.2.2.1, u_this.2.2.2.2.2.2.2.2.2.1, u_this.2.2.2.2.2.2.2.2.2.2.1, u_this.2.2.2.2.2.2.2.2.2.2.2))), ((x 1), .inl (T.2.1, 300, .inl u_this_text)), ((x 2), .inl (T.1, 22, .inl u_this_told)), ((x 3), .inl (T.1, 11, .inl u_this_par)), ((x 4), .inl (T.1, 7, .inl u_this_try0)), ((x 5), .inl (T.1, 21, .inl u_this_nows)), ((x 6), .inl (T.2.2.1, 2, .inl u_this_isKept))] := hD
  refine lv_aload_n hx hb dX7_pump_11 rfl (lv_at hl 0 rfl) ?_
  refine lv_bipush (v := 11) hx hb dX7_pump_12 (by decide) ?_
  obtain ⟨r1, er1, hM⟩ := xbd hM
  refine xaftv (W2 := [((x 0), .inr (7, o7 x (u_this.1, u_this.2.1, 0, u_this.2.2.2.1, u_this.2.2.2.2.1, u_this.2.2.2.2.2.1, (-9), u_this.2.2.2.2.2.2.2.1, u_this.2.2.2.2.2.2.2.2.1, u_this.2.2.2.2.2.2.2.2.2.1, u_this.2.2.2.2.2.2.2.2.2.2.1, u_this.2.2.2.2.2.2.2.2.2.2.2))), ((x 1), .inl (T.2.1, 300, .inl u_this_text)), ((x 2), .inl (T.1, 22, .inl r1)), ((x 3), .inl (T.1, 11, .inl u_this_par)), ((x 4), .inl (T.1, 7, .inl u_this_try0)), ((x 5), .inl (T.1, 21, .inl u_this_nows)), ((x 6), .inl (T.2.2.1, 2, .inl u_this_isKept))]) (va_runV (As := [.int (11)]) (rest := []) ⟨hx, hb, hml, hown, hts⟩ (c_X7_tellPlain l D T x (u_this.1, u_this.2.1, 0, u_this.2.2.2.1, u_this.2.2.2.2.1, u_this.2.2.2.2.2.1, (-9), u_this.2.2.2.2.2.2.2.1, u_this.2.2.2.2.2.2.2.2.1, u_this.2.2.2.2.2.2.2.2.2.1, u_this.2.2.2.2.2.2.2.2.2.2.1, u_this.2.2.2.2.2.2.2.2.2.2.2) u_this_told (11) er1) (cwV 1 hts gX7_pump_X7_tellPlain rfl rfl rfl (by decide +kernel) ⟨Nat.le_of_ble_eq_true rfl, Nat.le_of_ble_eq_true rfl⟩) (xpvv hP hD hK [0, 2] (by decide) rfl 0 7 rfl rfl (fun _ _ _ => trivial) (fun _ _ _ _ _ _ => trivial)) rfl rfl hl.1 rfl (lv_room (Nat.le_of_ble_eq_true rfl)) dX7_pump_14 ⟨Nat.le_of_ble_eq_true rfl, Nat.le_of_ble_eq_true rfl⟩) hP hD hS hA [0, 2] rfl rfl rfl rfl (fun H locs hP hD hS => ?_)
  refine lv_iconst (v := 0) hx hb dX7_pump_17 (by decide) ?_
  refine lv_istore_n (lv' := [(1, .int (0)), (0, .ref (x 0))]) hx hb dX7_pump_18 rfl hl (by decide) rfl (fun ls hl => ?_)
  refine lv_iconst (v := 0) hx hb dX7_pump_19 (by decide) ?_
  refine lv_istore_n (lv' := [(2, .int (0)), (1, .int (0)), (0, .ref (x 0))]) hx hb dX7_pump_20 rfl hl (by decide) rfl (fun ls hl => ?_)
  refine lv_aload_n hx hb dX7_pump_21 rfl (lv_at hl 2 rfl) ?_
  obtain ⟨r2, er2, hM⟩ := xbd hM
  refine xaftv (W2 := [((x 0), .inr (7, o7 x r2)), ((x 1), .inl (T.2.1, 300, .inl u_this_text)), ((x 2), .inl (T.1, 22, .inl r1)), ((x 3), .inl (T.1, 11, .inl u_this_par)), ((x 4), .inl (T.1, 7, .inl u_this_try0)), ((x 5), .inl (T.1, 21, .inl u_this_nows)), ((x 6), .inl (T.2.2.1, 2, .inl u_this_isKept))]) (va_runV (As := []) (rest := []) ⟨hx, hb, hml, hown, hts⟩ (c_X7_next l D T x (u_this.1, u_this.2.1, 0, u_this.2.2.2.1, u_this.2.2.2.2.1, u_this.2.2.2.2.2.1, (-9), u_this.2.2.2.2.2.2.2.1, u_this.2.2.2.2.2.2.2.2.1, u_this.2.2.2.2.2.2.2.2.2.1, u_this.2.2.2.2.2.2.2.2.2.2.1, u_this.2.2.2.2.2.2.2.2.2.2.2) u_this_text er2) (cwV 0 hts gX7_pump_X7_next rfl rfl rfl (by decide +kernel) ⟨Nat.le_of_ble_eq_true rfl, Nat.le_of_ble_eq_true rfl⟩) (xpvv hP hD hK [0, 1] (by decide) rfl 0 7 rfl rfl (fun _ _ _ => trivial) (fun _ _ _ _ _ _ => trivial)) rfl rfl hl.1 rfl (lv_room (Nat.le_of_ble_eq_true rfl)) dX7_pump_22 ⟨Nat.le_of_ble_eq_true rfl, Nat.le_of_ble_eq_true rfl⟩) hP hD hS hA [0, 1] rfl rfl rfl rfl (fun H locs hP hD hS => ?_)
  obtain ⟨v26, hM, hNv26⟩ := xbd hM
  have hQv26 := hM
  have Kv26 : ∀ (H : Heap) (locs : List Loc) (ls : Array Slot), va_P D vwCl [((x 0), .inr (7, o7 x v26.2.2.1)), ((x 1), .inl (T.2.1, 300, .inl u_this_text)), ((x 2), .inl (T.1, 22, .inl v26.2.2.2)), ((x 3), .inl (T.1, 11, .inl u_this_par)), ((x 4), .inl (T.1, 7, .inl u_this_try0)), ((x 5), .inl (T.1, 21, .inl u_this_nows)), ((x 6), .inl (T.2.2.1, 2, .inl u_this_isKept))] H → va_D A [((x 0), .inr (7, o7 x v26.2.2.1)), ((x 1), .inl (T.2.1, 300, .inl u_this_text)), ((x 2), .inl (T.1, 22, .inl v26.2.2.2)), ((x 3), .inl (T.1, 11, .inl u_this_par)), ((x 4), .inl (T.1, 7, .inl u_this_try0)), ((x 5), .inl (T.1, 21, .inl u_this_nows)), ((x 6), .inl (T.2.2.1, 2, .inl u_this_isKept))] → va_S A s.heap H locs → lv_has ls 7 [(0, .ref (x 0)), (1, .int v26.1)] → W p l e ({ frames := 3, cells := 0, slots := 0, locals := 68 } : Room) s m ([.ref (x 0)] : List Value).toArray below meth c H locs 0 0 (MQ below (va_Qi (fun (r : Int32) (_ : Unit) => r = rv.1) (fun _ => xPost D T [((x 0), .inr (7, o7 x rv.2.1)), ((x 1), .inl (T.2.1, 300, .inl u_this_text)), ((x 2), .inl (T.1, 22, .inl rv.2.2.1)), ((x 3), .inl (T.1, 11, .inl rv.2.2.2.1)), ((x 4), .inl (T.1, 7, .inl rv.2.2.2.2.1)), ((x 5), .inl (T.1, 21, .inl rv.2.2.2.2.2.1)), ((x 6), .inl (T.2.2.1, 2, .inl rv.2.2.2.2.2.2))] A) A) ([.ref (x 0)] : List Value).toArray s 0 0 A) (F0 m 211 ls []) := by
    intro H locs ls hP hD hS hl
    have hM := hNv26
    refine lv_aload_n hx hb dX7_pump_211 rfl (lv_at hl 0 rfl) ?_
    refine va_get (D := D) (ci := 7) (v := .int v26.2.2.1.2.2.2.2.2.2.1) (C := RX7) (T := TX7) (N := 30) hx hb hts (fun w h => List.mem_cons_of_mem _ (List.mem_append_right _ h)) hown hK hP 0 rfl rfl 8 (by decide) (hts _ (List.mem_of_getElem? (i := 2) rfl)) (fun _ h9 => h9) rfl dX7_pump_212 ?_
    refine lv_bipush (v := (-9)) hx hb dX7_pump_215 (by decide) ?_
    refine lv_icmp_eq (tgt := 228) hx hb dX7_pump_217 (by decide) (fun c27 => ?_) (fun c27 => ?_)
    · have hM := xit c27 hM
      refine lv_iconst (v := 0) hx hb dX7_pump_228 (by decide) ?_
      refine lv_istore_n (lv' := [(3, .int (0)), (0, .ref (x 0)), (1, .int v26.1)]) hx hb dX7_pump_229 rfl hl (by decide) rfl (fun ls hl => ?_)
      obtain ⟨v32, hM, hNv32⟩ := xbd hM
      have hQv32 := hM
      have Kv32 : ∀ (H : Heap) (locs : List Loc) (ls : Array Slot), va_P D vwCl [((x 0), .inr (7, o7 x v26.2.2.1)), ((x 1), .inl (T.2.1, 300, .inl u_this_text)), ((x 2), .inl (T.1, 22, .inl v32.2)), ((x 3), .inl (T.1, 11, .inl u_this_par)), ((x 4), .inl (T.1, 7, .inl u_this_try0)), ((x 5), .inl (T.1, 21, .inl u_this_nows)), ((x 6), .inl (T.2.2.1, 2, .inl u_this_isKept))] H → va_D A [((x 0), .inr (7, o7 x v26.2.2.1)), ((x 1), .inl (T.2.1, 300, .inl u_this_text)), ((x 2), .inl (T.1, 22, .inl v32.2)), ((x 3), .inl (T.1, 11, .inl u_this_par)), ((x 4), .inl (T.1, 7, .inl u_this_try0)), ((x 5), .inl (T.1, 21, .inl u_this_nows)), ((x 6), .inl (T.2.2.1, 2, .inl u_this_isKept))] → va_S A s.heap H locs → lv_has ls 7 [(0, .ref (x 0)), (1, .int v26.1)] → W p l e ({ frames := 3, cells := 0, slots := 0, locals := 68 } : Room) s m ([.ref (x 0)] : List Value).toArray below meth c H locs 0 0 (MQ below (va_Qi (fun (r : Int32) (_ : Unit) => r = rv.1) (fun _ => xPost D T [((x 0), .inr (7, o7 x rv.2.1)), ((x 1), .inl (T.2.1, 300, .inl u_this_text)), ((x 2), .inl (T.1, 22, .inl rv.2.2.1)), ((x 3), .inl (T.1, 11, .inl rv.2.2.2.1)), ((x 4), .inl (T.1, 7, .inl rv.2.2.2.2.1)), ((x 5), .inl (T.1, 21, .inl rv.2.2.2.2.2.1)), ((x 6), .inl (T.2.2.1, 2, .inl rv.2.2.2.2.2.2))] A) A) ([.ref (x 0)] : List Value).toArray s 0 0 A) (F0 m 257 ls []) := by
        intro H locs ls hP hD hS hl
        have hM := hNv32
        refine lv_aload_n hx hb dX7_pump_257 rfl (lv_at hl 0 rfl) ?_
        obtain ⟨r33, er33, hM⟩ := xbd hM
        refine xafti (rv := r33.1) (W2 := [((x 0), .inr (7, o7 x v26.2.2.1)), ((x 1), .inl (T.2.1, 300, .inl u_this_text)), ((x 2), .inl (T.1, 22, .inl v32.2)), ((x 3), .inl (T.1, 11, .inl r33.2.1)), ((x 4), .inl (T.1, 7, .inl r33.2.2.1)), ((x 5), .inl (T.1, 21, .inl r33.2.2.2)), ((x 6), .inl (T.2.2.1, 2, .inl u_this_isKept))]) (va_runV (As := []) (rest := []) ⟨hx, hb, hml, hown, hts⟩ (c_X7_anew l D T x v26.2.2.1 v32.2 u_this_par u_this_try0 u_this_nows er33) (cwV 0 hts gX7_pump_X7_anew rfl rfl rfl (by decide +kernel) ⟨Nat.le_of_ble_eq_true rfl, Nat.le_of_ble_eq_true rfl⟩) (xpvv hP hD hK [0, 2, 3, 4, 5] (by decide) rfl 0 7 rfl rfl (fun _ _ _ => trivial) (fun _ _ _ _ _ _ => trivial)) rfl rfl hl.1 rfl (lv_room (Nat.le_of_ble_eq_true rfl)) dX7_pump_258 ⟨Nat.le_of_ble_eq_true rfl, Nat.le_of_ble_eq_true rfl⟩) hP hD hS hA [0, 2, 3, 4, 5] rfl rfl rfl rfl (fun H locs hP hD hS => ?_)
        refine lv_pop hx hb dX7_pump_261 rfl ?_
        refine lv_aload_n hx hb dX7_pump_262 rfl (lv_at hl 0 rfl) ?_
        refine va_get (D := D) (ci := 7) (v := .ref (x 6)) (C := RX7) (T := TX7) (N := 30) hx hb hts (fun w h => List.mem_cons_of_mem _ (List.mem_append_right _ h)) hown hK hP 0 rfl rfl 12 (by decide) (hts _ (List.mem_of_getElem? (i := 6) rfl)) (fun _ h9 => h9) rfl dX7_pump_263 ?_
        refine lv_iconst (v := 0) hx hb dX7_pump_266 (by decide) ?_
        refine lv_iconst (v := 0) hx hb dX7_pump_267 (by decide) ?_
        refine xzst hx hb hK hP hD hS 6 2 rfl rfl (xin_vp (by decide)) (show (0 : Int32).toNatClampNeg = 0 by decide) (y := 0) (by decide) dX7_pump_268 (fun H locs hP hD hS => ?_)
        have hP : va_P D vwCl [((x 0), .inr (7, o7 x v26.2.2.1)), ((x 1), .inl (T.2.1, 300, .inl u_this_text)), ((x 2), .inl (T.1, 22, .inl v32.2)), ((x 3), .inl (T.1, 11, .inl r33.2.1)), ((x 4), .inl (T.1, 7, .inl r33.2.2.1)), ((x 5), .inl (T.1, 21, .inl r33.2.2.2)), ((x 6), .inl (T.2.2.1, 2, .inl (upd u_this_isKept (0) (0))))] H := hP
        have hD : va_D A [((x 0), .inr (7, o7 x v26.2.2.1)), ((x 1), .inl (T.2.1, 300, .inl u_this_text)), ((x 2), .inl (T.1, 22, .inl v32.2)), ((x 3), .inl (T.1, 11, .inl r33.2.1)), ((x 4), .inl (T.1, 7, .inl r33.2.2.1)), ((x 5), .inl (T.1, 21, .inl r33.2.2.2)), ((x 6), .inl (T.2.2.1, 2, .inl (upd u_this_isKept (0) (0))))] := hD
        refine lv_aload_n hx hb dX7_pump_269 rfl (lv_at hl 0 rfl) ?_
        refine va_get (D := D) (ci := 7) (v := .ref (x 6)) (C := RX7) (T := TX7) (N := 30) hx hb hts (fun w h => List.mem_cons_of_mem _ (List.mem_append_right _ h)) hown hK hP 0 rfl rfl 12 (by decide) (hts _ (List.mem_of_getElem? (i := 6) rfl)) (fun _ h9 => h9) rfl dX7_pump_270 ?_
        refine lv_iconst (v := 1) hx hb dX7_pump_273 (by decide) ?_
        refine lv_iconst (v := 0) hx hb dX7_pump_274 (by decide) ?_
        refine xzst hx hb hK hP hD hS 6 2 rfl rfl (xin_vp (by decide)) (show (1 : Int32).toNatClampNeg = 1 by decide) (y := 0) (by decide) dX7_pump_275 (fun H locs hP hD hS => ?_)
        have hP : va_P D vwCl [((x 0), .inr (7, o7 x v26.2.2.1)), ((x 1), .inl (T.2.1, 300, .inl u_this_text)), ((x 2), .inl (T.1, 22, .inl v32.2)), ((x 3), .inl (T.1, 11, .inl r33.2.1)), ((x 4), .inl (T.1, 7, .inl r33.2.2.1)), ((x 5), .inl (T.1, 21, .inl r33.2.2.2)), ((x 6), .inl (T.2.2.1, 2, .inl (upd (upd u_this_isKept (0) (0)) (1) (0))))] H := hP
        have hD : va_D A [((x 0), .inr (7, o7 x v26.2.2.1)), ((x 1), .inl (T.2.1, 300, .inl u_this_text)), ((x 2), .inl (T.1, 22, .inl v32.2)), ((x 3), .inl (T.1, 11, .inl r33.2.1)), ((x 4), .inl (T.1, 7, .inl r33.2.2.1)), ((x 5), .inl (T.1, 21, .inl r33.2.2.2)), ((x 6), .inl (T.2.2.1, 2, .inl (upd (upd u_this_isKept (0) (0)) (1) (0))))] := hD
        refine lv_aload_n hx hb dX7_pump_276 rfl (lv_at hl 0 rfl) ?_
        refine lv_iconst (v := 0) hx hb dX7_pump_277 (by decide) ?_
        refine va_put (D := D) (ci := 7) (v := .int (0)) (C := RX7) (T := TX7) (N := 30) hx hb hts (fun w h => List.mem_cons_of_mem _ (List.mem_append_right _ h)) tyX7 tyX7_ok nmX7 hown hK hP hD hS 0 rfl rfl 2 (by decide) (hts _ (List.mem_of_getElem? (i := 7) rfl)) (fun _ h9 => h9) rfl (tyX7_ok 2 (by decide)) rfl rfl (Nat.le_of_ble_eq_true rfl) dX7_pump_278 (fun H locs hP hD hS => ?_)
        have hP : va_P D vwCl [((x 0), .inr (7, o7 x (v26.2.2.1.1, 0, v26.2.2.1.2.2.1, v26.2.2.1.2.2.2.1, v26.2.2.1.2.2.2.2.1, v26.2.2.1.2.2.2.2.2.1, v26.2.2.1.2.2.2.2.2.2.1, v26.2.2.1.2.2.2.2.2.2.2.1, v26.2.2.1.2.2.2.2.2.2.2.2.1, v26.2.2.1.2.2.2.2.2.2.2.2.2.1, v26.2.2.1.2.2.2.2.2.2.2.2.2.2.1, v26.2.2.1.2.2.2.2.2.2.2.2.2.2.2))), ((x 1), .inl (T.2.1, 300, .inl u_this_text)), ((x 2), .inl (T.1, 22, .inl v32.2)), ((x 3), .inl (T.1, 11, .inl r33.2.1)), ((x 4), .inl (T.1, 7, .inl r33.2.2.1)), ((x 5), .inl (T.1, 21, .inl r33.2.2.2)), ((x 6), .inl (T.2.2.1, 2, .inl (upd (upd u_this_isKept (0) (0)) (1) (0))))] H := hP
        have hD : va_D A [((x 0), .inr (7, o7 x (v26.2.2.1.1, 0, v26.2.2.1.2.2.1, v26.2.2.1.2.2.2.1, v26.2.2.1.2.2.2.2.1, v26.2.2.1.2.2.2.2.2.1, v26.2.2.1.2.2.2.2.2.2.1, v26.2.2.1.2.2.2.2.2.2.2.1, v26.2.2.1.2.2.2.2.2.2.2.2.1, v26.2.2.1.2.2.2.2.2.2.2.2.2.1, v26.2.2.1.2.2.2.2.2.2.2.2.2.2.1, v26.2.2.1.2.2.2.2.2.2.2.2.2.2.2))), ((x 1), .inl (T.2.1, 300, .inl u_this_text)), ((x 2), .inl (T.1, 22, .inl v32.2)), ((x 3), .inl (T.1, 11, .inl r33.2.1)), ((x 4), .inl (T.1, 7, .inl r33.2.2.1)), ((x 5), .inl (T.1, 21, .inl r33.2.2.2)), ((x 6), .inl (T.2.2.1, 2, .inl (upd (upd u_this_isKept (0) (0)) (1) (0))))] := hD
        refine lv_iload_n hx hb dX7_pump_281 rfl (lv_at hl 1 rfl) ?_
        obtain rfl := Option.some.inj hM
        exact xreti hx hb hr hlocks hP hK hD hS dX7_pump_282 rfl
      have Lv28 : ∀ (n : Nat) (v28 : Int32 × (Nat → Int32)), xlp s_X7_pump_230 n v28 = some v32 → ∀ (H : Heap) (locs : List Loc) (ls : Array Slot), va_P D vwCl [((x 0), .inr (7, o7 x v26.2.2.1)), ((x 1), .inl (T.2.1, 300, .inl u_this_text)), ((x 2), .inl (T.1, 22, .inl v28.2)), ((x 3), .inl (T.1, 11, .inl u_this_par)), ((x 4), .inl (T.1, 7, .inl u_this_try0)), ((x 5), .inl (T.1, 21, .inl u_this_nows)), ((x 6), .inl (T.2.2.1, 2, .inl u_this_isKept))] H → va_D A [((x 0), .inr (7, o7 x v26.2.2.1)), ((x 1), .inl (T.2.1, 300, .inl u_this_text)), ((x 2), .inl (T.1, 22, .inl v28.2)), ((x 3), .inl (T.1, 11, .inl u_this_par)), ((x 4), .inl (T.1, 7, .inl u_this_try0)), ((x 5), .inl (T.1, 21, .inl u_this_nows)), ((x 6), .inl (T.2.2.1, 2, .inl u_this_isKept))] → va_S A s.heap H locs → lv_has ls 7 [(0, .ref (x 0)), (1, .int v26.1), (3, .int v28.1)] → W p l e ({ frames := 3, cells := 0, slots := 0, locals := 68 } : Room) s m ([.ref (x 0)] : List Value).toArray below meth c H locs 0 0 (MQ below (va_Qi (fun (r : Int32) (_ : Unit) => r = rv.1) (fun _ => xPost D T [((x 0), .inr (7, o7 x rv.2.1)), ((x 1), .inl (T.2.1, 300, .inl u_this_text)), ((x 2), .inl (T.1, 22, .inl rv.2.2.1)), ((x 3), .inl (T.1, 11, .inl rv.2.2.2.1)), ((x 4), .inl (T.1, 7, .inl rv.2.2.2.2.1)), ((x 5), .inl (T.1, 21, .inl rv.2.2.2.2.2.1)), ((x 6), .inl (T.2.2.1, 2, .inl rv.2.2.2.2.2.2))] A) A) ([.ref (x 0)] : List Value).toArray s 0 0 A) (F0 m 230 ls []) := by
        intro n
        induction n with
        | zero => exact fun _ h => (xlp_0 h).elim
        | succ n ih =>
          intro v28 hM H locs ls hP hD hS hl
          obtain ⟨z, hM, hz1, hz2⟩ := xlp_s hM
          unfold s_X7_pump_230 at hM
          refine lv_iload_n hx hb dX7_pump_230 rfl (lv_at hl 2 rfl) ?_
          refine lv_bipush (v := 11) hx hb dX7_pump_231 (by decide) ?_
          refine lv_icmp_ge (tgt := 257) hx hb dX7_pump_233 (by decide) (fun c29 => ?_) (fun c29 => ?_)
          · have hM := xit c29 hM
            obtain rfl := hz2 _ (Option.some.inj hM).symm
            exact Kv32 _ _ _ hP hD hS (lv_sub hl [0, 1] rfl)
          · have hM := xif c29 hM
            refine lv_aload_n hx hb dX7_pump_236 rfl (lv_at hl 0 rfl) ?_
            refine va_get (D := D) (ci := 7) (v := .ref (x 2)) (C := RX7) (T := TX7) (N := 30) hx hb hts (fun w h => List.mem_cons_of_mem _ (List.mem_append_right _ h)) hown hK hP 0 rfl rfl 3 (by decide) (hts _ (List.mem_of_getElem? (i := 5) rfl)) (fun _ h9 => h9) rfl dX7_pump_237 ?_
            refine lv_iload_n hx hb dX7_pump_240 rfl (lv_at hl 2 rfl) ?_
            refine lv_aload_n hx hb dX7_pump_241 rfl (lv_at hl 0 rfl) ?_
            refine va_get (D := D) (ci := 7) (v := .ref (x 2)) (C := RX7) (T := TX7) (N := 30) hx hb hts (fun w h => List.mem_cons_of_mem _ (List.mem_append_right _ h)) hown hK hP 0 rfl rfl 3 (by decide) (hts _ (List.mem_of_getElem? (i := 5) rfl)) (fun _ h9 => h9) rfl dX7_pump_242 ?_
            refine lv_bipush (v := 11) hx hb dX7_pump_245 (by decide) ?_
            refine lv_iload_n hx hb dX7_pump_247 rfl (lv_at hl 2 rfl) ?_
            refine lv_iadd hx hb dX7_pump_248 ?_
            obtain ⟨g30, hM⟩ := xck hM
            refine xald (v := (v28.2 ((11) + v28.1).toNatClampNeg)) hx hb hK hP 2 0 rfl rfl g30 rfl dX7_pump_249 ?_
            obtain ⟨g31, hM⟩ := xck hM
            refine xast hx hb hK hP hD hS 2 0 rfl rfl g31 rfl dX7_pump_250 (fun H locs hP hD hS => ?_)
            have hP : va_P D vwCl [((x 0), .inr (7, o7 x v26.2.2.1)), ((x 1), .inl (T.2.1, 300, .inl u_this_text)), ((x 2), .inl (T.1, 22, .inl (upd v28.2 v28.1.toNatClampNeg (v28.2 ((11) + v28.1).toNatClampNeg)))), ((x 3), .inl (T.1, 11, .inl u_this_par)), ((x 4), .inl (T.1, 7, .inl u_this_try0)), ((x 5), .inl (T.1, 21, .inl u_this_nows)), ((x 6), .inl (T.2.2.1, 2, .inl u_this_isKept))] H := hP
            have hD : va_D A [((x 0), .inr (7, o7 x v26.2.2.1)), ((x 1), .inl (T.2.1, 300, .inl u_this_text)), ((x 2), .inl (T.1, 22, .inl (upd v28.2 v28.1.toNatClampNeg (v28.2 ((11) + v28.1).toNatClampNeg)))), ((x 3), .inl (T.1, 11, .inl u_this_par)), ((x 4), .inl (T.1, 7, .inl u_this_try0)), ((x 5), .inl (T.1, 21, .inl u_this_nows)), ((x 6), .inl (T.2.2.1, 2, .inl u_this_isKept))] := hD
            refine lv_iinc (v := v28.1 + 1) (lv' := [(3, .int (v28.1 + 1)), (0, .ref (x 0)), (1, .int v26.1)]) hx hb dX7_pump_251 hl (k := 2) rfl rfl (by decide) rfl (fun ls hl => ?_)
            refine lv_goto (tgt := 230) hx hb dX7_pump_254 (by decide) ?_
            exact ih _ (hz1 _ (Option.some.inj hM).symm) _ _ _ hP hD hS (lv_sub hl [1, 2, 0] rfl)
      exact Lv28 _ _ hM _ _ _ hP hD hS (lv_sub hl [1, 2, 0] rfl)
    · have hM := xif c27 hM
      refine lv_bipush (v := (-10)) hx hb dX7_pump_220 (by decide) ?_
      refine lv_aload_n hx hb dX7_pump_222 rfl (lv_at hl 0 rfl) ?_
      refine va_get (D := D) (ci := 7) (v := .int v26.2.2.1.2.2.2.2.2.2.1) (C := RX7) (T := TX7) (N := 30) hx hb hts (fun w h => List.mem_cons_of_mem _ (List.mem_append_right _ h)) hown hK hP 0 rfl rfl 8 (by decide) (hts _ (List.mem_of_getElem? (i := 2) rfl)) (fun _ h9 => h9) rfl dX7_pump_223 ?_
      refine lv_isub hx hb dX7_pump_226 ?_
      obtain rfl := Option.some.inj hM
      exact xreti hx hb hr hlocks hP hK hD hS dX7_pump_227 rfl
  have Lv3 : ∀ (n : Nat) (v3 : Int32 × Int32 × K7 × (Nat → Int32)), xlp (s_X7_pump_25 N u_this_text) n v3 = some v26 → ∀ (H : Heap) (locs : List Loc) (ls : Array Slot), va_P D vwCl [((x 0), .inr (7, o7 x v3.2.2.1)), ((x 1), .inl (T.2.1, 300, .inl u_this_text)), ((x 2), .inl (T.1, 22, .inl v3.2.2.2)), ((x 3), .inl (T.1, 11, .inl u_this_par)), ((x 4), .inl (T.1, 7, .inl u_this_try0)), ((x 5), .inl (T.1, 21, .inl u_this_nows)), ((x 6), .inl (T.2.2.1, 2, .inl u_this_isKept))] H → va_D A [((x 0), .inr (7, o7 x v3.2.2.1)), ((x 1), .inl (T.2.1, 300, .inl u_this_text)), ((x 2), .inl (T.1, 22, .inl v3.2.2.2)), ((x 3), .inl (T.1, 11, .inl u_this_par)), ((x 4), .inl (T.1, 7, .inl u_this_try0)), ((x 5), .inl (T.1, 21, .inl u_this_nows)), ((x 6), .inl (T.2.2.1, 2, .inl u_this_isKept))] → va_S A s.heap H locs → lv_has ls 7 [(0, .ref (x 0)), (1, .int v3.1), (2, .int v3.2.1)] → W p l e ({ frames := 3, cells := 0, slots := 0, locals := 68 } : Room) s m ([.ref (x 0)] : List Value).toArray below meth c H locs 0 0 (MQ below (va_Qi (fun (r : Int32) (_ : Unit) => r = rv.1) (fun _ => xPost D T [((x 0), .inr (7, o7 x rv.2.1)), ((x 1), .inl (T.2.1, 300, .inl u_this_text)), ((x 2), .inl (T.1, 22, .inl rv.2.2.1)), ((x 3), .inl (T.1, 11, .inl rv.2.2.2.1)), ((x 4), .inl (T.1, 7, .inl rv.2.2.2.2.1)), ((x 5), .inl (T.1, 21, .inl rv.2.2.2.2.2.1)), ((x 6), .inl (T.2.2.1, 2, .inl rv.2.2.2.2.2.2))] A) A) ([.ref (x 0)] : List Value).toArray s 0 0 A) (F0 m 25 ls []) := by
    intro n
    induction n with
    | zero => exact fun _ h => (xlp_0 h).elim
    | succ n ih =>
      intro v3 hM H locs ls hP hD hS hl
      obtain ⟨z, hM, hz1, hz2⟩ := xlp_s hM
      unfold s_X7_pump_25 at hM
      refine lv_aload_n hx hb dX7_pump_25 rfl (lv_at hl 0 rfl) ?_
      refine va_get (D := D) (ci := 7) (v := .int v3.2.2.1.2.2.2.2.2.2.1) (C := RX7) (T := TX7) (N := 30) hx hb hts (fun w h => List.mem_cons_of_mem _ (List.mem_append_right _ h)) hown hK hP 0 rfl rfl 8 (by decide) (hts _ (List.mem_of_getElem? (i := 2) rfl)) (fun _ h9 => h9) rfl dX7_pump_26 ?_
      refine lv_bipush (v := (-9)) hx hb dX7_pump_29 (by decide) ?_
      refine lv_icmp_ne (tgt := 211) hx hb dX7_pump_31 (by decide) (fun c4 => ?_) (fun c4 => ?_)
      · have hM := xif c4 hM
        obtain rfl := hz2 _ (Option.some.inj hM).symm
        exact Kv26 _ _ _ hP hD hS (lv_sub hl [0, 1] rfl)
      · have hM := xit c4 hM
        refine lv_aload_n hx hb dX7_pump_34 rfl (lv_at hl 0 rfl) ?_
        refine va_get (D := D) (ci := 7) (v := .int v3.2.2.1.2.2.2.2.1) (C := RX7) (T := TX7) (N := 30) hx hb hts (fun w h => List.mem_cons_of_mem _ (List.mem_append_right _ h)) hown hK hP 0 rfl rfl 6 (by decide) (hts _ (List.mem_of_getElem? (i := 3) rfl)) (fun _ h9 => h9) rfl dX7_pump_35 ?_
        refine lv_bipush (v := 20) hx hb dX7_pump_38 (by decide) ?_
        refine lv_icmp_eq (tgt := 211) hx hb dX7_pump_40 (by decide) (fun c5 => ?_) (fun c5 => ?_)
        · have hM := xit c5 hM
          obtain rfl := hz2 _ (Option.some.inj hM).symm
          exact Kv26 _ _ _ hP hD hS (lv_sub hl [0, 1] rfl)
        · have hM := xif c5 hM
          refine lv_aload_n hx hb dX7_pump_43 rfl (lv_at hl 0 rfl) ?_
          refine va_get (D := D) (ci := 7) (v := .int v3.2.2.1.2.2.2.2.1) (C := RX7) (T := TX7) (N := 30) hx hb hts (fun w h => List.mem_cons_of_mem _ (List.mem_append_right _ h)) hown hK hP 0 rfl rfl 6 (by decide) (hts _ (List.mem_of_getElem? (i := 3) rfl)) (fun _ h9 => h9) rfl dX7_pump_44 ?_
          refine lv_istore_n (lv' := [(3, .int v3.2.2.1.2.2.2.2.1), (0, .ref (x 0)), (1, .int v3.1), (2, .int v3.2.1)]) hx hb dX7_pump_47 rfl hl (by decide) rfl (fun ls hl => ?_)
          refine lv_aload_n hx hb dX7_pump_48 rfl (lv_at hl 1 rfl) ?_
          refine lv_iload_n hx hb dX7_pump_49 rfl (lv_at hl 0 rfl) ?_
          refine lv_bipush (v := 20) hx hb dX7_pump_50 (by decide) ?_
          obtain ⟨v8, hM, hNv8⟩ := xbd hM
          have Kv8 : ∀ (H : Heap) (locs : List Loc) (ls : Array Slot), va_P D vwCl [((x 0), .inr (7, o7 x v3.2.2.1)), ((x 1), .inl (T.2.1, 300, .inl u_this_text)), ((x 2), .inl (T.1, 22, .inl v3.2.2.2)), ((x 3), .inl (T.1, 11, .inl u_this_par)), ((x 4), .inl (T.1, 7, .inl u_this_try0)), ((x 5), .inl (T.1, 21, .inl u_this_nows)), ((x 6), .inl (T.2.2.1, 2, .inl u_this_isKept))] H → va_D A [((x 0), .inr (7, o7 x v3.2.2.1)), ((x 1), .inl (T.2.1, 300, .inl u_this_text)), ((x 2), .inl (T.1, 22, .inl v3.2.2.2)), ((x 3), .inl (T.1, 11, .inl u_this_par)), ((x 4), .inl (T.1, 7, .inl u_this_try0)), ((x 5), .inl (T.1, 21, .inl u_this_nows)), ((x 6), .inl (T.2.2.1, 2, .inl u_this_isKept))] → va_S A s.heap H locs → lv_has ls 7 [(0, .ref (x 0)), (1, .int v3.1), (2, .int v3.2.1), (3, .int v3.2.2.1.2.2.2.2.1)] → W p l e ({ frames := 3, cells := 0, slots := 0, locals := 68 } : Room) s m ([.ref (x 0)] : List Value).toArray below meth c H locs 0 0 (MQ below (va_Qi (fun (r : Int32) (_ : Unit) => r = rv.1) (fun _ => xPost D T [((x 0), .inr (7, o7 x rv.2.1)), ((x 1), .inl (T.2.1, 300, .inl u_this_text)), ((x 2), .inl (T.1, 22, .inl rv.2.2.1)), ((x 3), .inl (T.1, 11, .inl rv.2.2.2.1)), ((x 4), .inl (T.1, 7, .inl rv.2.2.2.2.1)), ((x 5), .inl (T.1, 21, .inl rv.2.2.2.2.2.1)), ((x 6), .inl (T.2.2.1, 2, .inl rv.2.2.2.2.2.2))] A) A) ([.ref (x 0)] : List Value).toArray s 0 0 A) (F0 m 68 ls [.int v8, .ref (x 0)]) := by
            intro H locs ls hP hD hS hl
            have hM := hNv8
            obtain ⟨r9, er9, hM⟩ := xbd hM
            refine xafti (rv := r9.1) (W2 := [((x 0), .inr (7, o7 x r9.2)), ((x 1), .inl (T.2.1, 300, .inl u_this_text)), ((x 2), .inl (T.1, 22, .inl v3.2.2.2)), ((x 3), .inl (T.1, 11, .inl u_this_par)), ((x 4), .inl (T.1, 7, .inl u_this_try0)), ((x 5), .inl (T.1, 21, .inl u_this_nows)), ((x 6), .inl (T.2.2.1, 2, .inl u_this_isKept))]) (va_runV (As := [.int v8]) (rest := []) ⟨hx, hb, hml, hown, hts⟩ (c_X7_due l D T x v3.2.2.1 u_this_text v8 er9) (cwV 1 hts gX7_pump_X7_due rfl rfl rfl (by decide +kernel) ⟨Nat.le_of_ble_eq_true rfl, Nat.le_of_ble_eq_true rfl⟩) (xpvv hP hD hK [0, 1] (by decide) rfl 0 7 rfl rfl (fun _ _ _ => trivial) (fun _ _ _ _ _ _ => trivial)) rfl rfl hl.1 rfl (lv_room (Nat.le_of_ble_eq_true rfl)) dX7_pump_68 ⟨Nat.le_of_ble_eq_true rfl, Nat.le_of_ble_eq_true rfl⟩) hP hD hS hA [0, 1] rfl rfl rfl rfl (fun H locs hP hD hS => ?_)
            refine lv_pop hx hb dX7_pump_71 rfl ?_
            refine lv_aload_n hx hb dX7_pump_72 rfl (lv_at hl 0 rfl) ?_
            refine va_get (D := D) (ci := 7) (v := .int r9.2.2.2.2.2.2.2.1) (C := RX7) (T := TX7) (N := 30) hx hb hts (fun w h => List.mem_cons_of_mem _ (List.mem_append_right _ h)) hown hK hP 0 rfl rfl 8 (by decide) (hts _ (List.mem_of_getElem? (i := 2) rfl)) (fun _ h9 => h9) rfl dX7_pump_73 ?_
            refine lv_bipush (v := (-9)) hx hb dX7_pump_76 (by decide) ?_
            obtain ⟨v11, hM, hNv11⟩ := xbd hM
            have Kv11 : ∀ (H : Heap) (locs : List Loc) (ls : Array Slot), va_P D vwCl [((x 0), .inr (7, o7 x r9.2)), ((x 1), .inl (T.2.1, 300, .inl u_this_text)), ((x 2), .inl (T.1, 22, .inl v3.2.2.2)), ((x 3), .inl (T.1, 11, .inl u_this_par)), ((x 4), .inl (T.1, 7, .inl u_this_try0)), ((x 5), .inl (T.1, 21, .inl u_this_nows)), ((x 6), .inl (T.2.2.1, 2, .inl u_this_isKept))] H → va_D A [((x 0), .inr (7, o7 x r9.2)), ((x 1), .inl (T.2.1, 300, .inl u_this_text)), ((x 2), .inl (T.1, 22, .inl v3.2.2.2)), ((x 3), .inl (T.1, 11, .inl u_this_par)), ((x 4), .inl (T.1, 7, .inl u_this_try0)), ((x 5), .inl (T.1, 21, .inl u_this_nows)), ((x 6), .inl (T.2.2.1, 2, .inl u_this_isKept))] → va_S A s.heap H locs → lv_has ls 7 [(0, .ref (x 0)), (1, .int v3.1), (2, .int v3.2.1), (3, .int v3.2.2.1.2.2.2.2.1)] → W p l e ({ frames := 3, cells := 0, slots := 0, locals := 68 } : Room) s m ([.ref (x 0)] : List Value).toArray below meth c H locs 0 0 (MQ below (va_Qi (fun (r : Int32) (_ : Unit) => r = rv.1) (fun _ => xPost D T [((x 0), .inr (7, o7 x rv.2.1)), ((x 1), .inl (T.2.1, 300, .inl u_this_text)), ((x 2), .inl (T.1, 22, .inl rv.2.2.1)), ((x 3), .inl (T.1, 11, .inl rv.2.2.2.1)), ((x 4), .inl (T.1, 7, .inl rv.2.2.2.2.1)), ((x 5), .inl (T.1, 21, .inl rv.2.2.2.2.2.1)), ((x 6), .inl (T.2.2.1, 2, .inl rv.2.2.2.2.2.2))] A) A) ([.ref (x 0)] : List Value).toArray s 0 0 A) (F0 m 89 ls [.int v11]) := by
              intro H locs ls hP hD hS hl
              have hM := hNv11
              refine lv_istore (lv' := [(4, .int v11), (0, .ref (x 0)), (1, .int v3.1), (2, .int v3.2.1), (3, .int v3.2.2.1.2.2.2.2.1)]) hx hb dX7_pump_89 hl (by decide) rfl (fun ls hl => ?_)
              refine lv_iload_n hx hb dX7_pump_91 rfl (lv_at hl 4 rfl) ?_
              refine lv_istore (lv' := [(5, .int v3.2.2.1.2.2.2.2.1), (4, .int v11), (0, .ref (x 0)), (1, .int v3.1), (2, .int v3.2.1), (3, .int v3.2.2.1.2.2.2.2.1)]) hx hb dX7_pump_92 hl (by decide) rfl (fun ls hl => ?_)
              obtain ⟨v21, hM, hNv21⟩ := xbd hM
              have hQv21 := hM
              have Kv21 : ∀ (H : Heap) (locs : List Loc) (ls : Array Slot), va_P D vwCl [((x 0), .inr (7, o7 x v21.2.1)), ((x 1), .inl (T.2.1, 300, .inl u_this_text)), ((x 2), .inl (T.1, 22, .inl v21.2.2)), ((x 3), .inl (T.1, 11, .inl u_this_par)), ((x 4), .inl (T.1, 7, .inl u_this_try0)), ((x 5), .inl (T.1, 21, .inl u_this_nows)), ((x 6), .inl (T.2.2.1, 2, .inl u_this_isKept))] H → va_D A [((x 0), .inr (7, o7 x v21.2.1)), ((x 1), .inl (T.2.1, 300, .inl u_this_text)), ((x 2), .inl (T.1, 22, .inl v21.2.2)), ((x 3), .inl (T.1, 11, .inl u_this_par)), ((x 4), .inl (T.1, 7, .inl u_this_try0)), ((x 5), .inl (T.1, 21, .inl u_this_nows)), ((x 6), .inl (T.2.2.1, 2, .inl u_this_isKept))] → va_S A s.heap H locs → lv_has ls 7 [(0, .ref (x 0)), (1, .int v3.1), (2, .int v3.2.1), (3, .int v3.2.2.1.2.2.2.2.1)] → W p l e ({ frames := 3, cells := 0, slots := 0, locals := 68 } : Room) s m ([.ref (x 0)] : List Value).toArray below meth c H locs 0 0 (MQ below (va_Qi (fun (r : Int32) (_ : Unit) => r = rv.1) (fun _ => xPost D T [((x 0), .inr (7, o7 x rv.2.1)), ((x 1), .inl (T.2.1, 300, .inl u_this_text)), ((x 2), .inl (T.1, 22, .inl rv.2.2.1)), ((x 3), .inl (T.1, 11, .inl rv.2.2.2.1)), ((x 4), .inl (T.1, 7, .inl rv.2.2.2.2.1)), ((x 5), .inl (T.1, 21, .inl rv.2.2.2.2.2.1)), ((x 6), .inl (T.2.2.1, 2, .inl rv.2.2.2.2.2.2))] A) A) ([.ref (x 0)] : List Value).toArray s 0 0 A) (F0 m 170 ls []) := by
                intro H locs ls hP hD hS hl
                have hM := hNv21
                refine lv_aload_n hx hb dX7_pump_170 rfl (lv_at hl 0 rfl) ?_
                refine lv_aload_n hx hb dX7_pump_171 rfl (lv_at hl 0 rfl) ?_
                refine va_get (D := D) (ci := 7) (v := .int v21.2.1.2.2.2.2.1) (C := RX7) (T := TX7) (N := 30) hx hb hts (fun w h => List.mem_cons_of_mem _ (List.mem_append_right _ h)) hown hK hP 0 rfl rfl 6 (by decide) (hts _ (List.mem_of_getElem? (i := 3) rfl)) (fun _ h9 => h9) rfl dX7_pump_172 ?_
                refine lv_bipush (v := 22) hx hb dX7_pump_175 (by decide) ?_
                obtain ⟨v23, hM, hNv23⟩ := xbd hM
                have Kv23 : ∀ (H : Heap) (locs : List Loc) (ls : Array Slot), va_P D vwCl [((x 0), .inr (7, o7 x v21.2.1)), ((x 1), .inl (T.2.1, 300, .inl u_this_text)), ((x 2), .inl (T.1, 22, .inl v21.2.2)), ((x 3), .inl (T.1, 11, .inl u_this_par)), ((x 4), .inl (T.1, 7, .inl u_this_try0)), ((x 5), .inl (T.1, 21, .inl u_this_nows)), ((x 6), .inl (T.2.2.1, 2, .inl u_this_isKept))] H → va_D A [((x 0), .inr (7, o7 x v21.2.1)), ((x 1), .inl (T.2.1, 300, .inl u_this_text)), ((x 2), .inl (T.1, 22, .inl v21.2.2)), ((x 3), .inl (T.1, 11, .inl u_this_par)), ((x 4), .inl (T.1, 7, .inl u_this_try0)), ((x 5), .inl (T.1, 21, .inl u_this_nows)), ((x 6), .inl (T.2.2.1, 2, .inl u_this_isKept))] → va_S A s.heap H locs → lv_has ls 7 [(0, .ref (x 0)), (1, .int v3.1), (2, .int v3.2.1), (3, .int v3.2.2.1.2.2.2.2.1)] → W p l e ({ frames := 3, cells := 0, slots := 0, locals := 68 } : Room) s m ([.ref (x 0)] : List Value).toArray below meth c H locs 0 0 (MQ below (va_Qi (fun (r : Int32) (_ : Unit) => r = rv.1) (fun _ => xPost D T [((x 0), .inr (7, o7 x rv.2.1)), ((x 1), .inl (T.2.1, 300, .inl u_this_text)), ((x 2), .inl (T.1, 22, .inl rv.2.2.1)), ((x 3), .inl (T.1, 11, .inl rv.2.2.2.1)), ((x 4), .inl (T.1, 7, .inl rv.2.2.2.2.1)), ((x 5), .inl (T.1, 21, .inl rv.2.2.2.2.2.1)), ((x 6), .inl (T.2.2.1, 2, .inl rv.2.2.2.2.2.2))] A) A) ([.ref (x 0)] : List Value).toArray s 0 0 A) (F0 m 185 ls [.int v23, .ref (x 0)]) := by
                  intro H locs ls hP hD hS hl
                  have hM := hNv23
                  obtain ⟨r24, er24, hM⟩ := xbd hM
                  refine xafti (rv := r24.1) (W2 := [((x 0), .inr (7, o7 x r24.2)), ((x 1), .inl (T.2.1, 300, .inl u_this_text)), ((x 2), .inl (T.1, 22, .inl v21.2.2)), ((x 3), .inl (T.1, 11, .inl u_this_par)), ((x 4), .inl (T.1, 7, .inl u_this_try0)), ((x 5), .inl (T.1, 21, .inl u_this_nows)), ((x 6), .inl (T.2.2.1, 2, .inl u_this_isKept))]) (va_runV (As := [.int v23]) (rest := []) ⟨hx, hb, hml, hown, hts⟩ (c_X7_due l D T x v21.2.1 u_this_text v23 er24) (cwV 1 hts gX7_pump_X7_due rfl rfl rfl (by decide +kernel) ⟨Nat.le_of_ble_eq_true rfl, Nat.le_of_ble_eq_true rfl⟩) (xpvv hP hD hK [0, 1] (by decide) rfl 0 7 rfl rfl (fun _ _ _ => trivial) (fun _ _ _ _ _ _ => trivial)) rfl rfl hl.1 rfl (lv_room (Nat.le_of_ble_eq_true rfl)) dX7_pump_185 ⟨Nat.le_of_ble_eq_true rfl, Nat.le_of_ble_eq_true rfl⟩) hP hD hS hA [0, 1] rfl rfl rfl rfl (fun H locs hP hD hS => ?_)
                  refine lv_pop hx hb dX7_pump_188 rfl ?_
                  refine lv_iload_n hx hb dX7_pump_189 rfl (lv_at hl 2 rfl) ?_
                  refine lv_iload_n hx hb dX7_pump_190 rfl (lv_at hl 3 rfl) ?_
                  refine lv_bipush (v := 20) hx hb dX7_pump_191 (by decide) ?_
                  refine lv_icmp_ge (tgt := 202) hx hb dX7_pump_193 (by decide) (fun c25 => ?_) (fun c25 => ?_)
                  · have hM := xit c25 hM
                    refine lv_iconst (v := 0) hx hb dX7_pump_202 (by decide) ?_
                    refine lv_ior hx hb dX7_pump_203 ?_
                    refine lv_istore_n (lv' := [(2, .int (v3.2.1 ||| (0))), (0, .ref (x 0)), (1, .int v3.1), (3, .int v3.2.2.1.2.2.2.2.1)]) hx hb dX7_pump_204 rfl hl (by decide) rfl (fun ls hl => ?_)
                    refine lv_iinc (v := v3.1 + 1) (lv' := [(1, .int (v3.1 + 1)), (2, .int (v3.2.1 ||| (0))), (0, .ref (x 0)), (3, .int v3.2.2.1.2.2.2.2.1)]) hx hb dX7_pump_205 hl (k := 2) rfl rfl (by decide) rfl (fun ls hl => ?_)
                    refine lv_goto (tgt := 25) hx hb dX7_pump_208 (by decide) ?_
                    exact ih _ (hz1 _ (Option.some.inj hM).symm) _ _ _ hP hD hS (lv_sub hl [2, 0, 1] rfl)
                  · have hM := xif c25 hM
                    refine lv_iconst (v := 1) hx hb dX7_pump_196 (by decide) ?_
                    refine lv_iload_n hx hb dX7_pump_197 rfl (lv_at hl 3 rfl) ?_
                    refine lv_ishl hx hb dX7_pump_198 ?_
                    refine lv_goto (tgt := 203) hx hb dX7_pump_199 (by decide) ?_
                    refine lv_ior hx hb dX7_pump_203 ?_
                    refine lv_istore_n (lv' := [(2, .int (v3.2.1 ||| ((1) <<< (v3.2.2.1.2.2.2.2.1 &&& 31)))), (0, .ref (x 0)), (1, .int v3.1), (3, .int v3.2.2.1.2.2.2.2.1)]) hx hb dX7_pump_204 rfl hl (by decide) rfl (fun ls hl => ?_)
                    refine lv_iinc (v := v3.1 + 1) (lv' := [(1, .int (v3.1 + 1)), (2, .int (v3.2.1 ||| ((1) <<< (v3.2.2.1.2.2.2.2.1 &&& 31)))), (0, .ref (x 0)), (3, .int v3.2.2.1.2.2.2.2.1)]) hx hb dX7_pump_205 hl (k := 2) rfl rfl (by decide) rfl (fun ls hl => ?_)
                    refine lv_goto (tgt := 25) hx hb dX7_pump_208 (by decide) ?_
                    exact ih _ (hz1 _ (Option.some.inj hM).symm) _ _ _ hP hD hS (lv_sub hl [2, 0, 1] rfl)
                refine lv_icmp_ne (tgt := 184) hx hb dX7_pump_177 (by decide) (fun c22 => ?_) (fun c22 => ?_)
                · have hM := xif c22 hM
                  refine lv_iconst (v := 0) hx hb dX7_pump_184 (by decide) ?_
                  obtain rfl := Option.some.inj hM
                  exact Kv23 _ _ _ hP hD hS (lv_sub hl [0, 1, 2, 3] rfl)
                · have hM := xit c22 hM
                  refine lv_iconst (v := 1) hx hb dX7_pump_180 (by decide) ?_
                  refine lv_goto (tgt := 185) hx hb dX7_pump_181 (by decide) ?_
                  obtain rfl := Option.some.inj hM
                  exact Kv23 _ _ _ hP hD hS (lv_sub hl [0, 1, 2, 3] rfl)
              have Lv12 : ∀ (n : Nat) (v12 : Int32 × K7 × (Nat → Int32)), xlp (s_X7_pump_94 N u_this_text v3 v11) n v12 = some v21 → ∀ (H : Heap) (locs : List Loc) (ls : Array Slot), va_P D vwCl [((x 0), .inr (7, o7 x v12.2.1)), ((x 1), .inl (T.2.1, 300, .inl u_this_text)), ((x 2), .inl (T.1, 22, .inl v12.2.2)), ((x 3), .inl (T.1, 11, .inl u_this_par)), ((x 4), .inl (T.1, 7, .inl u_this_try0)), ((x 5), .inl (T.1, 21, .inl u_this_nows)), ((x 6), .inl (T.2.2.1, 2, .inl u_this_isKept))] H → va_D A [((x 0), .inr (7, o7 x v12.2.1)), ((x 1), .inl (T.2.1, 300, .inl u_this_text)), ((x 2), .inl (T.1, 22, .inl v12.2.2)), ((x 3), .inl (T.1, 11, .inl u_this_par)), ((x 4), .inl (T.1, 7, .inl u_this_try0)), ((x 5), .inl (T.1, 21, .inl u_this_nows)), ((x 6), .inl (T.2.2.1, 2, .inl u_this_isKept))] → va_S A s.heap H locs → lv_has ls 7 [(0, .ref (x 0)), (1, .int v3.1), (2, .int v3.2.1), (3, .int v3.2.2.1.2.2.2.2.1), (4, .int v11), (5, .int v12.1)] → W p l e ({ frames := 3, cells := 0, slots := 0, locals := 68 } : Room) s m ([.ref (x 0)] : List Value).toArray below meth c H locs 0 0 (MQ below (va_Qi (fun (r : Int32) (_ : Unit) => r = rv.1) (fun _ => xPost D T [((x 0), .inr (7, o7 x rv.2.1)), ((x 1), .inl (T.2.1, 300, .inl u_this_text)), ((x 2), .inl (T.1, 22, .inl rv.2.2.1)), ((x 3), .inl (T.1, 11, .inl rv.2.2.2.1)), ((x 4), .inl (T.1, 7, .inl rv.2.2.2.2.1)), ((x 5), .inl (T.1, 21, .inl rv.2.2.2.2.2.1)), ((x 6), .inl (T.2.2.1, 2, .inl rv.2.2.2.2.2.2))] A) A) ([.ref (x 0)] : List Value).toArray s 0 0 A) (F0 m 94 ls []) := by
                intro n
                induction n with
                | zero => exact fun _ h => (xlp_0 h).elim
                | succ n ih =>
                  intro v12 hM H locs ls hP hD hS hl
                  obtain ⟨z, hM, hz1, hz2⟩ := xlp_s hM
                  unfold s_X7_pump_94 at hM
                  refine lv_iload hx hb dX7_pump_94 (lv_at hl 5 rfl) ?_
                  refine lv_iload_n hx hb dX7_pump_96 rfl (lv_at hl 3 rfl) ?_
                  refine lv_iload hx hb dX7_pump_97 (lv_at hl 4 rfl) ?_
                  refine lv_iadd hx hb dX7_pump_99 ?_
                  refine lv_icmp_ge (tgt := 170) hx hb dX7_pump_100 (by decide) (fun c13 => ?_) (fun c13 => ?_)
                  · have hM := xit c13 hM
                    obtain rfl := hz2 _ (Option.some.inj hM).symm
                    exact Kv21 _ _ _ hP hD hS (lv_sub hl [0, 1, 2, 3] rfl)
                  · have hM := xif c13 hM
                    refine lv_aload_n hx hb dX7_pump_103 rfl (lv_at hl 0 rfl) ?_
                    refine lv_aload_n hx hb dX7_pump_104 rfl (lv_at hl 0 rfl) ?_
                    refine va_get (D := D) (ci := 7) (v := .int v12.2.1.2.2.2.2.1) (C := RX7) (T := TX7) (N := 30) hx hb hts (fun w h => List.mem_cons_of_mem _ (List.mem_append_right _ h)) hown hK hP 0 rfl rfl 6 (by decide) (hts _ (List.mem_of_getElem? (i := 3) rfl)) (fun _ h9 => h9) rfl dX7_pump_105 ?_
                    refine lv_bipush (v := 21) hx hb dX7_pump_108 (by decide) ?_
                    obtain ⟨v17, hM, hNv17⟩ := xbd hM
                    have Kv17 : ∀ (H : Heap) (locs : List Loc) (ls : Array Slot), va_P D vwCl [((x 0), .inr (7, o7 x v12.2.1)), ((x 1), .inl (T.2.1, 300, .inl u_this_text)), ((x 2), .inl (T.1, 22, .inl v12.2.2)), ((x 3), .inl (T.1, 11, .inl u_this_par)), ((x 4), .inl (T.1, 7, .inl u_this_try0)), ((x 5), .inl (T.1, 21, .inl u_this_nows)), ((x 6), .inl (T.2.2.1, 2, .inl u_this_isKept))] H → va_D A [((x 0), .inr (7, o7 x v12.2.1)), ((x 1), .inl (T.2.1, 300, .inl u_this_text)), ((x 2), .inl (T.1, 22, .inl v12.2.2)), ((x 3), .inl (T.1, 11, .inl u_this_par)), ((x 4), .inl (T.1, 7, .inl u_this_try0)), ((x 5), .inl (T.1, 21, .inl u_this_nows)), ((x 6), .inl (T.2.2.1, 2, .inl u_this_isKept))] → va_S A s.heap H locs → lv_has ls 7 [(0, .ref (x 0)), (1, .int v3.1), (2, .int v3.2.1), (3, .int v3.2.2.1.2.2.2.2.1), (4, .int v11), (5, .int v12.1)] → W p l e ({ frames := 3, cells := 0, slots := 0, locals := 68 } : Room) s m ([.ref (x 0)] : List Value).toArray below meth c H locs 0 0 (MQ below (va_Qi (fun (r : Int32) (_ : Unit) => r = rv.1) (fun _ => xPost D T [((x 0), .inr (7, o7 x rv.2.1)), ((x 1), .inl (T.2.1, 300, .inl u_this_text)), ((x 2), .inl (T.1, 22, .inl rv.2.2.1)), ((x 3), .inl (T.1, 11, .inl rv.2.2.2.1)), ((x 4), .inl (T.1, 7, .inl rv.2.2.2.2.1)), ((x 5), .inl (T.1, 21, .inl rv.2.2.2.2.2.1)), ((x 6), .inl (T.2.2.1, 2, .inl rv.2.2.2.2.2.2))] A) A) ([.ref (x 0)] : List Value).toArray s 0 0 A) (F0 m 138 ls [.int v17, .ref (x 0)]) := by
                      intro H locs ls hP hD hS hl
                      have hM := hNv17
                      obtain ⟨r18, er18, hM⟩ := xbd hM
                      refine xafti (rv := r18.1) (W2 := [((x 0), .inr (7, o7 x r18.2)), ((x 1), .inl (T.2.1, 300, .inl u_this_text)), ((x 2), .inl (T.1, 22, .inl v12.2.2)), ((x 3), .inl (T.1, 11, .inl u_this_par)), ((x 4), .inl (T.1, 7, .inl u_this_try0)), ((x 5), .inl (T.1, 21, .inl u_this_nows)), ((x 6), .inl (T.2.2.1, 2, .inl u_this_isKept))]) (va_runV (As := [.int v17]) (rest := []) ⟨hx, hb, hml, hown, hts⟩ (c_X7_due l D T x v12.2.1 u_this_text v17 er18) (cwV 1 hts gX7_pump_X7_due rfl rfl rfl (by decide +kernel) ⟨Nat.le_of_ble_eq_true rfl, Nat.le_of_ble_eq_true rfl⟩) (xpvv hP hD hK [0, 1] (by decide) rfl 0 7 rfl rfl (fun _ _ _ => trivial) (fun _ _ _ _ _ _ => trivial)) rfl rfl hl.1 rfl (lv_room (Nat.le_of_ble_eq_true rfl)) dX7_pump_138 ⟨Nat.le_of_ble_eq_true rfl, Nat.le_of_ble_eq_true rfl⟩) hP hD hS hA [0, 1] rfl rfl rfl rfl (fun H locs hP hD hS => ?_)
                      refine lv_istore (lv' := [(6, .int r18.1), (0, .ref (x 0)), (1, .int v3.1), (2, .int v3.2.1), (3, .int v3.2.2.1.2.2.2.2.1), (4, .int v11), (5, .int v12.1)]) hx hb dX7_pump_141 hl (by decide) rfl (fun ls hl => ?_)
                      refine lv_aload_n hx hb dX7_pump_143 rfl (lv_at hl 1 rfl) ?_
                      refine va_get (D := D) (ci := 7) (v := .int r18.2.2.2.2.2.2.2.1) (C := RX7) (T := TX7) (N := 30) hx hb hts (fun w h => List.mem_cons_of_mem _ (List.mem_append_right _ h)) hown hK hP 0 rfl rfl 8 (by decide) (hts _ (List.mem_of_getElem? (i := 2) rfl)) (fun _ h9 => h9) rfl dX7_pump_144 ?_
                      refine lv_bipush (v := (-9)) hx hb dX7_pump_147 (by decide) ?_
                      refine lv_icmp_ne (tgt := 164) hx hb dX7_pump_149 (by decide) (fun c19 => ?_) (fun c19 => ?_)
                      · have hM := xif c19 hM
                        refine lv_iinc (v := v12.1 + 1) (lv' := [(5, .int (v12.1 + 1)), (6, .int r18.1), (0, .ref (x 0)), (1, .int v3.1), (2, .int v3.2.1), (3, .int v3.2.2.1.2.2.2.2.1), (4, .int v11)]) hx hb dX7_pump_164 hl (k := 6) rfl rfl (by decide) rfl (fun ls hl => ?_)
                        refine lv_goto (tgt := 94) hx hb dX7_pump_167 (by decide) ?_
                        exact ih _ (hz1 _ (Option.some.inj hM).symm) _ _ _ hP hD hS (lv_sub hl [2, 3, 4, 5, 6, 0] rfl)
                      · have hM := xit c19 hM
                        refine lv_aload_n hx hb dX7_pump_152 rfl (lv_at hl 1 rfl) ?_
                        refine va_get (D := D) (ci := 7) (v := .ref (x 2)) (C := RX7) (T := TX7) (N := 30) hx hb hts (fun w h => List.mem_cons_of_mem _ (List.mem_append_right _ h)) hown hK hP 0 rfl rfl 3 (by decide) (hts _ (List.mem_of_getElem? (i := 5) rfl)) (fun _ h9 => h9) rfl dX7_pump_153 ?_
                        refine lv_bipush (v := 11) hx hb dX7_pump_156 (by decide) ?_
                        refine lv_iload hx hb dX7_pump_158 (lv_at hl 6 rfl) ?_
                        refine lv_iadd hx hb dX7_pump_160 ?_
                        refine lv_iload hx hb dX7_pump_161 (lv_at hl 0 rfl) ?_
                        obtain ⟨g20, hM⟩ := xck hM
                        refine xast hx hb hK hP hD hS 2 0 rfl rfl g20 rfl dX7_pump_163 (fun H locs hP hD hS => ?_)
                        have hP : va_P D vwCl [((x 0), .inr (7, o7 x r18.2)), ((x 1), .inl (T.2.1, 300, .inl u_this_text)), ((x 2), .inl (T.1, 22, .inl (upd v12.2.2 (((11) + v12.1).toNatClampNeg) r18.1))), ((x 3), .inl (T.1, 11, .inl u_this_par)), ((x 4), .inl (T.1, 7, .inl u_this_try0)), ((x 5), .inl (T.1, 21, .inl u_this_nows)), ((x 6), .inl (T.2.2.1, 2, .inl u_this_isKept))] H := hP
                        have hD : va_D A [((x 0), .inr (7, o7 x r18.2)), ((x 1), .inl (T.2.1, 300, .inl u_this_text)), ((x 2), .inl (T.1, 22, .inl (upd v12.2.2 (((11) + v12.1).toNatClampNeg) r18.1))), ((x 3), .inl (T.1, 11, .inl u_this_par)), ((x 4), .inl (T.1, 7, .inl u_this_try0)), ((x 5), .inl (T.1, 21, .inl u_this_nows)), ((x 6), .inl (T.2.2.1, 2, .inl u_this_isKept))] := hD
                        refine lv_iinc (v := v12.1 + 1) (lv' := [(5, .int (v12.1 + 1)), (6, .int r18.1), (0, .ref (x 0)), (1, .int v3.1), (2, .int v3.2.1), (3, .int v3.2.2.1.2.2.2.2.1), (4, .int v11)]) hx hb dX7_pump_164 hl (k := 6) rfl rfl (by decide) rfl (fun ls hl => ?_)
                        refine lv_goto (tgt := 94) hx hb dX7_pump_167 (by decide) ?_
                        exact ih _ (hz1 _ (Option.some.inj hM).symm) _ _ _ hP hD hS (lv_sub hl [2, 3, 4, 5, 6, 0] rfl)
                    refine lv_icmp_ne (tgt := 137) hx hb dX7_pump_110 (by decide) (fun c14 => ?_) (fun c14 => ?_)
                    · have hM := xif c14 hM
                      refine lv_iconst (v := 0) hx hb dX7_pump_137 (by decide) ?_
                      obtain rfl := Option.some.inj hM
                      exact Kv17 _ _ _ hP hD hS (lv_sub hl [0, 1, 2, 3, 4, 5] rfl)
                    · have hM := xit c14 hM
                      refine lv_aload_n hx hb dX7_pump_113 rfl (lv_at hl 0 rfl) ?_
                      refine va_get (D := D) (ci := 7) (v := .int v12.2.1.2.2.2.2.2.1) (C := RX7) (T := TX7) (N := 30) hx hb hts (fun w h => List.mem_cons_of_mem _ (List.mem_append_right _ h)) hown hK hP 0 rfl rfl 7 (by decide) (hts _ (List.mem_of_getElem? (i := 4) rfl)) (fun _ h9 => h9) rfl dX7_pump_114 ?_
                      refine lv_iload hx hb dX7_pump_117 (lv_at hl 5 rfl) ?_
                      refine xafti (rv := (f_X7_lowOf v12.1)) (W2 := [((x 0), .inr (7, o7 x v12.2.1)), ((x 1), .inl (T.2.1, 300, .inl u_this_text)), ((x 2), .inl (T.1, 22, .inl v12.2.2)), ((x 3), .inl (T.1, 11, .inl u_this_par)), ((x 4), .inl (T.1, 7, .inl u_this_try0)), ((x 5), .inl (T.1, 21, .inl u_this_nows)), ((x 6), .inl (T.2.2.1, 2, .inl u_this_isKept))]) (va_runS (As := [.int v12.1]) (rest := [.int v12.2.1.2.2.2.2.2.1, .ref (x 0)]) ⟨hx, hb, hml, hown, hts⟩ (c_X7_lowOf (rv := (f_X7_lowOf v12.1)) l D T v12.1 rfl) (cwS 1 hts gX7_pump_X7_lowOf rfl rfl rfl (by decide +kernel) ⟨Nat.le_of_ble_eq_true rfl, Nat.le_of_ble_eq_true rfl⟩) (xpvs hP hD hK [] (by decide) rfl (fun _ _ _ => trivial) (fun _ _ _ _ _ _ => trivial)) rfl rfl hl.1 rfl (lv_room (Nat.le_of_ble_eq_true rfl)) dX7_pump_119 ⟨Nat.le_of_ble_eq_true rfl, Nat.le_of_ble_eq_true rfl⟩) hP hD hS hA [] rfl rfl rfl rfl (fun H locs hP hD hS => ?_)
                      refine lv_iload hx hb dX7_pump_122 (lv_at hl 5 rfl) ?_
                      refine xafti (rv := (f_X7_highOf v12.1)) (W2 := [((x 0), .inr (7, o7 x v12.2.1)), ((x 1), .inl (T.2.1, 300, .inl u_this_text)), ((x 2), .inl (T.1, 22, .inl v12.2.2)), ((x 3), .inl (T.1, 11, .inl u_this_par)), ((x 4), .inl (T.1, 7, .inl u_this_try0)), ((x 5), .inl (T.1, 21, .inl u_this_nows)), ((x 6), .inl (T.2.2.1, 2, .inl u_this_isKept))]) (va_runS (As := [.int v12.1]) (rest := [.int (f_X7_lowOf v12.1), .int v12.2.1.2.2.2.2.2.1, .ref (x 0)]) ⟨hx, hb, hml, hown, hts⟩ (c_X7_highOf (rv := (f_X7_highOf v12.1)) l D T v12.1 rfl) (cwS 1 hts gX7_pump_X7_highOf rfl rfl rfl (by decide +kernel) ⟨Nat.le_of_ble_eq_true rfl, Nat.le_of_ble_eq_true rfl⟩) (xpvs hP hD hK [] (by decide) rfl (fun _ _ _ => trivial) (fun _ _ _ _ _ _ => trivial)) rfl rfl hl.1 rfl (lv_room (Nat.le_of_ble_eq_true rfl)) dX7_pump_124 ⟨Nat.le_of_ble_eq_true rfl, Nat.le_of_ble_eq_true rfl⟩) hP hD hS hA [] rfl rfl rfl rfl (fun H locs hP hD hS => ?_)
                      obtain ⟨r15, er15, hM⟩ := xbd hM
                      refine xafti (rv := r15) (W2 := [((x 0), .inr (7, o7 x v12.2.1)), ((x 1), .inl (T.2.1, 300, .inl u_this_text)), ((x 2), .inl (T.1, 22, .inl v12.2.2)), ((x 3), .inl (T.1, 11, .inl u_this_par)), ((x 4), .inl (T.1, 7, .inl u_this_try0)), ((x 5), .inl (T.1, 21, .inl u_this_nows)), ((x 6), .inl (T.2.2.1, 2, .inl u_this_isKept))]) (va_runS (As := [.int v12.2.1.2.2.2.2.2.1, .int (f_X7_lowOf v12.1), .int (f_X7_highOf v12.1)]) (rest := [.ref (x 0)]) ⟨hx, hb, hml, hown, hts⟩ (c_X7_in l D T v12.2.1.2.2.2.2.2.1 (f_X7_lowOf v12.1) (f_X7_highOf v12.1) (Option.some.inj er15)) (cwS 3 hts gX7_pump_X7_in rfl rfl rfl (by decide +kernel) ⟨Nat.le_of_ble_eq_true rfl, Nat.le_of_ble_eq_true rfl⟩) (xpvs hP hD hK [] (by decide) rfl (fun _ _ _ => trivial) (fun _ _ _ _ _ _ => trivial)) rfl rfl hl.1 rfl (lv_room (Nat.le_of_ble_eq_true rfl)) dX7_pump_127 ⟨Nat.le_of_ble_eq_true rfl, Nat.le_of_ble_eq_true rfl⟩) hP hD hS hA [] rfl rfl rfl rfl (fun H locs hP hD hS => ?_)
                      refine lv_if_eq (tgt := 137) hx hb dX7_pump_130 (by decide) (fun c16 => ?_) (fun c16 => ?_)
                      · have hM := xit c16 hM
                        refine lv_iconst (v := 0) hx hb dX7_pump_137 (by decide) ?_
                        obtain rfl := Option.some.inj hM
                        exact Kv17 _ _ _ hP hD hS (lv_sub hl [0, 1, 2, 3, 4, 5] rfl)
                      · have hM := xif c16 hM
                        refine lv_iconst (v := 1) hx hb dX7_pump_133 (by decide) ?_
                        refine lv_goto (tgt := 138) hx hb dX7_pump_134 (by decide) ?_
                        obtain rfl := Option.some.inj hM
                        exact Kv17 _ _ _ hP hD hS (lv_sub hl [0, 1, 2, 3, 4, 5] rfl)
              exact Lv12 _ _ hM _ _ _ hP hD hS (lv_sub hl [2, 3, 4, 5, 1, 0] rfl)
            refine lv_icmp_ne (tgt := 88) hx hb dX7_pump_78 (by decide) (fun c10 => ?_) (fun c10 => ?_)
            · have hM := xif c10 hM
              refine lv_iconst (v := 0) hx hb dX7_pump_88 (by decide) ?_
              obtain rfl := Option.some.inj hM
              exact Kv11 _ _ _ hP hD hS (lv_sub hl [0, 1, 2, 3] rfl)
            · have hM := xit c10 hM
              refine lv_iload_n hx hb dX7_pump_81 rfl (lv_at hl 3 rfl) ?_
              refine xafti (rv := (f_X7_manyOf v3.2.2.1.2.2.2.2.1)) (W2 := [((x 0), .inr (7, o7 x r9.2)), ((x 1), .inl (T.2.1, 300, .inl u_this_text)), ((x 2), .inl (T.1, 22, .inl v3.2.2.2)), ((x 3), .inl (T.1, 11, .inl u_this_par)), ((x 4), .inl (T.1, 7, .inl u_this_try0)), ((x 5), .inl (T.1, 21, .inl u_this_nows)), ((x 6), .inl (T.2.2.1, 2, .inl u_this_isKept))]) (va_runS (As := [.int v3.2.2.1.2.2.2.2.1]) (rest := []) ⟨hx, hb, hml, hown, hts⟩ (c_X7_manyOf (rv := (f_X7_manyOf v3.2.2.1.2.2.2.2.1)) l D T v3.2.2.1.2.2.2.2.1 rfl) (cwS 1 hts gX7_pump_X7_manyOf rfl rfl rfl (by decide +kernel) ⟨Nat.le_of_ble_eq_true rfl, Nat.le_of_ble_eq_true rfl⟩) (xpvs hP hD hK [] (by decide) rfl (fun _ _ _ => trivial) (fun _ _ _ _ _ _ => trivial)) rfl rfl hl.1 rfl (lv_room (Nat.le_of_ble_eq_true rfl)) dX7_pump_82 ⟨Nat.le_of_ble_eq_true rfl, Nat.le_of_ble_eq_true rfl⟩) hP hD hS hA [] rfl rfl rfl rfl (fun H locs hP hD hS => ?_)
              refine lv_goto (tgt := 89) hx hb dX7_pump_85 (by decide) ?_
              obtain rfl := Option.some.inj hM
              exact Kv11 _ _ _ hP hD hS (lv_sub hl [0, 1, 2, 3] rfl)
          refine lv_icmp_ge (tgt := 67) hx hb dX7_pump_52 (by decide) (fun c6 => ?_) (fun c6 => ?_)
          · have hM := xit c6 hM
            refine lv_iconst (v := 0) hx hb dX7_pump_67 (by decide) ?_
            obtain rfl := Option.some.inj hM
            exact Kv8 _ _ _ hP hD hS (lv_sub hl [1, 2, 3, 0] rfl)
          · have hM := xif c6 hM
            refine lv_iload_n hx hb dX7_pump_55 rfl (lv_at hl 3 rfl) ?_
            refine lv_iload_n hx hb dX7_pump_56 rfl (lv_at hl 0 rfl) ?_
            refine lv_ishr hx hb dX7_pump_57 ?_
            refine lv_iconst (v := 1) hx hb dX7_pump_58 (by decide) ?_
            refine lv_iand hx hb dX7_pump_59 ?_
            refine lv_if_ne (tgt := 67) hx hb dX7_pump_60 (by decide) (fun c7 => ?_) (fun c7 => ?_)
            · have hM := xif c7 hM
              refine lv_iconst (v := 0) hx hb dX7_pump_67 (by decide) ?_
              obtain rfl := Option.some.inj hM
              exact Kv8 _ _ _ hP hD hS (lv_sub hl [1, 2, 3, 0] rfl)
            · have hM := xit c7 hM
              refine lv_iconst (v := 1) hx hb dX7_pump_63 (by decide) ?_
              refine lv_goto (tgt := 68) hx hb dX7_pump_64 (by decide) ?_
              obtain rfl := Option.some.inj hM
              exact Kv8 _ _ _ hP hD hS (lv_sub hl [1, 2, 3, 0] rfl)
  exact Lv3 _ _ hM _ _ _ hP hD hS (lv_sub hl [2, 1, 0] rfl)
def f_X7_told (u_this : K7) (u_this_told : (Nat → Int32)) (p1 : Int32) : Option (Int32) :=
  if (f_X7_in p1 (0) (10)) = (0) then
   (some (-1))
  else
   (if xin p1 22 = true then
    (some (u_this_told p1.toNatClampNeg))
    else none)
set_option maxHeartbeats 4000000 in
set_option maxRecDepth 100000 in
theorem c_X7_told (l : Launch) (D : va_G) (T : xT) (x : Nat → Nat) {sz : Nat} (u_this : K7) (u_this_told : (Nat → Int32)) (p1 : Int32) {rv : Int32} (hM : f_X7_told u_this u_this_told p1 = some rv) : Met l yX7_told wsX7_told ({ frames := 1, cells := 0, slots := 0, locals := 22 } : Room) (va_Pc [.ref (x 0), .int p1] (xPre D T [((x 0), .inr (7, o7 x u_this)), ((x 2), .inl (T.1, 22, .inl u_this_told))] sz xE0)) (va_Qi (fun (r : Int32) (_ : Unit) => r = rv) (fun _ => xPost D T [((x 0), .inr (7, o7 x u_this)), ((x 2), .inl (T.1, 22, .inl u_this_told))] (va_A [((x 0), .inr (7, o7 x u_this)), ((x 2), .inl (T.1, 22, .inl u_this_told))] sz)) (va_A [((x 0), .inr (7, o7 x u_this)), ((x 2), .inl (T.1, 22, .inl u_this_told))] sz)) 0 0 (va_A [((x 0), .inr (7, o7 x u_this)), ((x 2), .inl (T.1, 22, .inl u_this_told))] sz) := by
  refine xMet (av := [.ref (x 0), .int p1]) (Wd := [((x 0), .inr (7, o7 x u_this)), ((x 2), .inl (T.1, 22, .inl u_this_told))]) (E := xE0) (Qc := fun A => (va_Qi (fun (r : Int32) (_ : Unit) => r = rv) (fun _ => xPost D T [((x 0), .inr (7, o7 x u_this)), ((x 2), .inl (T.1, 22, .inl u_this_told))] A) A)) (cc := cX7_told) (maxL := 2) (ret := (some .int)) (by decide) rfl (Nat.le_of_ble_eq_true rfl) ?_
  intro p e s m below meth c A ls hx hb hr hml hts hown hlocks hnm hP hK hD hS hA hE hl
  have hown : s.vm.findClass RX7 = some m.cls := hown
  have hl : lv_has ls 2 [(0, .ref (x 0)), (1, .int p1)] := hl
  unfold f_X7_told at hM
  refine lv_iload_n hx hb dX7_told_0 rfl (lv_at hl 1 rfl) ?_
  refine lv_iconst (v := 0) hx hb dX7_told_1 (by decide) ?_
  refine lv_bipush (v := 10) hx hb dX7_told_2 (by decide) ?_
  refine xafti (rv := (f_X7_in p1 (0) (10))) (W2 := [((x 0), .inr (7, o7 x u_this)), ((x 2), .inl (T.1, 22, .inl u_this_told))]) (va_runS (As := [.int p1, .int (0), .int (10)]) (rest := []) ⟨hx, hb, hml, hown, hts⟩ (c_X7_in (rv := (f_X7_in p1 (0) (10))) l D T p1 (0) (10) rfl) (cwS 3 hts gX7_told_X7_in rfl rfl rfl (by decide +kernel) ⟨Nat.le_of_ble_eq_true rfl, Nat.le_of_ble_eq_true rfl⟩) (xpvs hP hD hK [] (by decide) rfl (fun _ _ _ => trivial) (fun _ _ _ _ _ _ => trivial)) rfl rfl hl.1 rfl (lv_room (Nat.le_of_ble_eq_true rfl)) dX7_told_4 ⟨Nat.le_of_ble_eq_true rfl, Nat.le_of_ble_eq_true rfl⟩) hP hD hS hA [] rfl rfl rfl rfl (fun H locs hP hD hS => ?_)
  refine lv_if_eq (tgt := 19) hx hb dX7_told_7 (by decide) (fun c1 => ?_) (fun c1 => ?_)
  · have hM := xit c1 hM
    refine lv_iconst (v := (-1)) hx hb dX7_told_19 (by decide) ?_
    obtain rfl := Option.some.inj hM
    exact xreti hx hb hr hlocks hP hK hD hS dX7_told_20 rfl
  · have hM := xif c1 hM
    refine lv_aload_n hx hb dX7_told_10 rfl (lv_at hl 0 rfl) ?_
    refine va_get (D := D) (ci := 7) (v := .ref (x 2)) (C := RX7) (T := TX7) (N := 30) hx hb hts (fun w h => List.mem_cons_of_mem _ (List.mem_append_right _ h)) hown hK hP 0 rfl rfl 3 (by decide) (hts _ (List.mem_of_getElem? (i := 1) rfl)) (fun _ h9 => h9) rfl dX7_told_11 ?_
    refine lv_iload_n hx hb dX7_told_14 rfl (lv_at hl 1 rfl) ?_
    obtain ⟨g2, hM⟩ := xck hM
    refine xald (v := (u_this_told p1.toNatClampNeg)) hx hb hK hP 1 0 rfl rfl g2 rfl dX7_told_15 ?_
    refine lv_goto (tgt := 20) hx hb dX7_told_16 (by decide) ?_
    obtain rfl := Option.some.inj hM
    exact xreti hx hb hr hlocks hP hK hD hS dX7_told_20 rfl
def s_X7_takeNow_6 (u_this_nows : (Nat → Int32)) (v2 : Int32 × (Nat → Int32)) : Option ((Int32 × (Nat → Int32)) ⊕ (Int32 × (Nat → Int32))) :=
  if (7) ≤ v2.1 then
   (some (.inr (v2.1, v2.2)))
  else
   (if xin v2.1 21 = true then
    (if xin v2.1 7 = true then
     (some (.inl (v2.1 + 1, (upd v2.2 v2.1.toNatClampNeg (u_this_nows v2.1.toNatClampNeg)))))
     else none)
    else none)
def f_X7_takeNow (N : Nat) (u_this : K7) (u_this_told : (Nat → Int32)) (u_this_par : (Nat → Int32)) (u_this_try0 : (Nat → Int32)) (u_this_nows : (Nat → Int32)) : Option ((Nat → Int32) × (Nat → Int32)) :=
  (f_X7_takeTold N u_this u_this_told u_this_par).bind fun r1 =>
  (xlp (s_X7_takeNow_6 u_this_nows) N (0, u_this_try0)).bind fun v6 =>
  some (r1, v6.2)
set_option maxHeartbeats 4000000 in
set_option maxRecDepth 100000 in
theorem c_X7_takeNow (l : Launch) (D : va_G) (T : xT) (x : Nat → Nat) {sz : Nat} {N : Nat} (u_this : K7) (u_this_told : (Nat → Int32)) (u_this_par : (Nat → Int32)) (u_this_try0 : (Nat → Int32)) (u_this_nows : (Nat → Int32)) {rv : (Nat → Int32) × (Nat → Int32)} (hM : f_X7_takeNow N u_this u_this_told u_this_par u_this_try0 u_this_nows = some rv) : Met l yX7_takeNow wsX7_takeNow ({ frames := 1, cells := 0, slots := 0, locals := 21 } : Room) (va_Pc [.ref (x 0)] (xPre D T [((x 0), .inr (7, o7 x u_this)), ((x 2), .inl (T.1, 22, .inl u_this_told)), ((x 3), .inl (T.1, 11, .inl u_this_par)), ((x 4), .inl (T.1, 7, .inl u_this_try0)), ((x 5), .inl (T.1, 21, .inl u_this_nows))] sz xE0)) (va_Qv (fun (_ : Unit) => True) (fun _ => xPost D T [((x 0), .inr (7, o7 x u_this)), ((x 2), .inl (T.1, 22, .inl u_this_told)), ((x 3), .inl (T.1, 11, .inl rv.1)), ((x 4), .inl (T.1, 7, .inl rv.2)), ((x 5), .inl (T.1, 21, .inl u_this_nows))] (va_A [((x 0), .inr (7, o7 x u_this)), ((x 2), .inl (T.1, 22, .inl u_this_told)), ((x 3), .inl (T.1, 11, .inl u_this_par)), ((x 4), .inl (T.1, 7, .inl u_this_try0)), ((x 5), .inl (T.1, 21, .inl u_this_nows))] sz)) (va_A [((x 0), .inr (7, o7 x u_this)), ((x 2), .inl (T.1, 22, .inl u_this_told)), ((x 3), .inl (T.1, 11, .inl u_this_par)), ((x 4), .inl (T.1, 7, .inl u_this_try0)), ((x 5), .inl (T.1, 21, .inl u_this_nows))] sz)) 0 0 (va_A [((x 0), .inr (7, o7 x u_this)), ((x 2), .inl (T.1, 22, .inl u_this_told)), ((x 3), .inl (T.1, 11, .inl u_this_par)), ((x 4), .inl (T.1, 7, .inl u_this_try0)), ((x 5), .inl (T.1, 21, .inl u_this_nows))] sz) := by
  refine xMet (av := [.ref (x 0)]) (Wd := [((x 0), .inr (7, o7 x u_this)), ((x 2), .inl (T.1, 22, .inl u_this_told)), ((x 3), .inl (T.1, 11, .inl u_this_par)), ((x 4), .inl (T.1, 7, .inl u_this_try0)), ((x 5), .inl (T.1, 21, .inl u_this_nows))]) (E := xE0) (Qc := fun A => (va_Qv (fun (_ : Unit) => True) (fun _ => xPost D T [((x 0), .inr (7, o7 x u_this)), ((x 2), .inl (T.1, 22, .inl u_this_told)), ((x 3), .inl (T.1, 11, .inl rv.1)), ((x 4), .inl (T.1, 7, .inl rv.2)), ((x 5), .inl (T.1, 21, .inl u_this_nows))] A) A)) (cc := cX7_takeNow) (maxL := 2) (ret := none) (by decide) rfl (Nat.le_of_ble_eq_true rfl) ?_
  intro p e s m below meth c A ls hx hb hr hml hts hown hlocks hnm hP hK hD hS hA hE hl
  have hown : s.vm.findClass RX7 = some m.cls := hown
  have hl : lv_has ls 2 [(0, .ref (x 0))] := hl
  unfold f_X7_takeNow at hM
  refine lv_aload_n hx hb dX7_takeNow_0 rfl (lv_at hl 0 rfl) ?_
  obtain ⟨r1, er1, hM⟩ := xbd hM
  refine xaftv (W2 := [((x 0), .inr (7, o7 x u_this)), ((x 2), .inl (T.1, 22, .inl u_this_told)), ((x 3), .inl (T.1, 11, .inl r1)), ((x 4), .inl (T.1, 7, .inl u_this_try0)), ((x 5), .inl (T.1, 21, .inl u_this_nows))]) (va_runV (As := []) (rest := []) ⟨hx, hb, hml, hown, hts⟩ (c_X7_takeTold l D T x u_this u_this_told u_this_par er1) (cwV 0 hts gX7_takeNow_X7_takeTold rfl rfl rfl (by decide +kernel) ⟨Nat.le_of_ble_eq_true rfl, Nat.le_of_ble_eq_true rfl⟩) (xpvv hP hD hK [0, 1, 2] (by decide) rfl 0 7 rfl rfl (fun _ _ _ => trivial) (fun _ _ _ _ _ _ => trivial)) rfl rfl hl.1 rfl (lv_room (Nat.le_of_ble_eq_true rfl)) dX7_takeNow_1 ⟨Nat.le_of_ble_eq_true rfl, Nat.le_of_ble_eq_true rfl⟩) hP hD hS hA [0, 1, 2] rfl rfl rfl rfl (fun H locs hP hD hS => ?_)
  refine lv_iconst (v := 0) hx hb dX7_takeNow_4 (by decide) ?_
  refine lv_istore_n (lv' := [(1, .int (0)), (0, .ref (x 0))]) hx hb dX7_takeNow_5 rfl hl (by decide) rfl (fun ls hl => ?_)
  obtain ⟨v6, hM, hNv6⟩ := xbd hM
  have hQv6 := hM
  have Kv6 : ∀ (H : Heap) (locs : List Loc) (ls : Array Slot), va_P D vwCl [((x 0), .inr (7, o7 x u_this)), ((x 2), .inl (T.1, 22, .inl u_this_told)), ((x 3), .inl (T.1, 11, .inl r1)), ((x 4), .inl (T.1, 7, .inl v6.2)), ((x 5), .inl (T.1, 21, .inl u_this_nows))] H → va_D A [((x 0), .inr (7, o7 x u_this)), ((x 2), .inl (T.1, 22, .inl u_this_told)), ((x 3), .inl (T.1, 11, .inl r1)), ((x 4), .inl (T.1, 7, .inl v6.2)), ((x 5), .inl (T.1, 21, .inl u_this_nows))] → va_S A s.heap H locs → lv_has ls 2 [] → W p l e ({ frames := 1, cells := 0, slots := 0, locals := 21 } : Room) s m ([.ref (x 0)] : List Value).toArray below meth c H locs 0 0 (MQ below (va_Qv (fun (_ : Unit) => True) (fun _ => xPost D T [((x 0), .inr (7, o7 x u_this)), ((x 2), .inl (T.1, 22, .inl u_this_told)), ((x 3), .inl (T.1, 11, .inl rv.1)), ((x 4), .inl (T.1, 7, .inl rv.2)), ((x 5), .inl (T.1, 21, .inl u_this_nows))] A) A) ([.ref (x 0)] : List Value).toArray s 0 0 A) (F0 m 30 ls []) := by
    intro H locs ls hP hD hS hl
    have hM := hNv6
    obtain rfl := Option.some.inj hM
    exact xretv hx hb hr hlocks hP hK hD hS dX7_takeNow_30
  have Lv2 : ∀ (n : Nat) (v2 : Int32 × (Nat → Int32)), xlp (s_X7_takeNow_6 u_this_nows) n v2 = some v6 → ∀ (H : Heap) (locs : List Loc) (ls : Array Slot), va_P D vwCl [((x 0), .inr (7, o7 x u_this)), ((x 2), .inl (T.1, 22, .inl u_this_told)), ((x 3), .inl (T.1, 11, .inl r1)), ((x 4), .inl (T.1, 7, .inl v2.2)), ((x 5), .inl (T.1, 21, .inl u_this_nows))] H → va_D A [((x 0), .inr (7, o7 x u_this)), ((x 2), .inl (T.1, 22, .inl u_this_told)), ((x 3), .inl (T.1, 11, .inl r1)), ((x 4), .inl (T.1, 7, .inl v2.2)), ((x 5), .inl (T.1, 21, .inl u_this_nows))] → va_S A s.heap H locs → lv_has ls 2 [(0, .ref (x 0)), (1, .int v2.1)] → W p l e ({ frames := 1, cells := 0, slots := 0, locals := 21 } : Room) s m ([.ref (x 0)] : List Value).toArray below meth c H locs 0 0 (MQ below (va_Qv (fun (_ : Unit) => True) (fun _ => xPost D T [((x 0), .inr (7, o7 x u_this)), ((x 2), .inl (T.1, 22, .inl u_this_told)), ((x 3), .inl (T.1, 11, .inl rv.1)), ((x 4), .inl (T.1, 7, .inl rv.2)), ((x 5), .inl (T.1, 21, .inl u_this_nows))] A) A) ([.ref (x 0)] : List Value).toArray s 0 0 A) (F0 m 6 ls []) := by
    intro n
    induction n with
    | zero => exact fun _ h => (xlp_0 h).elim
    | succ n ih =>
      intro v2 hM H locs ls hP hD hS hl
      obtain ⟨z, hM, hz1, hz2⟩ := xlp_s hM
      unfold s_X7_takeNow_6 at hM
      refine lv_iload_n hx hb dX7_takeNow_6 rfl (lv_at hl 1 rfl) ?_
      refine lv_bipush (v := 7) hx hb dX7_takeNow_7 (by decide) ?_
      refine lv_icmp_ge (tgt := 30) hx hb dX7_takeNow_9 (by decide) (fun c3 => ?_) (fun c3 => ?_)
      · have hM := xit c3 hM
        obtain rfl := hz2 _ (Option.some.inj hM).symm
        exact Kv6 _ _ _ hP hD hS (lv_sub hl [] rfl)
      · have hM := xif c3 hM
        refine lv_aload_n hx hb dX7_takeNow_12 rfl (lv_at hl 0 rfl) ?_
        refine va_get (D := D) (ci := 7) (v := .ref (x 4)) (C := RX7) (T := TX7) (N := 30) hx hb hts (fun w h => List.mem_cons_of_mem _ (List.mem_append_right _ h)) hown hK hP 0 rfl rfl 10 (by decide) (hts _ (List.mem_of_getElem? (i := 1) rfl)) (fun _ h9 => h9) rfl dX7_takeNow_13 ?_
        refine lv_iload_n hx hb dX7_takeNow_16 rfl (lv_at hl 1 rfl) ?_
        refine lv_aload_n hx hb dX7_takeNow_17 rfl (lv_at hl 0 rfl) ?_
        refine va_get (D := D) (ci := 7) (v := .ref (x 5)) (C := RX7) (T := TX7) (N := 30) hx hb hts (fun w h => List.mem_cons_of_mem _ (List.mem_append_right _ h)) hown hK hP 0 rfl rfl 11 (by decide) (hts _ (List.mem_of_getElem? (i := 2) rfl)) (fun _ h9 => h9) rfl dX7_takeNow_18 ?_
        refine lv_iload_n hx hb dX7_takeNow_21 rfl (lv_at hl 1 rfl) ?_
        obtain ⟨g4, hM⟩ := xck hM
        refine xald (v := (u_this_nows v2.1.toNatClampNeg)) hx hb hK hP 4 0 rfl rfl g4 rfl dX7_takeNow_22 ?_
        obtain ⟨g5, hM⟩ := xck hM
        refine xast hx hb hK hP hD hS 3 0 rfl rfl g5 rfl dX7_takeNow_23 (fun H locs hP hD hS => ?_)
        have hP : va_P D vwCl [((x 0), .inr (7, o7 x u_this)), ((x 2), .inl (T.1, 22, .inl u_this_told)), ((x 3), .inl (T.1, 11, .inl r1)), ((x 4), .inl (T.1, 7, .inl (upd v2.2 v2.1.toNatClampNeg (u_this_nows v2.1.toNatClampNeg)))), ((x 5), .inl (T.1, 21, .inl u_this_nows))] H := hP
        have hD : va_D A [((x 0), .inr (7, o7 x u_this)), ((x 2), .inl (T.1, 22, .inl u_this_told)), ((x 3), .inl (T.1, 11, .inl r1)), ((x 4), .inl (T.1, 7, .inl (upd v2.2 v2.1.toNatClampNeg (u_this_nows v2.1.toNatClampNeg)))), ((x 5), .inl (T.1, 21, .inl u_this_nows))] := hD
        refine lv_iinc (v := v2.1 + 1) (lv' := [(1, .int (v2.1 + 1)), (0, .ref (x 0))]) hx hb dX7_takeNow_24 hl (k := 1) rfl rfl (by decide) rfl (fun ls hl => ?_)
        refine lv_goto (tgt := 6) hx hb dX7_takeNow_27 (by decide) ?_
        exact ih _ (hz1 _ (Option.some.inj hM).symm) _ _ _ hP hD hS (lv_sub hl [1, 0] rfl)
  exact Lv2 _ _ hM _ _ _ hP hD hS (lv_sub hl [1, 0] rfl)
def f_X7_depth (u_this : K7) (u_this_par : (Nat → Int32)) (u_this_try0 : (Nat → Int32)) : Option (Int32) :=
  if (u_this_par 4) = 0 then none else
  (some (((10) * (u_this_par 2)) + ((u_this_try0 2) / (u_this_par 4))))
set_option maxHeartbeats 4000000 in
set_option maxRecDepth 100000 in
theorem c_X7_depth (l : Launch) (D : va_G) (T : xT) (x : Nat → Nat) {sz : Nat} (u_this : K7) (u_this_par : (Nat → Int32)) (u_this_try0 : (Nat → Int32)) {rv : Int32} (hM : f_X7_depth u_this u_this_par u_this_try0 = some rv) : Met l yX7_depth wsX7_depth ({ frames := 0, cells := 0, slots := 0, locals := 0 } : Room) (va_Pc [.ref (x 0)] (xPre D T [((x 0), .inr (7, o7 x u_this)), ((x 3), .inl (T.1, 11, .inl u_this_par)), ((x 4), .inl (T.1, 7, .inl u_this_try0))] sz xE0)) (va_Qi (fun (r : Int32) (_ : Unit) => r = rv) (fun _ => xPost D T [((x 0), .inr (7, o7 x u_this)), ((x 3), .inl (T.1, 11, .inl u_this_par)), ((x 4), .inl (T.1, 7, .inl u_this_try0))] (va_A [((x 0), .inr (7, o7 x u_this)), ((x 3), .inl (T.1, 11, .inl u_this_par)), ((x 4), .inl (T.1, 7, .inl u_this_try0))] sz)) (va_A [((x 0), .inr (7, o7 x u_this)), ((x 3), .inl (T.1, 11, .inl u_this_par)), ((x 4), .inl (T.1, 7, .inl u_this_try0))] sz)) 0 0 (va_A [((x 0), .inr (7, o7 x u_this)), ((x 3), .inl (T.1, 11, .inl u_this_par)), ((x 4), .inl (T.1, 7, .inl u_this_try0))] sz) := by
  refine xMet (av := [.ref (x 0)]) (Wd := [((x 0), .inr (7, o7 x u_this)), ((x 3), .inl (T.1, 11, .inl u_this_par)), ((x 4), .inl (T.1, 7, .inl u_this_try0))]) (E := xE0) (Qc := fun A => (va_Qi (fun (r : Int32) (_ : Unit) => r = rv) (fun _ => xPost D T [((x 0), .inr (7, o7 x u_this)), ((x 3), .inl (T.1, 11, .inl u_this_par)), ((x 4), .inl (T.1, 7, .inl u_this_try0))] A) A)) (cc := cX7_depth) (maxL := 1) (ret := (some .int)) (by decide) rfl (Nat.le_of_ble_eq_true rfl) ?_
  intro p e s m below meth c A ls hx hb hr hml hts hown hlocks hnm hP hK hD hS hA hE hl
  have hown : s.vm.findClass RX7 = some m.cls := hown
  have hl : lv_has ls 1 [(0, .ref (x 0))] := hl
  unfold f_X7_depth at hM
  refine lv_bipush (v := 10) hx hb dX7_depth_0 (by decide) ?_
  refine lv_aload_n hx hb dX7_depth_2 rfl (lv_at hl 0 rfl) ?_
  refine va_get (D := D) (ci := 7) (v := .ref (x 3)) (C := RX7) (T := TX7) (N := 30) hx hb hts (fun w h => List.mem_cons_of_mem _ (List.mem_append_right _ h)) hown hK hP 0 rfl rfl 9 (by decide) (hts _ (List.mem_of_getElem? (i := 1) rfl)) (fun _ h9 => h9) rfl dX7_depth_3 ?_
  refine lv_iconst (v := 2) hx hb dX7_depth_6 (by decide) ?_
  refine xald (v := (u_this_par 2)) hx hb hK hP 1 0 rfl rfl (xin_vp (by decide)) (congrArg _ (show (2 : Int32).toNatClampNeg = 2 by decide)) dX7_depth_7 ?_
  refine lv_imul hx hb dX7_depth_8 ?_
  refine lv_aload_n hx hb dX7_depth_9 rfl (lv_at hl 0 rfl) ?_
  refine va_get (D := D) (ci := 7) (v := .ref (x 4)) (C := RX7) (T := TX7) (N := 30) hx hb hts (fun w h => List.mem_cons_of_mem _ (List.mem_append_right _ h)) hown hK hP 0 rfl rfl 10 (by decide) (hts _ (List.mem_of_getElem? (i := 2) rfl)) (fun _ h9 => h9) rfl dX7_depth_10 ?_
  refine lv_iconst (v := 2) hx hb dX7_depth_13 (by decide) ?_
  refine xald (v := (u_this_try0 2)) hx hb hK hP 2 0 rfl rfl (xin_vp (by decide)) (congrArg _ (show (2 : Int32).toNatClampNeg = 2 by decide)) dX7_depth_14 ?_
  refine lv_aload_n hx hb dX7_depth_15 rfl (lv_at hl 0 rfl) ?_
  refine va_get (D := D) (ci := 7) (v := .ref (x 3)) (C := RX7) (T := TX7) (N := 30) hx hb hts (fun w h => List.mem_cons_of_mem _ (List.mem_append_right _ h)) hown hK hP 0 rfl rfl 9 (by decide) (hts _ (List.mem_of_getElem? (i := 1) rfl)) (fun _ h9 => h9) rfl dX7_depth_16 ?_
  refine lv_iconst (v := 4) hx hb dX7_depth_19 (by decide) ?_
  refine xald (v := (u_this_par 4)) hx hb hK hP 1 0 rfl rfl (xin_vp (by decide)) (congrArg _ (show (4 : Int32).toNatClampNeg = 4 by decide)) dX7_depth_20 ?_
  obtain ⟨g1, hM⟩ := xnz hM
  refine lv_idiv hx hb dX7_depth_21 g1 ?_
  refine lv_iadd hx hb dX7_depth_22 ?_
  obtain rfl := Option.some.inj hM
  exact xreti hx hb hr hlocks hP hK hD hS dX7_depth_23 rfl
def f_X7_lift (u_this : K7) (u_this_par : (Nat → Int32)) : Int32 :=
  (((340) - (u_this_par 9)) - (u_this_par 10))
set_option maxHeartbeats 4000000 in
set_option maxRecDepth 100000 in
theorem c_X7_lift (l : Launch) (D : va_G) (T : xT) (x : Nat → Nat) {sz : Nat} (u_this : K7) (u_this_par : (Nat → Int32)) {rv : Int32} (hM : f_X7_lift u_this u_this_par = rv) : Met l yX7_lift wsX7_lift ({ frames := 0, cells := 0, slots := 0, locals := 0 } : Room) (va_Pc [.ref (x 0)] (xPre D T [((x 0), .inr (7, o7 x u_this)), ((x 3), .inl (T.1, 11, .inl u_this_par))] sz xE0)) (va_Qi (fun (r : Int32) (_ : Unit) => r = rv) (fun _ => xPost D T [((x 0), .inr (7, o7 x u_this)), ((x 3), .inl (T.1, 11, .inl u_this_par))] (va_A [((x 0), .inr (7, o7 x u_this)), ((x 3), .inl (T.1, 11, .inl u_this_par))] sz)) (va_A [((x 0), .inr (7, o7 x u_this)), ((x 3), .inl (T.1, 11, .inl u_this_par))] sz)) 0 0 (va_A [((x 0), .inr (7, o7 x u_this)), ((x 3), .inl (T.1, 11, .inl u_this_par))] sz) := by
  refine xMet (av := [.ref (x 0)]) (Wd := [((x 0), .inr (7, o7 x u_this)), ((x 3), .inl (T.1, 11, .inl u_this_par))]) (E := xE0) (Qc := fun A => (va_Qi (fun (r : Int32) (_ : Unit) => r = rv) (fun _ => xPost D T [((x 0), .inr (7, o7 x u_this)), ((x 3), .inl (T.1, 11, .inl u_this_par))] A) A)) (cc := cX7_lift) (maxL := 1) (ret := (some .int)) (by decide) rfl (Nat.le_of_ble_eq_true rfl) ?_
  intro p e s m below meth c A ls hx hb hr hml hts hown hlocks hnm hP hK hD hS hA hE hl
  have hown : s.vm.findClass RX7 = some m.cls := hown
  have hl : lv_has ls 1 [(0, .ref (x 0))] := hl
  unfold f_X7_lift at hM
  refine lv_sipush (v := 340) hx hb dX7_lift_0 (by decide) ?_
  refine lv_aload_n hx hb dX7_lift_3 rfl (lv_at hl 0 rfl) ?_
  refine va_get (D := D) (ci := 7) (v := .ref (x 3)) (C := RX7) (T := TX7) (N := 30) hx hb hts (fun w h => List.mem_cons_of_mem _ (List.mem_append_right _ h)) hown hK hP 0 rfl rfl 9 (by decide) (hts _ (List.mem_of_getElem? (i := 1) rfl)) (fun _ h9 => h9) rfl dX7_lift_4 ?_
  refine lv_bipush (v := 9) hx hb dX7_lift_7 (by decide) ?_
  refine xald (v := (u_this_par 9)) hx hb hK hP 1 0 rfl rfl (xin_vp (by decide)) (congrArg _ (show (9 : Int32).toNatClampNeg = 9 by decide)) dX7_lift_9 ?_
  refine lv_isub hx hb dX7_lift_10 ?_
  refine lv_aload_n hx hb dX7_lift_11 rfl (lv_at hl 0 rfl) ?_
  refine va_get (D := D) (ci := 7) (v := .ref (x 3)) (C := RX7) (T := TX7) (N := 30) hx hb hts (fun w h => List.mem_cons_of_mem _ (List.mem_append_right _ h)) hown hK hP 0 rfl rfl 9 (by decide) (hts _ (List.mem_of_getElem? (i := 1) rfl)) (fun _ h9 => h9) rfl dX7_lift_12 ?_
  refine lv_bipush (v := 10) hx hb dX7_lift_15 (by decide) ?_
  refine xald (v := (u_this_par 10)) hx hb hK hP 1 0 rfl rfl (xin_vp (by decide)) (congrArg _ (show (10 : Int32).toNatClampNeg = 10 by decide)) dX7_lift_17 ?_
  refine lv_isub hx hb dX7_lift_18 ?_
  obtain rfl := hM
  exact xreti hx hb hr hlocks hP hK hD hS dX7_lift_19 rfl
