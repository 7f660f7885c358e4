/-! laid by wip/whole/gen.py out of the decode rows: functional readings and contracts -/
def s_X7_goDay_33 (u_this : K7) (p1 : Int32) (r1 : (Nat → Int32)) (v3 : Int32 × Int32 × Int32 × (Nat → Int32)) (v5 : Int32 × Int32 × (Nat → Int32)) : Option ((Int32 × Int32 × (Nat → Int32)) ⊕ (Int32 × Int32 × (Nat → Int32))) :=
  if p1 ≤ v5.1 then
   (some (.inr (v5.1, v5.2.1, v5.2.2)))
  else
   ((f_X7_stroke (u_this.1, u_this.2.1, u_this.2.2.1, u_this.2.2.2.1, u_this.2.2.2.2.1, u_this.2.2.2.2.2.1, u_this.2.2.2.2.2.2.1, u_this.2.2.2.2.2.2.2.1, v5.2.1, v3.2.2.1, u_this.2.2.2.2.2.2.2.2.2.2.1, u_this.2.2.2.2.2.2.2.2.2.2.2) r1 v5.2.2).bind fun r7 =>
    some (.inl (v5.1 + 1, (v5.2.1 + r7.1), r7.2)))
def s_X7_goDay_61 (u_this : K7) (p2 : Int32) (r1 : (Nat → Int32)) (v8 : Int32 × Int32 × (Nat → Int32)) (v9 : Int32 × Int32 × (Nat → Int32)) : Option ((Int32 × Int32 × (Nat → Int32)) ⊕ (Int32 × Int32 × (Nat → Int32))) :=
  if p2 ≤ v9.1 then
   (some (.inr (v9.1, v9.2.1, v9.2.2)))
  else
   ((f_X7_stroke (u_this.1, u_this.2.1, u_this.2.2.1, u_this.2.2.2.1, u_this.2.2.2.2.1, u_this.2.2.2.2.2.1, u_this.2.2.2.2.2.2.1, u_this.2.2.2.2.2.2.2.1, v8.2.1, v9.2.1, u_this.2.2.2.2.2.2.2.2.2.2.1, u_this.2.2.2.2.2.2.2.2.2.2.2) r1 v9.2.2).bind fun r11 =>
    some (.inl (v9.1 + 1, (v9.2.1 + r11.1), r11.2)))
def s_X7_goDay_24 (N : Nat) (u_this : K7) (p1 : Int32) (p2 : Int32) (p3 : Int32) (r1 : (Nat → Int32)) (v3 : Int32 × Int32 × Int32 × (Nat → Int32)) : Option ((Int32 × Int32 × Int32 × (Nat → Int32)) ⊕ (Int32 × Int32 × Int32 × (Nat → Int32))) :=
  if p3 ≤ v3.1 then
   (some (.inr (v3.1, v3.2.1, v3.2.2.1, v3.2.2.2)))
  else
   ((xlp (s_X7_goDay_33 u_this p1 r1 v3) N (0, v3.2.1, v3.2.2.2)).bind fun v8 =>
    (xlp (s_X7_goDay_61 u_this p2 r1 v8) N (0, v3.2.2.1, v8.2.2)).bind fun v12 =>
    (f_X7_goHour (u_this.1, u_this.2.1, u_this.2.2.1, u_this.2.2.2.1, u_this.2.2.2.2.1, u_this.2.2.2.2.2.1, u_this.2.2.2.2.2.2.1, u_this.2.2.2.2.2.2.2.1, v8.2.1, v12.2.1, u_this.2.2.2.2.2.2.2.2.2.2.1, u_this.2.2.2.2.2.2.2.2.2.2.2) r1 v12.2.2).bind fun r13 =>
    some (.inl (v3.1 + 1, v8.2.1, v12.2.1, r13)))
def f_X7_goDay (N : Nat) (u_this : K7) (u_this_told : (Nat → Int32)) (u_this_par : (Nat → Int32)) (u_this_try0 : (Nat → Int32)) (p1 : Int32) (p2 : Int32) (p3 : Int32) : Option (K7 × (Nat → Int32) × (Nat → Int32)) :=
  (f_X7_takeTold N u_this u_this_told u_this_par).bind fun r1 =>
  (f_X7_begin N u_this u_this_try0 (0) (100)).bind fun r2 =>
  (xlp (s_X7_goDay_24 N u_this p1 p2 p3 r1) N (0, 0, 0, r2)).bind fun v14 =>
  some ((u_this.1, u_this.2.1, u_this.2.2.1, u_this.2.2.2.1, u_this.2.2.2.2.1, u_this.2.2.2.2.2.1, u_this.2.2.2.2.2.2.1, u_this.2.2.2.2.2.2.2.1, v14.2.1, v14.2.2.1, u_this.2.2.2.2.2.2.2.2.2.2.1, u_this.2.2.2.2.2.2.2.2.2.2.2), r1, v14.2.2.2)
set_option maxHeartbeats 4000000 in
set_option maxRecDepth 100000 in
theorem c_X7_goDay (l : Launch) (D : va_G) (T : xT) (x : Nat → Nat) {sz : Nat} {N : Nat} (u_this : K7) (u_this_told : (Nat → Int32)) (u_this_par : (Nat → Int32)) (u_this_try0 : (Nat → Int32)) (p1 : Int32) (p2 : Int32) (p3 : Int32) {rv : K7 × (Nat → Int32) × (Nat → Int32)} (hM : f_X7_goDay N u_this u_this_told u_this_par u_this_try0 p1 p2 p3 = some rv) : Met l yX7_goDay wsX7_goDay ({ frames := 4, cells := 0, slots := 0, locals := 87 } : Room) (va_Pc [.ref (x 0), .int p1, .int p2, .int p3] (xPre D T [((x 0), .inr (7, o7 x u_this)), ((x 2), .inl (T.1, 22, .inl u_this_told)), ((x 3), .inl (T.1, 11, .inl u_this_par)), ((x 4), .inl (T.1, 7, .inl u_this_try0))] sz xE0)) (va_Qv (fun (_ : Unit) => True) (fun _ => xPost D T [((x 0), .inr (7, o7 x rv.1)), ((x 2), .inl (T.1, 22, .inl u_this_told)), ((x 3), .inl (T.1, 11, .inl rv.2.1)), ((x 4), .inl (T.1, 7, .inl rv.2.2))] (va_A [((x 0), .inr (7, o7 x u_this)), ((x 2), .inl (T.1, 22, .inl u_this_told)), ((x 3), .inl (T.1, 11, .inl u_this_par)), ((x 4), .inl (T.1, 7, .inl u_this_try0))] sz)) (va_A [((x 0), .inr (7, o7 x u_this)), ((x 2), .inl (T.1, 22, .inl u_this_told)), ((x 3), .inl (T.1, 11, .inl u_this_par)), ((x 4), .inl (T.1, 7, .inl u_this_try0))] sz)) 0 0 (va_A [((x 0), .inr (7, o7 x u_this)), ((x 2), .inl (T.1, 22, .inl u_this_told)), ((x 3), .inl (T.1, 11, .inl u_this_par)), ((x 4), .inl (T.1, 7, .inl u_this_try0))] sz) := by
  refine xMet (av := [.ref (x 0), .int p1, .int p2, .int p3]) (Wd := [((x 0), .inr (7, o7 x u_this)), ((x 2), .inl (T.1, 22, .inl u_this_told)), ((x 3), .inl (T.1, 11, .inl u_this_par)), ((x 4), .inl (T.1, 7, .inl u_this_try0))]) (E := xE0) (Qc := fun A => (va_Qv (fun (_ : Unit) => True) (fun _ => xPost D T [((x 0), .inr (7, o7 x rv.1)), ((x 2), .inl (T.1, 22, .inl u_this_told)), ((x 3), .inl (T.1, 11, .inl rv.2.1)), ((x 4), .inl (T.1, 7, .inl rv.2.2))] A) A)) (cc := cX7_goDay) (maxL := 6) (ret := none) (by decide) rfl (Nat.le_of_ble_eq_true rfl) ?_
  intro p e s m below meth c A ls hx hb hr hml hts hown hlocks hnm hP hK hD hS hA hE hl
  have hown : s.vm.findClass RX7 = some m.cls := hown
  have hl : lv_has ls 6 [(0, .ref (x 0)), (1, .int p1), (2, .int p2), (3, .int p3)] := hl
  unfold f_X7_goDay at hM
  refine lv_aload_n hx hb dX7_goDay_0 rfl (lv_at hl 0 rfl) ?_
  obtain ⟨r1, er1, hM⟩ := xbd hM
  refine xaftv (W2 := [((x 0), .inr (7, o7 x u_this)), ((x 2), .inl (T.1, 22, .inl u_this_told)), ((x 3), .inl (T.1, 11, .inl r1)), ((x 4), .inl (T.1, 7, .inl u_this_try0))]) (va_runV (As := []) (rest := []) ⟨hx, hb, hml, hown, hts⟩ (c_X7_takeTold l D T x u_this u_this_told u_this_par er1) (cwV 0 hts gX7_goDay_X7_takeTold rfl rfl rfl (by decide +kernel) ⟨Nat.le_of_ble_eq_true rfl, Nat.le_of_ble_eq_true rfl⟩) (xpvv hP hD hK [0, 1, 2] (by decide) rfl 0 7 rfl rfl (fun _ _ _ => trivial) (fun _ _ _ _ _ _ => trivial)) rfl rfl hl.1 rfl (lv_room (Nat.le_of_ble_eq_true rfl)) dX7_goDay_1 ⟨Nat.le_of_ble_eq_true rfl, Nat.le_of_ble_eq_true rfl⟩) hP hD hS hA [0, 1, 2] rfl rfl rfl rfl (fun H locs hP hD hS => ?_)
  refine lv_aload_n hx hb dX7_goDay_4 rfl (lv_at hl 0 rfl) ?_
  refine lv_iconst (v := 0) hx hb dX7_goDay_5 (by decide) ?_
  refine lv_bipush (v := 100) hx hb dX7_goDay_6 (by decide) ?_
  obtain ⟨r2, er2, hM⟩ := xbd hM
  refine xaftv (W2 := [((x 0), .inr (7, o7 x u_this)), ((x 2), .inl (T.1, 22, .inl u_this_told)), ((x 3), .inl (T.1, 11, .inl r1)), ((x 4), .inl (T.1, 7, .inl r2))]) (va_runV (As := [.int (0), .int (100)]) (rest := []) ⟨hx, hb, hml, hown, hts⟩ (c_X7_begin l D T x u_this u_this_try0 (0) (100) er2) (cwV 2 hts gX7_goDay_X7_begin rfl rfl rfl (by decide +kernel) ⟨Nat.le_of_ble_eq_true rfl, Nat.le_of_ble_eq_true rfl⟩) (xpvv hP hD hK [0, 3] (by decide) rfl 0 7 rfl rfl (fun _ _ _ => trivial) (fun _ _ _ _ _ _ => trivial)) rfl rfl hl.1 rfl (lv_room (Nat.le_of_ble_eq_true rfl)) dX7_goDay_8 ⟨Nat.le_of_ble_eq_true rfl, Nat.le_of_ble_eq_true rfl⟩) hP hD hS hA [0, 3] rfl rfl rfl rfl (fun H locs hP hD hS => ?_)
  refine lv_aload_n hx hb dX7_goDay_11 rfl (lv_at hl 0 rfl) ?_
  refine lv_iconst (v := 0) hx hb dX7_goDay_12 (by decide) ?_
  refine va_put (D := D) (ci := 7) (v := .int (0)) (C := RX7) (T := TX7) (N := 30) hx hb hts (fun w h => List.mem_cons_of_mem _ (List.mem_append_right _ h)) tyX7 tyX7_ok nmX7 hown hK hP hD hS 0 rfl rfl 19 (by decide) (hts _ (List.mem_of_getElem? (i := 1) rfl)) (fun _ h9 => h9) rfl (tyX7_ok 19 (by decide)) rfl rfl (Nat.le_of_ble_eq_true rfl) dX7_goDay_13 (fun H locs hP hD hS => ?_)
  have hP : va_P D vwCl [((x 0), .inr (7, o7 x (u_this.1, u_this.2.1, u_this.2.2.1, u_this.2.2.2.1, u_this.2.2.2.2.1, u_this.2.2.2.2.2.1, u_this.2.2.2.2.2.2.1, u_this.2.2.2.2.2.2.2.1, 0, u_this.2.2.2.2.2.2.2.2.2.1, u_this.2.2.2.2.2.2.2.2.2.2.1, u_this.2.2.2.2.2.2.2.2.2.2.2))), ((x 2), .inl (T.1, 22, .inl u_this_told)), ((x 3), .inl (T.1, 11, .inl r1)), ((x 4), .inl (T.1, 7, .inl r2))] H := hP
  have hD : va_D A [((x 0), .inr (7, o7 x (u_this.1, u_this.2.1, u_this.2.2.1, u_this.2.2.2.1, u_this.2.2.2.2.1, u_this.2.2.2.2.2.1, u_this.2.2.2.2.2.2.1, u_this.2.2.2.2.2.2.2.1, 0, u_this.2.2.2.2.2.2.2.2.2.1, u_this.2.2.2.2.2.2.2.2.2.2.1, u_this.2.2.2.2.2.2.2.2.2.2.2))), ((x 2), .inl (T.1, 22, .inl u_this_told)), ((x 3), .inl (T.1, 11, .inl r1)), ((x 4), .inl (T.1, 7, .inl r2))] := hD
  refine lv_aload_n hx hb dX7_goDay_16 rfl (lv_at hl 0 rfl) ?_
  refine lv_iconst (v := 0) hx hb dX7_goDay_17 (by decide) ?_
  refine va_put (D := D) (ci := 7) (v := .int (0)) (C := RX7) (T := TX7) (N := 30) hx hb hts (fun w h => List.mem_cons_of_mem _ (List.mem_append_right _ h)) tyX7 tyX7_ok nmX7 hown hK hP hD hS 0 rfl rfl 20 (by decide) (hts _ (List.mem_of_getElem? (i := 2) rfl)) (fun _ h9 => h9) rfl (tyX7_ok 20 (by decide)) rfl rfl (Nat.le_of_ble_eq_true rfl) dX7_goDay_18 (fun H locs hP hD hS => ?_)
  have hP : va_P D vwCl [((x 0), .inr (7, o7 x (u_this.1, u_this.2.1, u_this.2.2.1, u_this.2.2.2.1, u_this.2.2.2.2.1, u_this.2.2.2.2.2.1, u_this.2.2.2.2.2.2.1, u_this.2.2.2.2.2.2.2.1, 0, 0, u_this.2.2.2.2.2.2.2.2.2.2.1, u_this.2.2.2.2.2.2.2.2.2.2.2))), ((x 2), .inl (T.1, 22, .inl u_this_told)), ((x 3), .inl (T.1, 11, .inl r1)), ((x 4), .inl (T.1, 7, .inl r2))] H := hP
  have hD : va_D A [((x 0), .inr (7, o7 x (u_this.1, u_this.2.1, u_this.2.2.1, u_this.2.2.2.1, u_this.2.2.2.2.1, u_this.2.2.2.2.2.1, u_this.2.2.2.2.2.2.1, u_this.2.2.2.2.2.2.2.1, 0, 0, u_this.2.2.2.2.2.2.2.2.2.2.1, u_this.2.2.2.2.2.2.2.2.2.2.2))), ((x 2), .inl (T.1, 22, .inl u_this_told)), ((x 3), .inl (T.1, 11, .inl r1)), ((x 4), .inl (T.1, 7, .inl r2))] := hD
  refine lv_iconst (v := 0) hx hb dX7_goDay_21 (by decide) ?_
  refine lv_istore (lv' := [(4, .int (0)), (0, .ref (x 0)), (1, .int p1), (2, .int p2), (3, .int p3)]) hx hb dX7_goDay_22 hl (by decide) rfl (fun ls hl => ?_)
  obtain ⟨v14, hM, hNv14⟩ := xbd hM
  have hQv14 := hM
  have Kv14 : ∀ (H : Heap) (locs : List Loc) (ls : Array Slot), va_P D vwCl [((x 0), .inr (7, o7 x (u_this.1, u_this.2.1, u_this.2.2.1, u_this.2.2.2.1, u_this.2.2.2.2.1, u_this.2.2.2.2.2.1, u_this.2.2.2.2.2.2.1, u_this.2.2.2.2.2.2.2.1, v14.2.1, v14.2.2.1, u_this.2.2.2.2.2.2.2.2.2.2.1, u_this.2.2.2.2.2.2.2.2.2.2.2))), ((x 2), .inl (T.1, 22, .inl u_this_told)), ((x 3), .inl (T.1, 11, .inl r1)), ((x 4), .inl (T.1, 7, .inl v14.2.2.2))] H → va_D A [((x 0), .inr (7, o7 x (u_this.1, u_this.2.1, u_this.2.2.1, u_this.2.2.2.1, u_this.2.2.2.2.1, u_this.2.2.2.2.2.1, u_this.2.2.2.2.2.2.1, u_this.2.2.2.2.2.2.2.1, v14.2.1, v14.2.2.1, u_this.2.2.2.2.2.2.2.2.2.2.1, u_this.2.2.2.2.2.2.2.2.2.2.2))), ((x 2), .inl (T.1, 22, .inl u_this_told)), ((x 3), .inl (T.1, 11, .inl r1)), ((x 4), .inl (T.1, 7, .inl v14.2.2.2))] → va_S A s.heap H locs → lv_has ls 6 [] → W p l e ({ frames := 4, cells := 0, slots := 0, locals := 87 } : Room) s m ([.ref (x 0), .int p1, .int p2, .int p3] : List Value).toArray below meth c H locs 0 0 (MQ below (va_Qv (fun (_ : Unit) => True) (fun _ => xPost D T [((x 0), .inr (7, o7 x rv.1)), ((x 2), .inl (T.1, 22, .inl u_this_told)), ((x 3), .inl (T.1, 11, .inl rv.2.1)), ((x 4), .inl (T.1, 7, .inl rv.2.2))] A) A) ([.ref (x 0), .int p1, .int p2, .int p3] : List Value).toArray s 0 0 A) (F0 m 96 ls []) := by
    intro H locs ls hP hD hS hl
    have hM := hNv14
    obtain rfl := Option.some.inj hM
    exact xretv hx hb hr hlocks hP hK hD hS dX7_goDay_96
  have Lv3 : ∀ (n : Nat) (v3 : Int32 × Int32 × Int32 × (Nat → Int32)), xlp (s_X7_goDay_24 N u_this p1 p2 p3 r1) n v3 = some v14 → ∀ (H : Heap) (locs : List Loc) (ls : Array Slot), va_P D vwCl [((x 0), .inr (7, o7 x (u_this.1, u_this.2.1, u_this.2.2.1, u_this.2.2.2.1, u_this.2.2.2.2.1, u_this.2.2.2.2.2.1, u_this.2.2.2.2.2.2.1, u_this.2.2.2.2.2.2.2.1, v3.2.1, v3.2.2.1, u_this.2.2.2.2.2.2.2.2.2.2.1, u_this.2.2.2.2.2.2.2.2.2.2.2))), ((x 2), .inl (T.1, 22, .inl u_this_told)), ((x 3), .inl (T.1, 11, .inl r1)), ((x 4), .inl (T.1, 7, .inl v3.2.2.2))] H → va_D A [((x 0), .inr (7, o7 x (u_this.1, u_this.2.1, u_this.2.2.1, u_this.2.2.2.1, u_this.2.2.2.2.1, u_this.2.2.2.2.2.1, u_this.2.2.2.2.2.2.1, u_this.2.2.2.2.2.2.2.1, v3.2.1, v3.2.2.1, u_this.2.2.2.2.2.2.2.2.2.2.1, u_this.2.2.2.2.2.2.2.2.2.2.2))), ((x 2), .inl (T.1, 22, .inl u_this_told)), ((x 3), .inl (T.1, 11, .inl r1)), ((x 4), .inl (T.1, 7, .inl v3.2.2.2))] → va_S A s.heap H locs → lv_has ls 6 [(0, .ref (x 0)), (1, .int p1), (2, .int p2), (3, .int p3), (4, .int v3.1)] → W p l e ({ frames := 4, cells := 0, slots := 0, locals := 87 } : Room) s m ([.ref (x 0), .int p1, .int p2, .int p3] : List Value).toArray below meth c H locs 0 0 (MQ below (va_Qv (fun (_ : Unit) => True) (fun _ => xPost D T [((x 0), .inr (7, o7 x rv.1)), ((x 2), .inl (T.1, 22, .inl u_this_told)), ((x 3), .inl (T.1, 11, .inl rv.2.1)), ((x 4), .inl (T.1, 7, .inl rv.2.2))] A) A) ([.ref (x 0), .int p1, .int p2, .int p3] : List Value).toArray s 0 0 A) (F0 m 24 ls []) := by
    intro n
    induction n with
    | zero => exact fun _ h => (xlp_0 h).elim
    | succ n ih =>
      intro v3 hM H locs ls hP hD hS hl
      obtain ⟨z, hM, hz1, hz2⟩ := xlp_s hM
      unfold s_X7_goDay_24 at hM
      refine lv_iload hx hb dX7_goDay_24 (lv_at hl 4 rfl) ?_
      refine lv_iload_n hx hb dX7_goDay_26 rfl (lv_at hl 3 rfl) ?_
      refine lv_icmp_ge (tgt := 96) hx hb dX7_goDay_27 (by decide) (fun c4 => ?_) (fun c4 => ?_)
      · have hM := xit c4 hM
        obtain rfl := hz2 _ (Option.some.inj hM).symm
        exact Kv14 _ _ _ hP hD hS (lv_sub hl [] rfl)
      · have hM := xif c4 hM
        refine lv_iconst (v := 0) hx hb dX7_goDay_30 (by decide) ?_
        refine lv_istore (lv' := [(5, .int (0)), (0, .ref (x 0)), (1, .int p1), (2, .int p2), (3, .int p3), (4, .int v3.1)]) hx hb dX7_goDay_31 hl (by decide) rfl (fun ls hl => ?_)
        obtain ⟨v8, hM, hNv8⟩ := xbd hM
        have hQv8 := hM
        have Kv8 : ∀ (H : Heap) (locs : List Loc) (ls : Array Slot), va_P D vwCl [((x 0), .inr (7, o7 x (u_this.1, u_this.2.1, u_this.2.2.1, u_this.2.2.2.1, u_this.2.2.2.2.1, u_this.2.2.2.2.2.1, u_this.2.2.2.2.2.2.1, u_this.2.2.2.2.2.2.2.1, v8.2.1, v3.2.2.1, u_this.2.2.2.2.2.2.2.2.2.2.1, u_this.2.2.2.2.2.2.2.2.2.2.2))), ((x 2), .inl (T.1, 22, .inl u_this_told)), ((x 3), .inl (T.1, 11, .inl r1)), ((x 4), .inl (T.1, 7, .inl v8.2.2))] H → va_D A [((x 0), .inr (7, o7 x (u_this.1, u_this.2.1, u_this.2.2.1, u_this.2.2.2.1, u_this.2.2.2.2.1, u_this.2.2.2.2.2.1, u_this.2.2.2.2.2.2.1, u_this.2.2.2.2.2.2.2.1, v8.2.1, v3.2.2.1, u_this.2.2.2.2.2.2.2.2.2.2.1, u_this.2.2.2.2.2.2.2.2.2.2.2))), ((x 2), .inl (T.1, 22, .inl u_this_told)), ((x 3), .inl (T.1, 11, .inl r1)), ((x 4), .inl (T.1, 7, .inl v8.2.2))] → va_S A s.heap H locs → lv_has ls 6 [(0, .ref (x 0)), (1, .int p1), (2, .int p2), (3, .int p3), (4, .int v3.1)] → W p l e ({ frames := 4, cells := 0, slots := 0, locals := 87 } : Room) s m ([.ref (x 0), .int p1, .int p2, .int p3] : List Value).toArray below meth c H locs 0 0 (MQ below (va_Qv (fun (_ : Unit) => True) (fun _ => xPost D T [((x 0), .inr (7, o7 x rv.1)), ((x 2), .inl (T.1, 22, .inl u_this_told)), ((x 3), .inl (T.1, 11, .inl rv.2.1)), ((x 4), .inl (T.1, 7, .inl rv.2.2))] A) A) ([.ref (x 0), .int p1, .int p2, .int p3] : List Value).toArray s 0 0 A) (F0 m 58 ls []) := by
          intro H locs ls hP hD hS hl
          have hM := hNv8
          refine lv_iconst (v := 0) hx hb dX7_goDay_58 (by decide) ?_
          refine lv_istore (lv' := [(5, .int (0)), (0, .ref (x 0)), (1, .int p1), (2, .int p2), (3, .int p3), (4, .int v3.1)]) hx hb dX7_goDay_59 hl (by decide) rfl (fun ls hl => ?_)
          obtain ⟨v12, hM, hNv12⟩ := xbd hM
          have hQv12 := hM
          have Kv12 : ∀ (H : Heap) (locs : List Loc) (ls : Array Slot), va_P D vwCl [((x 0), .inr (7, o7 x (u_this.1, u_this.2.1, u_this.2.2.1, u_this.2.2.2.1, u_this.2.2.2.2.1, u_this.2.2.2.2.2.1, u_this.2.2.2.2.2.2.1, u_this.2.2.2.2.2.2.2.1, v8.2.1, v12.2.1, u_this.2.2.2.2.2.2.2.2.2.2.1, u_this.2.2.2.2.2.2.2.2.2.2.2))), ((x 2), .inl (T.1, 22, .inl u_this_told)), ((x 3), .inl (T.1, 11, .inl r1)), ((x 4), .inl (T.1, 7, .inl v12.2.2))] H → va_D A [((x 0), .inr (7, o7 x (u_this.1, u_this.2.1, u_this.2.2.1, u_this.2.2.2.1, u_this.2.2.2.2.1, u_this.2.2.2.2.2.1, u_this.2.2.2.2.2.2.1, u_this.2.2.2.2.2.2.2.1, v8.2.1, v12.2.1, u_this.2.2.2.2.2.2.2.2.2.2.1, u_this.2.2.2.2.2.2.2.2.2.2.2))), ((x 2), .inl (T.1, 22, .inl u_this_told)), ((x 3), .inl (T.1, 11, .inl r1)), ((x 4), .inl (T.1, 7, .inl v12.2.2))] → va_S A s.heap H locs → lv_has ls 6 [(0, .ref (x 0)), (1, .int p1), (2, .int p2), (3, .int p3), (4, .int v3.1)] → W p l e ({ frames := 4, cells := 0, slots := 0, locals := 87 } : Room) s m ([.ref (x 0), .int p1, .int p2, .int p3] : List Value).toArray below meth c H locs 0 0 (MQ below (va_Qv (fun (_ : Unit) => True) (fun _ => xPost D T [((x 0), .inr (7, o7 x rv.1)), ((x 2), .inl (T.1, 22, .inl u_this_told)), ((x 3), .inl (T.1, 11, .inl rv.2.1)), ((x 4), .inl (T.1, 7, .inl rv.2.2))] A) A) ([.ref (x 0), .int p1, .int p2, .int p3] : List Value).toArray s 0 0 A) (F0 m 86 ls []) := by
            intro H locs ls hP hD hS hl
            have hM := hNv12
            refine lv_aload_n hx hb dX7_goDay_86 rfl (lv_at hl 0 rfl) ?_
            obtain ⟨r13, er13, hM⟩ := xbd hM
            refine xaftv (W2 := [((x 0), .inr (7, o7 x (u_this.1, u_this.2.1, u_this.2.2.1, u_this.2.2.2.1, u_this.2.2.2.2.1, u_this.2.2.2.2.2.1, u_this.2.2.2.2.2.2.1, u_this.2.2.2.2.2.2.2.1, v8.2.1, v12.2.1, u_this.2.2.2.2.2.2.2.2.2.2.1, u_this.2.2.2.2.2.2.2.2.2.2.2))), ((x 2), .inl (T.1, 22, .inl u_this_told)), ((x 3), .inl (T.1, 11, .inl r1)), ((x 4), .inl (T.1, 7, .inl r13))]) (va_runV (As := []) (rest := []) ⟨hx, hb, hml, hown, hts⟩ (c_X7_goHour l D T x (u_this.1, u_this.2.1, u_this.2.2.1, u_this.2.2.2.1, u_this.2.2.2.2.1, u_this.2.2.2.2.2.1, u_this.2.2.2.2.2.2.1, u_this.2.2.2.2.2.2.2.1, v8.2.1, v12.2.1, u_this.2.2.2.2.2.2.2.2.2.2.1, u_this.2.2.2.2.2.2.2.2.2.2.2) r1 v12.2.2 er13) (cwV 0 hts gX7_goDay_X7_goHour rfl rfl rfl (by decide +kernel) ⟨Nat.le_of_ble_eq_true rfl, Nat.le_of_ble_eq_true rfl⟩) (xpvv hP hD hK [0, 2, 3] (by decide) rfl 0 7 rfl rfl (fun _ _ _ => trivial) (fun _ _ _ _ _ _ => trivial)) rfl rfl hl.1 rfl (lv_room (Nat.le_of_ble_eq_true rfl)) dX7_goDay_87 ⟨Nat.le_of_ble_eq_true rfl, Nat.le_of_ble_eq_true rfl⟩) hP hD hS hA [0, 2, 3] rfl rfl rfl rfl (fun H locs hP hD hS => ?_)
            refine lv_iinc (v := v3.1 + 1) (lv' := [(4, .int (v3.1 + 1)), (0, .ref (x 0)), (1, .int p1), (2, .int p2), (3, .int p3)]) hx hb dX7_goDay_90 hl (k := 4) rfl rfl (by decide) rfl (fun ls hl => ?_)
            refine lv_goto (tgt := 24) hx hb dX7_goDay_93 (by decide) ?_
            exact ih _ (hz1 _ (Option.some.inj hM).symm) _ _ _ hP hD hS (lv_sub hl [1, 2, 3, 4, 0] rfl)
          have Lv9 : ∀ (n : Nat) (v9 : Int32 × Int32 × (Nat → Int32)), xlp (s_X7_goDay_61 u_this p2 r1 v8) n v9 = some v12 → ∀ (H : Heap) (locs : List Loc) (ls : Array Slot), va_P D vwCl [((x 0), .inr (7, o7 x (u_this.1, u_this.2.1, u_this.2.2.1, u_this.2.2.2.1, u_this.2.2.2.2.1, u_this.2.2.2.2.2.1, u_this.2.2.2.2.2.2.1, u_this.2.2.2.2.2.2.2.1, v8.2.1, v9.2.1, u_this.2.2.2.2.2.2.2.2.2.2.1, u_this.2.2.2.2.2.2.2.2.2.2.2))), ((x 2), .inl (T.1, 22, .inl u_this_told)), ((x 3), .inl (T.1, 11, .inl r1)), ((x 4), .inl (T.1, 7, .inl v9.2.2))] H → va_D A [((x 0), .inr (7, o7 x (u_this.1, u_this.2.1, u_this.2.2.1, u_this.2.2.2.1, u_this.2.2.2.2.1, u_this.2.2.2.2.2.1, u_this.2.2.2.2.2.2.1, u_this.2.2.2.2.2.2.2.1, v8.2.1, v9.2.1, u_this.2.2.2.2.2.2.2.2.2.2.1, u_this.2.2.2.2.2.2.2.2.2.2.2))), ((x 2), .inl (T.1, 22, .inl u_this_told)), ((x 3), .inl (T.1, 11, .inl r1)), ((x 4), .inl (T.1, 7, .inl v9.2.2))] → va_S A s.heap H locs → lv_has ls 6 [(0, .ref (x 0)), (1, .int p1), (2, .int p2), (3, .int p3), (4, .int v3.1), (5, .int v9.1)] → W p l e ({ frames := 4, cells := 0, slots := 0, locals := 87 } : Room) s m ([.ref (x 0), .int p1, .int p2, .int p3] : List Value).toArray below meth c H locs 0 0 (MQ below (va_Qv (fun (_ : Unit) => True) (fun _ => xPost D T [((x 0), .inr (7, o7 x rv.1)), ((x 2), .inl (T.1, 22, .inl u_this_told)), ((x 3), .inl (T.1, 11, .inl rv.2.1)), ((x 4), .inl (T.1, 7, .inl rv.2.2))] A) A) ([.ref (x 0), .int p1, .int p2, .int p3] : List Value).toArray s 0 0 A) (F0 m 61 ls []) := by
            intro n
            induction n with
            | zero => exact fun _ h => (xlp_0 h).elim
            | succ n ih =>
              intro v9 hM H locs ls hP hD hS hl
              obtain ⟨z, hM, hz1, hz2⟩ := xlp_s hM
              unfold s_X7_goDay_61 at hM
              refine lv_iload hx hb dX7_goDay_61 (lv_at hl 5 rfl) ?_
              refine lv_iload_n hx hb dX7_goDay_63 rfl (lv_at hl 2 rfl) ?_
              refine lv_icmp_ge (tgt := 86) hx hb dX7_goDay_64 (by decide) (fun c10 => ?_) (fun c10 => ?_)
              · have hM := xit c10 hM
                obtain rfl := hz2 _ (Option.some.inj hM).symm
                exact Kv12 _ _ _ hP hD hS (lv_sub hl [0, 1, 2, 3, 4] rfl)
              · have hM := xif c10 hM
                refine lv_aload_n hx hb dX7_goDay_67 rfl (lv_at hl 0 rfl) ?_
                refine lv_dup hx hb dX7_goDay_68 rfl ?_
                refine va_get (D := D) (ci := 7) (v := .int v9.2.1) (C := RX7) (T := TX7) (N := 30) hx hb hts (fun w h => List.mem_cons_of_mem _ (List.mem_append_right _ h)) hown hK hP 0 rfl rfl 20 (by decide) (hts _ (List.mem_of_getElem? (i := 2) rfl)) (fun _ h9 => h9) rfl dX7_goDay_69 ?_
                refine lv_aload_n hx hb dX7_goDay_72 rfl (lv_at hl 0 rfl) ?_
                obtain ⟨r11, er11, hM⟩ := xbd hM
                refine xafti (rv := r11.1) (W2 := [((x 0), .inr (7, o7 x (u_this.1, u_this.2.1, u_this.2.2.1, u_this.2.2.2.1, u_this.2.2.2.2.1, u_this.2.2.2.2.2.1, u_this.2.2.2.2.2.2.1, u_this.2.2.2.2.2.2.2.1, v8.2.1, v9.2.1, u_this.2.2.2.2.2.2.2.2.2.2.1, u_this.2.2.2.2.2.2.2.2.2.2.2))), ((x 2), .inl (T.1, 22, .inl u_this_told)), ((x 3), .inl (T.1, 11, .inl r1)), ((x 4), .inl (T.1, 7, .inl r11.2))]) (va_runV (As := []) (rest := [.int v9.2.1, .ref (x 0)]) ⟨hx, hb, hml, hown, hts⟩ (c_X7_stroke l D T x (u_this.1, u_this.2.1, u_this.2.2.1, u_this.2.2.2.1, u_this.2.2.2.2.1, u_this.2.2.2.2.2.1, u_this.2.2.2.2.2.2.1, u_this.2.2.2.2.2.2.2.1, v8.2.1, v9.2.1, u_this.2.2.2.2.2.2.2.2.2.2.1, u_this.2.2.2.2.2.2.2.2.2.2.2) r1 v9.2.2 er11) (cwV 0 hts gX7_goDay_X7_stroke rfl rfl rfl (by decide +kernel) ⟨Nat.le_of_ble_eq_true rfl, Nat.le_of_ble_eq_true rfl⟩) (xpvv hP hD hK [0, 2, 3] (by decide) rfl 0 7 rfl rfl (fun _ _ _ => trivial) (fun _ _ _ _ _ _ => trivial)) rfl rfl hl.1 rfl (lv_room (Nat.le_of_ble_eq_true rfl)) dX7_goDay_73 ⟨Nat.le_of_ble_eq_true rfl, Nat.le_of_ble_eq_true rfl⟩) hP hD hS hA [0, 2, 3] rfl rfl rfl rfl (fun H locs hP hD hS => ?_)
                refine lv_iadd hx hb dX7_goDay_76 ?_
                refine va_put (D := D) (ci := 7) (v := .int (v9.2.1 + r11.1)) (C := RX7) (T := TX7) (N := 30) hx hb hts (fun w h => List.mem_cons_of_mem _ (List.mem_append_right _ h)) tyX7 tyX7_ok nmX7 hown hK hP hD hS 0 rfl rfl 20 (by decide) (hts _ (List.mem_of_getElem? (i := 2) rfl)) (fun _ h9 => h9) rfl (tyX7_ok 20 (by decide)) rfl rfl (Nat.le_of_ble_eq_true rfl) dX7_goDay_77 (fun H locs hP hD hS => ?_)
                have hP : va_P D vwCl [((x 0), .inr (7, o7 x (u_this.1, u_this.2.1, u_this.2.2.1, u_this.2.2.2.1, u_this.2.2.2.2.1, u_this.2.2.2.2.2.1, u_this.2.2.2.2.2.2.1, u_this.2.2.2.2.2.2.2.1, v8.2.1, (v9.2.1 + r11.1), u_this.2.2.2.2.2.2.2.2.2.2.1, u_this.2.2.2.2.2.2.2.2.2.2.2))), ((x 2), .inl (T.1, 22, .inl u_this_told)), ((x 3), .inl (T.1, 11, .inl r1)), ((x 4), .inl (T.1, 7, .inl r11.2))] H := hP
                have hD : va_D A [((x 0), .inr (7, o7 x (u_this.1, u_this.2.1, u_this.2.2.1, u_this.2.2.2.1, u_this.2.2.2.2.1, u_this.2.2.2.2.2.1, u_this.2.2.2.2.2.2.1, u_this.2.2.2.2.2.2.2.1, v8.2.1, (v9.2.1 + r11.1), u_this.2.2.2.2.2.2.2.2.2.2.1, u_this.2.2.2.2.2.2.2.2.2.2.2))), ((x 2), .inl (T.1, 22, .inl u_this_told)), ((x 3), .inl (T.1, 11, .inl r1)), ((x 4), .inl (T.1, 7, .inl r11.2))] := hD
                refine lv_iinc (v := v9.1 + 1) (lv' := [(5, .int (v9.1 + 1)), (0, .ref (x 0)), (1, .int p1), (2, .int p2), (3, .int p3), (4, .int v3.1)]) hx hb dX7_goDay_80 hl (k := 5) rfl rfl (by decide) rfl (fun ls hl => ?_)
                refine lv_goto (tgt := 61) hx hb dX7_goDay_83 (by decide) ?_
                exact ih _ (hz1 _ (Option.some.inj hM).symm) _ _ _ hP hD hS (lv_sub hl [1, 2, 3, 4, 5, 0] rfl)
          exact Lv9 _ _ hM _ _ _ hP hD hS (lv_sub hl [1, 2, 3, 4, 5, 0] rfl)
        have Lv5 : ∀ (n : Nat) (v5 : Int32 × Int32 × (Nat → Int32)), xlp (s_X7_goDay_33 u_this p1 r1 v3) n v5 = some v8 → ∀ (H : Heap) (locs : List Loc) (ls : Array Slot), va_P D vwCl [((x 0), .inr (7, o7 x (u_this.1, u_this.2.1, u_this.2.2.1, u_this.2.2.2.1, u_this.2.2.2.2.1, u_this.2.2.2.2.2.1, u_this.2.2.2.2.2.2.1, u_this.2.2.2.2.2.2.2.1, v5.2.1, v3.2.2.1, u_this.2.2.2.2.2.2.2.2.2.2.1, u_this.2.2.2.2.2.2.2.2.2.2.2))), ((x 2), .inl (T.1, 22, .inl u_this_told)), ((x 3), .inl (T.1, 11, .inl r1)), ((x 4), .inl (T.1, 7, .inl v5.2.2))] H → va_D A [((x 0), .inr (7, o7 x (u_this.1, u_this.2.1, u_this.2.2.1, u_this.2.2.2.1, u_this.2.2.2.2.1, u_this.2.2.2.2.2.1, u_this.2.2.2.2.2.2.1, u_this.2.2.2.2.2.2.2.1, v5.2.1, v3.2.2.1, u_this.2.2.2.2.2.2.2.2.2.2.1, u_this.2.2.2.2.2.2.2.2.2.2.2))), ((x 2), .inl (T.1, 22, .inl u_this_told)), ((x 3), .inl (T.1, 11, .inl r1)), ((x 4), .inl (T.1, 7, .inl v5.2.2))] → va_S A s.heap H locs → lv_has ls 6 [(0, .ref (x 0)), (1, .int p1), (2, .int p2), (3, .int p3), (4, .int v3.1), (5, .int v5.1)] → W p l e ({ frames := 4, cells := 0, slots := 0, locals := 87 } : Room) s m ([.ref (x 0), .int p1, .int p2, .int p3] : List Value).toArray below meth c H locs 0 0 (MQ below (va_Qv (fun (_ : Unit) => True) (fun _ => xPost D T [((x 0), .inr (7, o7 x rv.1)), ((x 2), .inl (T.1, 22, .inl u_this_told)), ((x 3), .inl (T.1, 11, .inl rv.2.1)), ((x 4), .inl (T.1, 7, .inl rv.2.2))] A) A) ([.ref (x 0), .int p1, .int p2, .int p3] : List Value).toArray s 0 0 A) (F0 m 33 ls []) := by
          intro n
          induction n with
          | zero => exact fun _ h => (xlp_0 h).elim
          | succ n ih =>
            intro v5 hM H locs ls hP hD hS hl
            obtain ⟨z, hM, hz1, hz2⟩ := xlp_s hM
            unfold s_X7_goDay_33 at hM
            refine lv_iload hx hb dX7_goDay_33 (lv_at hl 5 rfl) ?_
            refine lv_iload_n hx hb dX7_goDay_35 rfl (lv_at hl 1 rfl) ?_
            refine lv_icmp_ge (tgt := 58) hx hb dX7_goDay_36 (by decide) (fun c6 => ?_) (fun c6 => ?_)
            · have hM := xit c6 hM
              obtain rfl := hz2 _ (Option.some.inj hM).symm
              exact Kv8 _ _ _ hP hD hS (lv_sub hl [0, 1, 2, 3, 4] rfl)
            · have hM := xif c6 hM
              refine lv_aload_n hx hb dX7_goDay_39 rfl (lv_at hl 0 rfl) ?_
              refine lv_dup hx hb dX7_goDay_40 rfl ?_
              refine va_get (D := D) (ci := 7) (v := .int v5.2.1) (C := RX7) (T := TX7) (N := 30) hx hb hts (fun w h => List.mem_cons_of_mem _ (List.mem_append_right _ h)) hown hK hP 0 rfl rfl 19 (by decide) (hts _ (List.mem_of_getElem? (i := 1) rfl)) (fun _ h9 => h9) rfl dX7_goDay_41 ?_
              refine lv_aload_n hx hb dX7_goDay_44 rfl (lv_at hl 0 rfl) ?_
              obtain ⟨r7, er7, hM⟩ := xbd hM
              refine xafti (rv := r7.1) (W2 := [((x 0), .inr (7, o7 x (u_this.1, u_this.2.1, u_this.2.2.1, u_this.2.2.2.1, u_this.2.2.2.2.1, u_this.2.2.2.2.2.1, u_this.2.2.2.2.2.2.1, u_this.2.2.2.2.2.2.2.1, v5.2.1, v3.2.2.1, u_this.2.2.2.2.2.2.2.2.2.2.1, u_this.2.2.2.2.2.2.2.2.2.2.2))), ((x 2), .inl (T.1, 22, .inl u_this_told)), ((x 3), .inl (T.1, 11, .inl r1)), ((x 4), .inl (T.1, 7, .inl r7.2))]) (va_runV (As := []) (rest := [.int v5.2.1, .ref (x 0)]) ⟨hx, hb, hml, hown, hts⟩ (c_X7_stroke l D T x (u_this.1, u_this.2.1, u_this.2.2.1, u_this.2.2.2.1, u_this.2.2.2.2.1, u_this.2.2.2.2.2.1, u_this.2.2.2.2.2.2.1, u_this.2.2.2.2.2.2.2.1, v5.2.1, v3.2.2.1, u_this.2.2.2.2.2.2.2.2.2.2.1, u_this.2.2.2.2.2.2.2.2.2.2.2) r1 v5.2.2 er7) (cwV 0 hts gX7_goDay_X7_stroke rfl rfl rfl (by decide +kernel) ⟨Nat.le_of_ble_eq_true rfl, Nat.le_of_ble_eq_true rfl⟩) (xpvv hP hD hK [0, 2, 3] (by decide) rfl 0 7 rfl rfl (fun _ _ _ => trivial) (fun _ _ _ _ _ _ => trivial)) rfl rfl hl.1 rfl (lv_room (Nat.le_of_ble_eq_true rfl)) dX7_goDay_45 ⟨Nat.le_of_ble_eq_true rfl, Nat.le_of_ble_eq_true rfl⟩) hP hD hS hA [0, 2, 3] rfl rfl rfl rfl (fun H locs hP hD hS => ?_)
              refine lv_iadd hx hb dX7_goDay_48 ?_
              refine va_put (D := D) (ci := 7) (v := .int (v5.2.1 + r7.1)) (C := RX7) (T := TX7) (N := 30) hx hb hts (fun w h => List.mem_cons_of_mem _ (List.mem_append_right _ h)) tyX7 tyX7_ok nmX7 hown hK hP hD hS 0 rfl rfl 19 (by decide) (hts _ (List.mem_of_getElem? (i := 1) rfl)) (fun _ h9 => h9) rfl (tyX7_ok 19 (by decide)) rfl rfl (Nat.le_of_ble_eq_true rfl) dX7_goDay_49 (fun H locs hP hD hS => ?_)
              have hP : va_P D vwCl [((x 0), .inr (7, o7 x (u_this.1, u_this.2.1, u_this.2.2.1, u_this.2.2.2.1, u_this.2.2.2.2.1, u_this.2.2.2.2.2.1, u_this.2.2.2.2.2.2.1, u_this.2.2.2.2.2.2.2.1, (v5.2.1 + r7.1), v3.2.2.1, u_this.2.2.2.2.2.2.2.2.2.2.1, u_this.2.2.2.2.2.2.2.2.2.2.2))), ((x 2), .inl (T.1, 22, .inl u_this_told)), ((x 3), .inl (T.1, 11, .inl r1)), ((x 4), .inl (T.1, 7, .inl r7.2))] H := hP
              have hD : va_D A [((x 0), .inr (7, o7 x (u_this.1, u_this.2.1, u_this.2.2.1, u_this.2.2.2.1, u_this.2.2.2.2.1, u_this.2.2.2.2.2.1, u_this.2.2.2.2.2.2.1, u_this.2.2.2.2.2.2.2.1, (v5.2.1 + r7.1), v3.2.2.1, u_this.2.2.2.2.2.2.2.2.2.2.1, u_this.2.2.2.2.2.2.2.2.2.2.2))), ((x 2), .inl (T.1, 22, .inl u_this_told)), ((x 3), .inl (T.1, 11, .inl r1)), ((x 4), .inl (T.1, 7, .inl r7.2))] := hD
              refine lv_iinc (v := v5.1 + 1) (lv' := [(5, .int (v5.1 + 1)), (0, .ref (x 0)), (1, .int p1), (2, .int p2), (3, .int p3), (4, .int v3.1)]) hx hb dX7_goDay_52 hl (k := 5) rfl rfl (by decide) rfl (fun ls hl => ?_)
              refine lv_goto (tgt := 33) hx hb dX7_goDay_55 (by decide) ?_
              exact ih _ (hz1 _ (Option.some.inj hM).symm) _ _ _ hP hD hS (lv_sub hl [1, 2, 3, 4, 5, 0] rfl)
        exact Lv5 _ _ hM _ _ _ hP hD hS (lv_sub hl [1, 2, 3, 4, 5, 0] rfl)
  exact Lv3 _ _ hM _ _ _ hP hD hS (lv_sub hl [1, 2, 3, 4, 0] rfl)
def f_X7_day (N : Nat) (u_this : K7) (u_this_told : (Nat → Int32)) (u_this_par : (Nat → Int32)) (u_this_try0 : (Nat → Int32)) (p1 : Int32) (p2 : Int32) : Option (Int32 × K7 × (Nat → Int32) × (Nat → Int32)) :=
  if (f_X7_in p1 (1) (200)) = (0) then
   (some ((-1), u_this, u_this_par, u_this_try0))
  else
   (if (f_X7_in p2 (1) (24)) = (0) then
     (some ((-1), u_this, u_this_par, u_this_try0))
    else
     ((f_X7_goDay N u_this u_this_told u_this_par u_this_try0 p1 (0) p2).bind fun r3 =>
      some (r3.1.2.2.2.2.2.2.2.2.1, r3.1, r3.2.1, r3.2.2)))
set_option maxHeartbeats 4000000 in
set_option maxRecDepth 100000 in
theorem c_X7_day (l : Launch) (D : va_G) (T : xT) (x : Nat → Nat) {sz : Nat} {N : Nat} (u_this : K7) (u_this_told : (Nat → Int32)) (u_this_par : (Nat → Int32)) (u_this_try0 : (Nat → Int32)) (p1 : Int32) (p2 : Int32) {rv : Int32 × K7 × (Nat → Int32) × (Nat → Int32)} (hM : f_X7_day N u_this u_this_told u_this_par u_this_try0 p1 p2 = some rv) : Met l yX7_day wsX7_day ({ frames := 5, cells := 0, slots := 0, locals := 112 } : Room) (va_Pc [.ref (x 0), .int p1, .int p2] (xPre D T [((x 0), .inr (7, o7 x u_this)), ((x 2), .inl (T.1, 22, .inl u_this_told)), ((x 3), .inl (T.1, 11, .inl u_this_par)), ((x 4), .inl (T.1, 7, .inl u_this_try0))] sz xE0)) (va_Qi (fun (r : Int32) (_ : Unit) => r = rv.1) (fun _ => xPost D T [((x 0), .inr (7, o7 x rv.2.1)), ((x 2), .inl (T.1, 22, .inl u_this_told)), ((x 3), .inl (T.1, 11, .inl rv.2.2.1)), ((x 4), .inl (T.1, 7, .inl rv.2.2.2))] (va_A [((x 0), .inr (7, o7 x u_this)), ((x 2), .inl (T.1, 22, .inl u_this_told)), ((x 3), .inl (T.1, 11, .inl u_this_par)), ((x 4), .inl (T.1, 7, .inl u_this_try0))] sz)) (va_A [((x 0), .inr (7, o7 x u_this)), ((x 2), .inl (T.1, 22, .inl u_this_told)), ((x 3), .inl (T.1, 11, .inl u_this_par)), ((x 4), .inl (T.1, 7, .inl u_this_try0))] sz)) 0 0 (va_A [((x 0), .inr (7, o7 x u_this)), ((x 2), .inl (T.1, 22, .inl u_this_told)), ((x 3), .inl (T.1, 11, .inl u_this_par)), ((x 4), .inl (T.1, 7, .inl u_this_try0))] sz) := by
  refine xMet (av := [.ref (x 0), .int p1, .int p2]) (Wd := [((x 0), .inr (7, o7 x u_this)), ((x 2), .inl (T.1, 22, .inl u_this_told)), ((x 3), .inl (T.1, 11, .inl u_this_par)), ((x 4), .inl (T.1, 7, .inl u_this_try0))]) (E := xE0) (Qc := fun A => (va_Qi (fun (r : Int32) (_ : Unit) => r = rv.1) (fun _ => xPost D T [((x 0), .inr (7, o7 x rv.2.1)), ((x 2), .inl (T.1, 22, .inl u_this_told)), ((x 3), .inl (T.1, 11, .inl rv.2.2.1)), ((x 4), .inl (T.1, 7, .inl rv.2.2.2))] A) A)) (cc := cX7_day) (maxL := 3) (ret := (some .int)) (by decide) rfl (Nat.le_of_ble_eq_true rfl) ?_
  intro p e s m below meth c A ls hx hb hr hml hts hown hlocks hnm hP hK hD hS hA hE hl
  have hown : s.vm.findClass RX7 = some m.cls := hown
  have hl : lv_has ls 3 [(0, .ref (x 0)), (1, .int p1), (2, .int p2)] := hl
  unfold f_X7_day at hM
  refine lv_iload_n hx hb dX7_day_0 rfl (lv_at hl 1 rfl) ?_
  refine lv_iconst (v := 1) hx hb dX7_day_1 (by decide) ?_
  refine lv_sipush (v := 200) hx hb dX7_day_2 (by decide) ?_
  refine xafti (rv := (f_X7_in p1 (1) (200))) (W2 := [((x 0), .inr (7, o7 x u_this)), ((x 2), .inl (T.1, 22, .inl u_this_told)), ((x 3), .inl (T.1, 11, .inl u_this_par)), ((x 4), .inl (T.1, 7, .inl u_this_try0))]) (va_runS (As := [.int p1, .int (1), .int (200)]) (rest := []) ⟨hx, hb, hml, hown, hts⟩ (c_X7_in (rv := (f_X7_in p1 (1) (200))) l D T p1 (1) (200) rfl) (cwS 3 hts gX7_day_X7_in rfl rfl rfl (by decide +kernel) ⟨Nat.le_of_ble_eq_true rfl, Nat.le_of_ble_eq_true rfl⟩) (xpvs hP hD hK [] (by decide) rfl (fun _ _ _ => trivial) (fun _ _ _ _ _ _ => trivial)) rfl rfl hl.1 rfl (lv_room (Nat.le_of_ble_eq_true rfl)) dX7_day_5 ⟨Nat.le_of_ble_eq_true rfl, Nat.le_of_ble_eq_true rfl⟩) hP hD hS hA [] rfl rfl rfl rfl (fun H locs hP hD hS => ?_)
  refine lv_if_eq (tgt := 21) hx hb dX7_day_8 (by decide) (fun c1 => ?_) (fun c1 => ?_)
  · have hM := xit c1 hM
    refine lv_iconst (v := (-1)) hx hb dX7_day_21 (by decide) ?_
    obtain rfl := Option.some.inj hM
    exact xreti hx hb hr hlocks hP hK hD hS dX7_day_22 rfl
  · have hM := xif c1 hM
    refine lv_iload_n hx hb dX7_day_11 rfl (lv_at hl 2 rfl) ?_
    refine lv_iconst (v := 1) hx hb dX7_day_12 (by decide) ?_
    refine lv_bipush (v := 24) hx hb dX7_day_13 (by decide) ?_
    refine xafti (rv := (f_X7_in p2 (1) (24))) (W2 := [((x 0), .inr (7, o7 x u_this)), ((x 2), .inl (T.1, 22, .inl u_this_told)), ((x 3), .inl (T.1, 11, .inl u_this_par)), ((x 4), .inl (T.1, 7, .inl u_this_try0))]) (va_runS (As := [.int p2, .int (1), .int (24)]) (rest := []) ⟨hx, hb, hml, hown, hts⟩ (c_X7_in (rv := (f_X7_in p2 (1) (24))) l D T p2 (1) (24) rfl) (cwS 3 hts gX7_day_X7_in rfl rfl rfl (by decide +kernel) ⟨Nat.le_of_ble_eq_true rfl, Nat.le_of_ble_eq_true rfl⟩) (xpvs hP hD hK [] (by decide) rfl (fun _ _ _ => trivial) (fun _ _ _ _ _ _ => trivial)) rfl rfl hl.1 rfl (lv_room (Nat.le_of_ble_eq_true rfl)) dX7_day_15 ⟨Nat.le_of_ble_eq_true rfl, Nat.le_of_ble_eq_true rfl⟩) hP hD hS hA [] rfl rfl rfl rfl (fun H locs hP hD hS => ?_)
    refine lv_if_ne (tgt := 23) hx hb dX7_day_18 (by decide) (fun c2 => ?_) (fun c2 => ?_)
    · have hM := xif c2 hM
      refine lv_aload_n hx hb dX7_day_23 rfl (lv_at hl 0 rfl) ?_
      refine lv_iload_n hx hb dX7_day_24 rfl (lv_at hl 1 rfl) ?_
      refine lv_iconst (v := 0) hx hb dX7_day_25 (by decide) ?_
      refine lv_iload_n hx hb dX7_day_26 rfl (lv_at hl 2 rfl) ?_
      obtain ⟨r3, er3, hM⟩ := xbd hM
      refine xaftv (W2 := [((x 0), .inr (7, o7 x r3.1)), ((x 2), .inl (T.1, 22, .inl u_this_told)), ((x 3), .inl (T.1, 11, .inl r3.2.1)), ((x 4), .inl (T.1, 7, .inl r3.2.2))]) (va_runV (As := [.int p1, .int (0), .int p2]) (rest := []) ⟨hx, hb, hml, hown, hts⟩ (c_X7_goDay l D T x u_this u_this_told u_this_par u_this_try0 p1 (0) p2 er3) (cwV 3 hts gX7_day_X7_goDay rfl rfl rfl (by decide +kernel) ⟨Nat.le_of_ble_eq_true rfl, Nat.le_of_ble_eq_true rfl⟩) (xpvv hP hD hK [0, 1, 2, 3] (by decide) rfl 0 7 rfl rfl (fun _ _ _ => trivial) (fun _ _ _ _ _ _ => trivial)) rfl rfl hl.1 rfl (lv_room (Nat.le_of_ble_eq_true rfl)) dX7_day_27 ⟨Nat.le_of_ble_eq_true rfl, Nat.le_of_ble_eq_true rfl⟩) hP hD hS hA [0, 1, 2, 3] rfl rfl rfl rfl (fun H locs hP hD hS => ?_)
      refine lv_aload_n hx hb dX7_day_30 rfl (lv_at hl 0 rfl) ?_
      refine va_get (D := D) (ci := 7) (v := .int r3.1.2.2.2.2.2.2.2.2.1) (C := RX7) (T := TX7) (N := 30) hx hb hts (fun w h => List.mem_cons_of_mem _ (List.mem_append_right _ h)) hown hK hP 0 rfl rfl 19 (by decide) (hts _ (List.mem_of_getElem? (i := 1) rfl)) (fun _ h9 => h9) rfl dX7_day_31 ?_
      obtain rfl := Option.some.inj hM
      exact xreti hx hb hr hlocks hP hK hD hS dX7_day_34 rfl
    · have hM := xit c2 hM
      refine lv_iconst (v := (-1)) hx hb dX7_day_21 (by decide) ?_
      obtain rfl := Option.some.inj hM
      exact xreti hx hb hr hlocks hP hK hD hS dX7_day_22 rfl
def s_X7_pace_19 (N : Nat) (u_this_told : (Nat → Int32)) (p1 : Int32) (v2 : Int32 × Int32 × Int32 × K7 × (Nat → Int32) × (Nat → Int32)) : Option ((Int32 × Int32 × Int32 × K7 × (Nat → Int32) × (Nat → Int32)) ⊕ (Int32 × Int32 × Int32 × K7 × (Nat → Int32) × (Nat → Int32))) :=
  if (200) < v2.2.2.1 then
   (some (.inr (v2.1, v2.2.1, v2.2.2.1, v2.2.2.2.1, v2.2.2.2.2.1, v2.2.2.2.2.2)))
  else
   ((f_X7_goDay N v2.2.2.2.1 u_this_told v2.2.2.2.2.1 v2.2.2.2.2.2 v2.2.2.1 (0) p1).bind fun r4 =>
    ((if r4.1.2.2.2.2.2.2.2.2.1 ≤ v2.2.1 then
       (some v2.1)
      else
       (some v2.2.2.1) : Option (Int32))).bind fun v6 =>
    if r4.1.2.2.2.2.2.2.2.2.1 ≤ v2.2.1 then
     (some (.inl (v6, v2.2.1, v2.2.2.1 + 1, r4.1, r4.2.1, r4.2.2)))
    else
     (some (.inl (v6, r4.1.2.2.2.2.2.2.2.2.1, v2.2.2.1 + 1, r4.1, r4.2.1, r4.2.2))))
def f_X7_pace (N : Nat) (u_this : K7) (u_this_told : (Nat → Int32)) (u_this_par : (Nat → Int32)) (u_this_try0 : (Nat → Int32)) (p1 : Int32) : Option (Int32 × K7 × (Nat → Int32) × (Nat → Int32)) :=
  if (f_X7_in p1 (1) (24)) = (0) then
   (some ((-1), u_this, u_this_par, u_this_try0))
  else
   ((xlp (s_X7_pace_19 N u_this_told p1) N (1, (-1), 1, u_this, u_this_par, u_this_try0)).bind fun v8 =>
    some (v8.1, v8.2.2.2.1, v8.2.2.2.2.1, v8.2.2.2.2.2))
set_option maxHeartbeats 4000000 in
set_option maxRecDepth 100000 in
theorem c_X7_pace (l : Launch) (D : va_G) (T : xT) (x : Nat → Nat) {sz : Nat} {N : Nat} (u_this : K7) (u_this_told : (Nat → Int32)) (u_this_par : (Nat → Int32)) (u_this_try0 : (Nat → Int32)) (p1 : Int32) {rv : Int32 × K7 × (Nat → Int32) × (Nat → Int32)} (hM : f_X7_pace N u_this u_this_told u_this_par u_this_try0 p1 = some rv) : Met l yX7_pace wsX7_pace ({ frames := 5, cells := 0, slots := 0, locals := 112 } : Room) (va_Pc [.ref (x 0), .int p1] (xPre D T [((x 0), .inr (7, o7 x u_this)), ((x 2), .inl (T.1, 22, .inl u_this_told)), ((x 3), .inl (T.1, 11, .inl u_this_par)), ((x 4), .inl (T.1, 7, .inl u_this_try0))] sz xE0)) (va_Qi (fun (r : Int32) (_ : Unit) => r = rv.1) (fun _ => xPost D T [((x 0), .inr (7, o7 x rv.2.1)), ((x 2), .inl (T.1, 22, .inl u_this_told)), ((x 3), .inl (T.1, 11, .inl rv.2.2.1)), ((x 4), .inl (T.1, 7, .inl rv.2.2.2))] (va_A [((x 0), .inr (7, o7 x u_this)), ((x 2), .inl (T.1, 22, .inl u_this_told)), ((x 3), .inl (T.1, 11, .inl u_this_par)), ((x 4), .inl (T.1, 7, .inl u_this_try0))] sz)) (va_A [((x 0), .inr (7, o7 x u_this)), ((x 2), .inl (T.1, 22, .inl u_this_told)), ((x 3), .inl (T.1, 11, .inl u_this_par)), ((x 4), .inl (T.1, 7, .inl u_this_try0))] sz)) 0 0 (va_A [((x 0), .inr (7, o7 x u_this)), ((x 2), .inl (T.1, 22, .inl u_this_told)), ((x 3), .inl (T.1, 11, .inl u_this_par)), ((x 4), .inl (T.1, 7, .inl u_this_try0))] sz) := by
  refine xMet (av := [.ref (x 0), .int p1]) (Wd := [((x 0), .inr (7, o7 x u_this)), ((x 2), .inl (T.1, 22, .inl u_this_told)), ((x 3), .inl (T.1, 11, .inl u_this_par)), ((x 4), .inl (T.1, 7, .inl u_this_try0))]) (E := xE0) (Qc := fun A => (va_Qi (fun (r : Int32) (_ : Unit) => r = rv.1) (fun _ => xPost D T [((x 0), .inr (7, o7 x rv.2.1)), ((x 2), .inl (T.1, 22, .inl u_this_told)), ((x 3), .inl (T.1, 11, .inl rv.2.2.1)), ((x 4), .inl (T.1, 7, .inl rv.2.2.2))] A) A)) (cc := cX7_pace) (maxL := 5) (ret := (some .int)) (by decide) rfl (Nat.le_of_ble_eq_true rfl) ?_
  intro p e s m below meth c A ls hx hb hr hml hts hown hlocks hnm hP hK hD hS hA hE hl
  have hown : s.vm.findClass RX7 = some m.cls := hown
  have hl : lv_has ls 5 [(0, .ref (x 0)), (1, .int p1)] := hl
  unfold f_X7_pace at hM
  refine lv_iload_n hx hb dX7_pace_0 rfl (lv_at hl 1 rfl) ?_
  refine lv_iconst (v := 1) hx hb dX7_pace_1 (by decide) ?_
  refine lv_bipush (v := 24) hx hb dX7_pace_2 (by decide) ?_
  refine xafti (rv := (f_X7_in p1 (1) (24))) (W2 := [((x 0), .inr (7, o7 x u_this)), ((x 2), .inl (T.1, 22, .inl u_this_told)), ((x 3), .inl (T.1, 11, .inl u_this_par)), ((x 4), .inl (T.1, 7, .inl u_this_try0))]) (va_runS (As := [.int p1, .int (1), .int (24)]) (rest := []) ⟨hx, hb, hml, hown, hts⟩ (c_X7_in (rv := (f_X7_in p1 (1) (24))) l D T p1 (1) (24) rfl) (cwS 3 hts gX7_pace_X7_in rfl rfl rfl (by decide +kernel) ⟨Nat.le_of_ble_eq_true rfl, Nat.le_of_ble_eq_true rfl⟩) (xpvs hP hD hK [] (by decide) rfl (fun _ _ _ => trivial) (fun _ _ _ _ _ _ => trivial)) rfl rfl hl.1 rfl (lv_room (Nat.le_of_ble_eq_true rfl)) dX7_pace_4 ⟨Nat.le_of_ble_eq_true rfl, Nat.le_of_ble_eq_true rfl⟩) hP hD hS hA [] rfl rfl rfl rfl (fun H locs hP hD hS => ?_)
  refine lv_if_ne (tgt := 12) hx hb dX7_pace_7 (by decide) (fun c1 => ?_) (fun c1 => ?_)
  · have hM := xif c1 hM
    refine lv_iconst (v := 1) hx hb dX7_pace_12 (by decide) ?_
    refine lv_istore_n (lv' := [(2, .int (1)), (0, .ref (x 0)), (1, .int p1)]) hx hb dX7_pace_13 rfl hl (by decide) rfl (fun ls hl => ?_)
    refine lv_iconst (v := (-1)) hx hb dX7_pace_14 (by decide) ?_
    refine lv_istore_n (lv' := [(3, .int (-1)), (2, .int (1)), (0, .ref (x 0)), (1, .int p1)]) hx hb dX7_pace_15 rfl hl (by decide) rfl (fun ls hl => ?_)
    refine lv_iconst (v := 1) hx hb dX7_pace_16 (by decide) ?_
    refine lv_istore (lv' := [(4, .int (1)), (3, .int (-1)), (2, .int (1)), (0, .ref (x 0)), (1, .int p1)]) hx hb dX7_pace_17 hl (by decide) rfl (fun ls hl => ?_)
    obtain ⟨v8, hM, hNv8⟩ := xbd hM
    have hQv8 := hM
    have Kv8 : ∀ (H : Heap) (locs : List Loc) (ls : Array Slot), va_P D vwCl [((x 0), .inr (7, o7 x v8.2.2.2.1)), ((x 2), .inl (T.1, 22, .inl u_this_told)), ((x 3), .inl (T.1, 11, .inl v8.2.2.2.2.1)), ((x 4), .inl (T.1, 7, .inl v8.2.2.2.2.2))] H → va_D A [((x 0), .inr (7, o7 x v8.2.2.2.1)), ((x 2), .inl (T.1, 22, .inl u_this_told)), ((x 3), .inl (T.1, 11, .inl v8.2.2.2.2.1)), ((x 4), .inl (T.1, 7, .inl v8.2.2.2.2.2))] → va_S A s.heap H locs → lv_has ls 5 [(2, .int v8.1)] → W p l e ({ frames := 5, cells := 0, slots := 0, locals := 112 } : Room) s m ([.ref (x 0), .int p1] : List Value).toArray below meth c H locs 0 0 (MQ below (va_Qi (fun (r : Int32) (_ : Unit) => r = rv.1) (fun _ => xPost D T [((x 0), .inr (7, o7 x rv.2.1)), ((x 2), .inl (T.1, 22, .inl u_this_told)), ((x 3), .inl (T.1, 11, .inl rv.2.2.1)), ((x 4), .inl (T.1, 7, .inl rv.2.2.2))] A) A) ([.ref (x 0), .int p1] : List Value).toArray s 0 0 A) (F0 m 73 ls []) := by
      intro H locs ls hP hD hS hl
      have hM := hNv8
      refine lv_iload_n hx hb dX7_pace_73 rfl (lv_at hl 0 rfl) ?_
      obtain rfl := Option.some.inj hM
      exact xreti hx hb hr hlocks hP hK hD hS dX7_pace_74 rfl
    have Lv2 : ∀ (n : Nat) (v2 : Int32 × Int32 × Int32 × K7 × (Nat → Int32) × (Nat → Int32)), xlp (s_X7_pace_19 N u_this_told p1) n v2 = some v8 → ∀ (H : Heap) (locs : List Loc) (ls : Array Slot), va_P D vwCl [((x 0), .inr (7, o7 x v2.2.2.2.1)), ((x 2), .inl (T.1, 22, .inl u_this_told)), ((x 3), .inl (T.1, 11, .inl v2.2.2.2.2.1)), ((x 4), .inl (T.1, 7, .inl v2.2.2.2.2.2))] H → va_D A [((x 0), .inr (7, o7 x v2.2.2.2.1)), ((x 2), .inl (T.1, 22, .inl u_this_told)), ((x 3), .inl (T.1, 11, .inl v2.2.2.2.2.1)), ((x 4), .inl (T.1, 7, .inl v2.2.2.2.2.2))] → va_S A s.heap H locs → lv_has ls 5 [(0, .ref (x 0)), (1, .int p1), (2, .int v2.1), (3, .int v2.2.1), (4, .int v2.2.2.1)] → W p l e ({ frames := 5, cells := 0, slots := 0, locals := 112 } : Room) s m ([.ref (x 0), .int p1] : List Value).toArray below meth c H locs 0 0 (MQ below (va_Qi (fun (r : Int32) (_ : Unit) => r = rv.1) (fun _ => xPost D T [((x 0), .inr (7, o7 x rv.2.1)), ((x 2), .inl (T.1, 22, .inl u_this_told)), ((x 3), .inl (T.1, 11, .inl rv.2.2.1)), ((x 4), .inl (T.1, 7, .inl rv.2.2.2))] A) A) ([.ref (x 0), .int p1] : List Value).toArray s 0 0 A) (F0 m 19 ls []) := by
      intro n
      induction n with
      | zero => exact fun _ h => (xlp_0 h).elim
      | succ n ih =>
        intro v2 hM H locs ls hP hD hS hl
        obtain ⟨z, hM, hz1, hz2⟩ := xlp_s hM
        unfold s_X7_pace_19 at hM
        refine lv_iload hx hb dX7_pace_19 (lv_at hl 4 rfl) ?_
        refine lv_sipush (v := 200) hx hb dX7_pace_21 (by decide) ?_
        refine lv_icmp_gt (tgt := 73) hx hb dX7_pace_24 (by decide) (fun c3 => ?_) (fun c3 => ?_)
        · have hM := xit c3 hM
          obtain rfl := hz2 _ (Option.some.inj hM).symm
          exact Kv8 _ _ _ hP hD hS (lv_sub hl [2] rfl)
        · have hM := xif c3 hM
          refine lv_aload_n hx hb dX7_pace_27 rfl (lv_at hl 0 rfl) ?_
          refine lv_iload hx hb dX7_pace_28 (lv_at hl 4 rfl) ?_
          refine lv_iconst (v := 0) hx hb dX7_pace_30 (by decide) ?_
          refine lv_iload_n hx hb dX7_pace_31 rfl (lv_at hl 1 rfl) ?_
          obtain ⟨r4, er4, hM⟩ := xbd hM
          refine xaftv (W2 := [((x 0), .inr (7, o7 x r4.1)), ((x 2), .inl (T.1, 22, .inl u_this_told)), ((x 3), .inl (T.1, 11, .inl r4.2.1)), ((x 4), .inl (T.1, 7, .inl r4.2.2))]) (va_runV (As := [.int v2.2.2.1, .int (0), .int p1]) (rest := []) ⟨hx, hb, hml, hown, hts⟩ (c_X7_goDay l D T x v2.2.2.2.1 u_this_told v2.2.2.2.2.1 v2.2.2.2.2.2 v2.2.2.1 (0) p1 er4) (cwV 3 hts gX7_pace_X7_goDay rfl rfl rfl (by decide +kernel) ⟨Nat.le_of_ble_eq_true rfl, Nat.le_of_ble_eq_true rfl⟩) (xpvv hP hD hK [0, 1, 2, 3] (by decide) rfl 0 7 rfl rfl (fun _ _ _ => trivial) (fun _ _ _ _ _ _ => trivial)) rfl rfl hl.1 rfl (lv_room (Nat.le_of_ble_eq_true rfl)) dX7_pace_32 ⟨Nat.le_of_ble_eq_true rfl, Nat.le_of_ble_eq_true rfl⟩) hP hD hS hA [0, 1, 2, 3] rfl rfl rfl rfl (fun H locs hP hD hS => ?_)
          refine lv_aload_n hx hb dX7_pace_35 rfl (lv_at hl 0 rfl) ?_
          refine va_get (D := D) (ci := 7) (v := .int r4.1.2.2.2.2.2.2.2.2.1) (C := RX7) (T := TX7) (N := 30) hx hb hts (fun w h => List.mem_cons_of_mem _ (List.mem_append_right _ h)) hown hK hP 0 rfl rfl 19 (by decide) (hts _ (List.mem_of_getElem? (i := 1) rfl)) (fun _ h9 => h9) rfl dX7_pace_36 ?_
          refine lv_iload_n hx hb dX7_pace_39 rfl (lv_at hl 3 rfl) ?_
          obtain ⟨v6, hM, hNv6⟩ := xbd hM
          have Kv6 : ∀ (H : Heap) (locs : List Loc) (ls : Array Slot), va_P D vwCl [((x 0), .inr (7, o7 x r4.1)), ((x 2), .inl (T.1, 22, .inl u_this_told)), ((x 3), .inl (T.1, 11, .inl r4.2.1)), ((x 4), .inl (T.1, 7, .inl r4.2.2))] H → va_D A [((x 0), .inr (7, o7 x r4.1)), ((x 2), .inl (T.1, 22, .inl u_this_told)), ((x 3), .inl (T.1, 11, .inl r4.2.1)), ((x 4), .inl (T.1, 7, .inl r4.2.2))] → va_S A s.heap H locs → lv_has ls 5 [(0, .ref (x 0)), (1, .int p1), (3, .int v2.2.1), (4, .int v2.2.2.1)] → W p l e ({ frames := 5, cells := 0, slots := 0, locals := 112 } : Room) s m ([.ref (x 0), .int p1] : List Value).toArray below meth c H locs 0 0 (MQ below (va_Qi (fun (r : Int32) (_ : Unit) => r = rv.1) (fun _ => xPost D T [((x 0), .inr (7, o7 x rv.2.1)), ((x 2), .inl (T.1, 22, .inl u_this_told)), ((x 3), .inl (T.1, 11, .inl rv.2.2.1)), ((x 4), .inl (T.1, 7, .inl rv.2.2.2))] A) A) ([.ref (x 0), .int p1] : List Value).toArray s 0 0 A) (F0 m 49 ls [.int v6]) := by
            intro H locs ls hP hD hS hl
            have hM := hNv6
            refine lv_istore_n (lv' := [(2, .int v6), (0, .ref (x 0)), (1, .int p1), (3, .int v2.2.1), (4, .int v2.2.2.1)]) hx hb dX7_pace_49 rfl hl (by decide) rfl (fun ls hl => ?_)
            refine lv_aload_n hx hb dX7_pace_50 rfl (lv_at hl 1 rfl) ?_
            refine va_get (D := D) (ci := 7) (v := .int r4.1.2.2.2.2.2.2.2.2.1) (C := RX7) (T := TX7) (N := 30) hx hb hts (fun w h => List.mem_cons_of_mem _ (List.mem_append_right _ h)) hown hK hP 0 rfl rfl 19 (by decide) (hts _ (List.mem_of_getElem? (i := 1) rfl)) (fun _ h9 => h9) rfl dX7_pace_51 ?_
            refine lv_iload_n hx hb dX7_pace_54 rfl (lv_at hl 3 rfl) ?_
            refine lv_icmp_le (tgt := 65) hx hb dX7_pace_55 (by decide) (fun c7 => ?_) (fun c7 => ?_)
            · have hM := xit c7 hM
              refine lv_iload_n hx hb dX7_pace_65 rfl (lv_at hl 3 rfl) ?_
              refine lv_istore_n (lv' := [(3, .int v2.2.1), (2, .int v6), (0, .ref (x 0)), (1, .int p1), (4, .int v2.2.2.1)]) hx hb dX7_pace_66 rfl hl (by decide) rfl (fun ls hl => ?_)
              refine lv_iinc (v := v2.2.2.1 + 1) (lv' := [(4, .int (v2.2.2.1 + 1)), (3, .int v2.2.1), (2, .int v6), (0, .ref (x 0)), (1, .int p1)]) hx hb dX7_pace_67 hl (k := 4) rfl rfl (by decide) rfl (fun ls hl => ?_)
              refine lv_goto (tgt := 19) hx hb dX7_pace_70 (by decide) ?_
              exact ih _ (hz1 _ (Option.some.inj hM).symm) _ _ _ hP hD hS (lv_sub hl [3, 4, 2, 1, 0] rfl)
            · have hM := xif c7 hM
              refine lv_aload_n hx hb dX7_pace_58 rfl (lv_at hl 1 rfl) ?_
              refine va_get (D := D) (ci := 7) (v := .int r4.1.2.2.2.2.2.2.2.2.1) (C := RX7) (T := TX7) (N := 30) hx hb hts (fun w h => List.mem_cons_of_mem _ (List.mem_append_right _ h)) hown hK hP 0 rfl rfl 19 (by decide) (hts _ (List.mem_of_getElem? (i := 1) rfl)) (fun _ h9 => h9) rfl dX7_pace_59 ?_
              refine lv_goto (tgt := 66) hx hb dX7_pace_62 (by decide) ?_
              refine lv_istore_n (lv' := [(3, .int r4.1.2.2.2.2.2.2.2.2.1), (2, .int v6), (0, .ref (x 0)), (1, .int p1), (4, .int v2.2.2.1)]) hx hb dX7_pace_66 rfl hl (by decide) rfl (fun ls hl => ?_)
              refine lv_iinc (v := v2.2.2.1 + 1) (lv' := [(4, .int (v2.2.2.1 + 1)), (3, .int r4.1.2.2.2.2.2.2.2.2.1), (2, .int v6), (0, .ref (x 0)), (1, .int p1)]) hx hb dX7_pace_67 hl (k := 4) rfl rfl (by decide) rfl (fun ls hl => ?_)
              refine lv_goto (tgt := 19) hx hb dX7_pace_70 (by decide) ?_
              exact ih _ (hz1 _ (Option.some.inj hM).symm) _ _ _ hP hD hS (lv_sub hl [3, 4, 2, 1, 0] rfl)
          refine lv_icmp_le (tgt := 48) hx hb dX7_pace_40 (by decide) (fun c5 => ?_) (fun c5 => ?_)
          · have hM := xit c5 hM
            refine lv_iload_n hx hb dX7_pace_48 rfl (lv_at hl 2 rfl) ?_
            obtain rfl := Option.some.inj hM
            exact Kv6 _ _ _ hP hD hS (lv_sub hl [0, 1, 3, 4] rfl)
          · have hM := xif c5 hM
            refine lv_iload hx hb dX7_pace_43 (lv_at hl 4 rfl) ?_
            refine lv_goto (tgt := 49) hx hb dX7_pace_45 (by decide) ?_
            obtain rfl := Option.some.inj hM
            exact Kv6 _ _ _ hP hD hS (lv_sub hl [0, 1, 3, 4] rfl)
    exact Lv2 _ _ hM _ _ _ hP hD hS (lv_sub hl [3, 4, 2, 1, 0] rfl)
  · have hM := xit c1 hM
    refine lv_iconst (v := (-1)) hx hb dX7_pace_10 (by decide) ?_
    obtain rfl := Option.some.inj hM
    exact xreti hx hb hr hlocks hP hK hD hS dX7_pace_11 rfl
def f_X7_two (N : Nat) (u_this : K7) (u_this_told : (Nat → Int32)) (u_this_par : (Nat → Int32)) (u_this_try0 : (Nat → Int32)) (p1 : Int32) (p2 : Int32) (p3 : Int32) (p4 : Int32) : Option (Int32 × K7 × (Nat → Int32) × (Nat → Int32)) :=
  if (f_X7_in p1 (0) (9)) = (0) then
   (some ((-1), u_this, u_this_par, u_this_try0))
  else
   (if (f_X7_in p2 (0) (9)) = (0) then
     (some ((-1), u_this, u_this_par, u_this_try0))
    else
     (if (f_X7_in p3 (1) (24)) = (0) then
       (some ((-1), u_this, u_this_par, u_this_try0))
      else
       (if (f_X7_in p4 (0) (1)) = (0) then
         (some ((-1), u_this, u_this_par, u_this_try0))
        else
         ((f_X7_goDay N u_this u_this_told u_this_par u_this_try0 ((10) * p1) ((10) * p2) p3).bind fun r5 =>
          if p4 = (0) then
           (some (r5.1.2.2.2.2.2.2.2.2.1, r5.1, r5.2.1, r5.2.2))
          else
           (some (r5.1.2.2.2.2.2.2.2.2.2.1, r5.1, r5.2.1, r5.2.2))))))
set_option maxHeartbeats 4000000 in
set_option maxRecDepth 100000 in
theorem c_X7_two (l : Launch) (D : va_G) (T : xT) (x : Nat → Nat) {sz : Nat} {N : Nat} (u_this : K7) (u_this_told : (Nat → Int32)) (u_this_par : (Nat → Int32)) (u_this_try0 : (Nat → Int32)) (p1 : Int32) (p2 : Int32) (p3 : Int32) (p4 : Int32) {rv : Int32 × K7 × (Nat → Int32) × (Nat → Int32)} (hM : f_X7_two N u_this u_this_told u_this_par u_this_try0 p1 p2 p3 p4 = some rv) : Met l yX7_two wsX7_two ({ frames := 5, cells := 0, slots := 0, locals := 112 } : Room) (va_Pc [.ref (x 0), .int p1, .int p2, .int p3, .int p4] (xPre D T [((x 0), .inr (7, o7 x u_this)), ((x 2), .inl (T.1, 22, .inl u_this_told)), ((x 3), .inl (T.1, 11, .inl u_this_par)), ((x 4), .inl (T.1, 7, .inl u_this_try0))] sz xE0)) (va_Qi (fun (r : Int32) (_ : Unit) => r = rv.1) (fun _ => xPost D T [((x 0), .inr (7, o7 x rv.2.1)), ((x 2), .inl (T.1, 22, .inl u_this_told)), ((x 3), .inl (T.1, 11, .inl rv.2.2.1)), ((x 4), .inl (T.1, 7, .inl rv.2.2.2))] (va_A [((x 0), .inr (7, o7 x u_this)), ((x 2), .inl (T.1, 22, .inl u_this_told)), ((x 3), .inl (T.1, 11, .inl u_this_par)), ((x 4), .inl (T.1, 7, .inl u_this_try0))] sz)) (va_A [((x 0), .inr (7, o7 x u_this)), ((x 2), .inl (T.1, 22, .inl u_this_told)), ((x 3), .inl (T.1, 11, .inl u_this_par)), ((x 4), .inl (T.1, 7, .inl u_this_try0))] sz)) 0 0 (va_A [((x 0), .inr (7, o7 x u_this)), ((x 2), .inl (T.1, 22, .inl u_this_told)), ((x 3), .inl (T.1, 11, .inl u_this_par)), ((x 4), .inl (T.1, 7, .inl u_this_try0))] sz) := by
  refine xMet (av := [.ref (x 0), .int p1, .int p2, .int p3, .int p4]) (Wd := [((x 0), .inr (7, o7 x u_this)), ((x 2), .inl (T.1, 22, .inl u_this_told)), ((x 3), .inl (T.1, 11, .inl u_this_par)), ((x 4), .inl (T.1, 7, .inl u_this_try0))]) (E := xE0) (Qc := fun A => (va_Qi (fun (r : Int32) (_ : Unit) => r = rv.1) (fun _ => xPost D T [((x 0), .inr (7, o7 x rv.2.1)), ((x 2), .inl (T.1, 22, .inl u_this_told)), ((x 3), .inl (T.1, 11, .inl rv.2.2.1)), ((x 4), .inl (T.1, 7, .inl rv.2.2.2))] A) A)) (cc := cX7_two) (maxL := 5) (ret := (some .int)) (by decide) rfl (Nat.le_of_ble_eq_true rfl) ?_
  intro p e s m below meth c A ls hx hb hr hml hts hown hlocks hnm hP hK hD hS hA hE hl
  have hown : s.vm.findClass RX7 = some m.cls := hown
  have hl : lv_has ls 5 [(0, .ref (x 0)), (1, .int p1), (2, .int p2), (3, .int p3), (4, .int p4)] := hl
  unfold f_X7_two at hM
  refine lv_iload_n hx hb dX7_two_0 rfl (lv_at hl 1 rfl) ?_
  refine lv_iconst (v := 0) hx hb dX7_two_1 (by decide) ?_
  refine lv_bipush (v := 9) hx hb dX7_two_2 (by decide) ?_
  refine xafti (rv := (f_X7_in p1 (0) (9))) (W2 := [((x 0), .inr (7, o7 x u_this)), ((x 2), .inl (T.1, 22, .inl u_this_told)), ((x 3), .inl (T.1, 11, .inl u_this_par)), ((x 4), .inl (T.1, 7, .inl u_this_try0))]) (va_runS (As := [.int p1, .int (0), .int (9)]) (rest := []) ⟨hx, hb, hml, hown, hts⟩ (c_X7_in (rv := (f_X7_in p1 (0) (9))) l D T p1 (0) (9) rfl) (cwS 3 hts gX7_two_X7_in rfl rfl rfl (by decide +kernel) ⟨Nat.le_of_ble_eq_true rfl, Nat.le_of_ble_eq_true rfl⟩) (xpvs hP hD hK [] (by decide) rfl (fun _ _ _ => trivial) (fun _ _ _ _ _ _ => trivial)) rfl rfl hl.1 rfl (lv_room (Nat.le_of_ble_eq_true rfl)) dX7_two_4 ⟨Nat.le_of_ble_eq_true rfl, Nat.le_of_ble_eq_true rfl⟩) hP hD hS hA [] rfl rfl rfl rfl (fun H locs hP hD hS => ?_)
  refine lv_if_eq (tgt := 40) hx hb dX7_two_7 (by decide) (fun c1 => ?_) (fun c1 => ?_)
  · have hM := xit c1 hM
    refine lv_iconst (v := (-1)) hx hb dX7_two_40 (by decide) ?_
    obtain rfl := Option.some.inj hM
    exact xreti hx hb hr hlocks hP hK hD hS dX7_two_41 rfl
  · have hM := xif c1 hM
    refine lv_iload_n hx hb dX7_two_10 rfl (lv_at hl 2 rfl) ?_
    refine lv_iconst (v := 0) hx hb dX7_two_11 (by decide) ?_
    refine lv_bipush (v := 9) hx hb dX7_two_12 (by decide) ?_
    refine xafti (rv := (f_X7_in p2 (0) (9))) (W2 := [((x 0), .inr (7, o7 x u_this)), ((x 2), .inl (T.1, 22, .inl u_this_told)), ((x 3), .inl (T.1, 11, .inl u_this_par)), ((x 4), .inl (T.1, 7, .inl u_this_try0))]) (va_runS (As := [.int p2, .int (0), .int (9)]) (rest := []) ⟨hx, hb, hml, hown, hts⟩ (c_X7_in (rv := (f_X7_in p2 (0) (9))) l D T p2 (0) (9) rfl) (cwS 3 hts gX7_two_X7_in rfl rfl rfl (by decide +kernel) ⟨Nat.le_of_ble_eq_true rfl, Nat.le_of_ble_eq_true rfl⟩) (xpvs hP hD hK [] (by decide) rfl (fun _ _ _ => trivial) (fun _ _ _ _ _ _ => trivial)) rfl rfl hl.1 rfl (lv_room (Nat.le_of_ble_eq_true rfl)) dX7_two_14 ⟨Nat.le_of_ble_eq_true rfl, Nat.le_of_ble_eq_true rfl⟩) hP hD hS hA [] rfl rfl rfl rfl (fun H locs hP hD hS => ?_)
    refine lv_if_eq (tgt := 40) hx hb dX7_two_17 (by decide) (fun c2 => ?_) (fun c2 => ?_)
    · have hM := xit c2 hM
      refine lv_iconst (v := (-1)) hx hb dX7_two_40 (by decide) ?_
      obtain rfl := Option.some.inj hM
      exact xreti hx hb hr hlocks hP hK hD hS dX7_two_41 rfl
    · have hM := xif c2 hM
      refine lv_iload_n hx hb dX7_two_20 rfl (lv_at hl 3 rfl) ?_
      refine lv_iconst (v := 1) hx hb dX7_two_21 (by decide) ?_
      refine lv_bipush (v := 24) hx hb dX7_two_22 (by decide) ?_
      refine xafti (rv := (f_X7_in p3 (1) (24))) (W2 := [((x 0), .inr (7, o7 x u_this)), ((x 2), .inl (T.1, 22, .inl u_this_told)), ((x 3), .inl (T.1, 11, .inl u_this_par)), ((x 4), .inl (T.1, 7, .inl u_this_try0))]) (va_runS (As := [.int p3, .int (1), .int (24)]) (rest := []) ⟨hx, hb, hml, hown, hts⟩ (c_X7_in (rv := (f_X7_in p3 (1) (24))) l D T p3 (1) (24) rfl) (cwS 3 hts gX7_two_X7_in rfl rfl rfl (by decide +kernel) ⟨Nat.le_of_ble_eq_true rfl, Nat.le_of_ble_eq_true rfl⟩) (xpvs hP hD hK [] (by decide) rfl (fun _ _ _ => trivial) (fun _ _ _ _ _ _ => trivial)) rfl rfl hl.1 rfl (lv_room (Nat.le_of_ble_eq_true rfl)) dX7_two_24 ⟨Nat.le_of_ble_eq_true rfl, Nat.le_of_ble_eq_true rfl⟩) hP hD hS hA [] rfl rfl rfl rfl (fun H locs hP hD hS => ?_)
      refine lv_if_eq (tgt := 40) hx hb dX7_two_27 (by decide) (fun c3 => ?_) (fun c3 => ?_)
      · have hM := xit c3 hM
        refine lv_iconst (v := (-1)) hx hb dX7_two_40 (by decide) ?_
        obtain rfl := Option.some.inj hM
        exact xreti hx hb hr hlocks hP hK hD hS dX7_two_41 rfl
      · have hM := xif c3 hM
        refine lv_iload hx hb dX7_two_30 (lv_at hl 4 rfl) ?_
        refine lv_iconst (v := 0) hx hb dX7_two_32 (by decide) ?_
        refine lv_iconst (v := 1) hx hb dX7_two_33 (by decide) ?_
        refine xafti (rv := (f_X7_in p4 (0) (1))) (W2 := [((x 0), .inr (7, o7 x u_this)), ((x 2), .inl (T.1, 22, .inl u_this_told)), ((x 3), .inl (T.1, 11, .inl u_this_par)), ((x 4), .inl (T.1, 7, .inl u_this_try0))]) (va_runS (As := [.int p4, .int (0), .int (1)]) (rest := []) ⟨hx, hb, hml, hown, hts⟩ (c_X7_in (rv := (f_X7_in p4 (0) (1))) l D T p4 (0) (1) rfl) (cwS 3 hts gX7_two_X7_in rfl rfl rfl (by decide +kernel) ⟨Nat.le_of_ble_eq_true rfl, Nat.le_of_ble_eq_true rfl⟩) (xpvs hP hD hK [] (by decide) rfl (fun _ _ _ => trivial) (fun _ _ _ _ _ _ => trivial)) rfl rfl hl.1 rfl (lv_room (Nat.le_of_ble_eq_true rfl)) dX7_two_34 ⟨Nat.le_of_ble_eq_true rfl, Nat.le_of_ble_eq_true rfl⟩) hP hD hS hA [] rfl rfl rfl rfl (fun H locs hP hD hS => ?_)
        refine lv_if_ne (tgt := 42) hx hb dX7_two_37 (by decide) (fun c4 => ?_) (fun c4 => ?_)
        · have hM := xif c4 hM
          refine lv_aload_n hx hb dX7_two_42 rfl (lv_at hl 0 rfl) ?_
          refine lv_bipush (v := 10) hx hb dX7_two_43 (by decide) ?_
          refine lv_iload_n hx hb dX7_two_45 rfl (lv_at hl 1 rfl) ?_
          refine lv_imul hx hb dX7_two_46 ?_
          refine lv_bipush (v := 10) hx hb dX7_two_47 (by decide) ?_
          refine lv_iload_n hx hb dX7_two_49 rfl (lv_at hl 2 rfl) ?_
          refine lv_imul hx hb dX7_two_50 ?_
          refine lv_iload_n hx hb dX7_two_51 rfl (lv_at hl 3 rfl) ?_
          obtain ⟨r5, er5, hM⟩ := xbd hM
          refine xaftv (W2 := [((x 0), .inr (7, o7 x r5.1)), ((x 2), .inl (T.1, 22, .inl u_this_told)), ((x 3), .inl (T.1, 11, .inl r5.2.1)), ((x 4), .inl (T.1, 7, .inl r5.2.2))]) (va_runV (As := [.int ((10) * p1), .int ((10) * p2), .int p3]) (rest := []) ⟨hx, hb, hml, hown, hts⟩ (c_X7_goDay l D T x u_this u_this_told u_this_par u_this_try0 ((10) * p1) ((10) * p2) p3 er5) (cwV 3 hts gX7_two_X7_goDay rfl rfl rfl (by decide +kernel) ⟨Nat.le_of_ble_eq_true rfl, Nat.le_of_ble_eq_true rfl⟩) (xpvv hP hD hK [0, 1, 2, 3] (by decide) rfl 0 7 rfl rfl (fun _ _ _ => trivial) (fun _ _ _ _ _ _ => trivial)) rfl rfl hl.1 rfl (lv_room (Nat.le_of_ble_eq_true rfl)) dX7_two_52 ⟨Nat.le_of_ble_eq_true rfl, Nat.le_of_ble_eq_true rfl⟩) hP hD hS hA [0, 1, 2, 3] rfl rfl rfl rfl (fun H locs hP hD hS => ?_)
          refine lv_iload hx hb dX7_two_55 (lv_at hl 4 rfl) ?_
          refine lv_if_ne (tgt := 67) hx hb dX7_two_57 (by decide) (fun c6 => ?_) (fun c6 => ?_)
          · have hM := xif c6 hM
            refine lv_aload_n hx hb dX7_two_67 rfl (lv_at hl 0 rfl) ?_
            refine va_get (D := D) (ci := 7) (v := .int r5.1.2.2.2.2.2.2.2.2.2.1) (C := RX7) (T := TX7) (N := 30) hx hb hts (fun w h => List.mem_cons_of_mem _ (List.mem_append_right _ h)) hown hK hP 0 rfl rfl 20 (by decide) (hts _ (List.mem_of_getElem? (i := 2) rfl)) (fun _ h9 => h9) rfl dX7_two_68 ?_
            obtain rfl := Option.some.inj hM
            exact xreti hx hb hr hlocks hP hK hD hS dX7_two_71 rfl
          · have hM := xit c6 hM
            refine lv_aload_n hx hb dX7_two_60 rfl (lv_at hl 0 rfl) ?_
            refine va_get (D := D) (ci := 7) (v := .int r5.1.2.2.2.2.2.2.2.2.1) (C := RX7) (T := TX7) (N := 30) hx hb hts (fun w h => List.mem_cons_of_mem _ (List.mem_append_right _ h)) hown hK hP 0 rfl rfl 19 (by decide) (hts _ (List.mem_of_getElem? (i := 1) rfl)) (fun _ h9 => h9) rfl dX7_two_61 ?_
            refine lv_goto (tgt := 71) hx hb dX7_two_64 (by decide) ?_
            obtain rfl := Option.some.inj hM
            exact xreti hx hb hr hlocks hP hK hD hS dX7_two_71 rfl
        · have hM := xit c4 hM
          refine lv_iconst (v := (-1)) hx hb dX7_two_40 (by decide) ?_
          obtain rfl := Option.some.inj hM
          exact xreti hx hb hr hlocks hP hK hD hS dX7_two_41 rfl
def s_X7_isRest_5 (u_this_mines : (Nat → Int32)) (u_this_others : (Nat → Int32)) (p1 : Int32) (p2 : Int32) (v1 : Int32 × Int32) : Option ((Int32 × Int32) ⊕ (Int32 × Int32)) :=
  if (10) ≤ v1.2 then
   (some (.inr (v1.1, v1.2)))
  else
   (if v1.1 = (0) then
     (some (.inl (0, v1.2 + 1)))
    else
     (if xin (((10) * v1.2) + p2) 100 = true then
      (if xin (((10) * p1) + p2) 100 = true then
       (if (u_this_mines (((10) * p1) + p2).toNatClampNeg) < (u_this_mines (((10) * v1.2) + p2).toNatClampNeg) then
         (some (.inl (0, v1.2 + 1)))
        else
         (if xin (((10) * p1) + v1.2) 100 = true then
          (if (u_this_others (((10) * p1) + p2).toNatClampNeg) < (u_this_others (((10) * p1) + v1.2).toNatClampNeg) then
            (some (.inl (0, v1.2 + 1)))
           else
            (some (.inl (1, v1.2 + 1))))
          else none))
       else none)
      else none))
def f_X7_isRest (N : Nat) (u_this : K7) (u_this_mines : (Nat → Int32)) (u_this_others : (Nat → Int32)) (p1 : Int32) (p2 : Int32) : Option (Int32) :=
  (xlp (s_X7_isRest_5 u_this_mines u_this_others p1 p2) N (1, 0)).bind fun v9 =>
  some v9.1
theorem b_X7_isRest {a b : Nat → Int32} {c d : Int32} {n : Nat} {t : Int32 × Int32} (h : xlp (s_X7_isRest_5 a b c d) n (1, 0) = some t) : t.1 = 0 ∨ t.1 = 1 := by
  refine xlp_inv (fun v => v.1 = 0 ∨ v.1 = 1) (fun v => v.1 = 0 ∨ v.1 = 1) ?_ ?_ (Or.inr rfl) h
  · intro x y hx hy; unfold s_X7_isRest_5 at hy; repeat' split at hy
    all_goals (first | (cases hy; done) | (cases hy; simp))
  · intro x y hx hy; unfold s_X7_isRest_5 at hy; repeat' split at hy
    all_goals (first | (cases hy; done) | (cases hy; exact hx))
set_option maxHeartbeats 4000000 in
set_option maxRecDepth 100000 in
theorem c_X7_isRest (l : Launch) (D : va_G) (T : xT) (x : Nat → Nat) {sz : Nat} {N : Nat} (u_this : K7) (u_this_mines : (Nat → Int32)) (u_this_others : (Nat → Int32)) (p1 : Int32) (p2 : Int32) {rv : Int32} (hM : f_X7_isRest N u_this u_this_mines u_this_others p1 p2 = some rv) : Met l yX7_isRest wsX7_isRest ({ frames := 0, cells := 0, slots := 0, locals := 0 } : Room) (va_Pc [.ref (x 0), .int p1, .int p2] (xPre D T [((x 0), .inr (7, o7 x u_this)), ((x 12), .inl (T.1, 100, .inl u_this_mines)), ((x 13), .inl (T.1, 100, .inl u_this_others))] sz xE0)) (va_Qi (fun (r : Int32) (_ : Unit) => r = rv) (fun _ => xPost D T [((x 0), .inr (7, o7 x u_this)), ((x 12), .inl (T.1, 100, .inl u_this_mines)), ((x 13), .inl (T.1, 100, .inl u_this_others))] (va_A [((x 0), .inr (7, o7 x u_this)), ((x 12), .inl (T.1, 100, .inl u_this_mines)), ((x 13), .inl (T.1, 100, .inl u_this_others))] sz)) (va_A [((x 0), .inr (7, o7 x u_this)), ((x 12), .inl (T.1, 100, .inl u_this_mines)), ((x 13), .inl (T.1, 100, .inl u_this_others))] sz)) 0 0 (va_A [((x 0), .inr (7, o7 x u_this)), ((x 12), .inl (T.1, 100, .inl u_this_mines)), ((x 13), .inl (T.1, 100, .inl u_this_others))] sz) := by
  refine xMet (av := [.ref (x 0), .int p1, .int p2]) (Wd := [((x 0), .inr (7, o7 x u_this)), ((x 12), .inl (T.1, 100, .inl u_this_mines)), ((x 13), .inl (T.1, 100, .inl u_this_others))]) (E := xE0) (Qc := fun A => (va_Qi (fun (r : Int32) (_ : Unit) => r = rv) (fun _ => xPost D T [((x 0), .inr (7, o7 x u_this)), ((x 12), .inl (T.1, 100, .inl u_this_mines)), ((x 13), .inl (T.1, 100, .inl u_this_others))] A) A)) (cc := cX7_isRest) (maxL := 5) (ret := (some .boolean)) (by decide) rfl (Nat.le_of_ble_eq_true rfl) ?_
  intro p e s m below meth c A ls hx hb hr hml hts hown hlocks hnm hP hK hD hS hA hE hl
  have hown : s.vm.findClass RX7 = some m.cls := hown
  have hl : lv_has ls 5 [(0, .ref (x 0)), (1, .int p1), (2, .int p2)] := hl
  unfold f_X7_isRest at hM
  refine lv_iconst (v := 1) hx hb dX7_isRest_0 (by decide) ?_
  refine lv_istore_n (lv' := [(3, .int (1)), (0, .ref (x 0)), (1, .int p1), (2, .int p2)]) hx hb dX7_isRest_1 rfl hl (by decide) rfl (fun ls hl => ?_)
  refine lv_iconst (v := 0) hx hb dX7_isRest_2 (by decide) ?_
  refine lv_istore (lv' := [(4, .int (0)), (3, .int (1)), (0, .ref (x 0)), (1, .int p1), (2, .int p2)]) hx hb dX7_isRest_3 hl (by decide) rfl (fun ls hl => ?_)
  obtain ⟨v9, hM, hNv9⟩ := xbd hM
  have hQv9 := hM
  have Kv9 : ∀ (H : Heap) (locs : List Loc) (ls : Array Slot), va_P D vwCl [((x 0), .inr (7, o7 x u_this)), ((x 12), .inl (T.1, 100, .inl u_this_mines)), ((x 13), .inl (T.1, 100, .inl u_this_others))] H → va_D A [((x 0), .inr (7, o7 x u_this)), ((x 12), .inl (T.1, 100, .inl u_this_mines)), ((x 13), .inl (T.1, 100, .inl u_this_others))] → va_S A s.heap H locs → lv_has ls 5 [(3, .int v9.1)] → W p l e ({ frames := 0, cells := 0, slots := 0, locals := 0 } : Room) s m ([.ref (x 0), .int p1, .int p2] : List Value).toArray below meth c H locs 0 0 (MQ below (va_Qi (fun (r : Int32) (_ : Unit) => r = rv) (fun _ => xPost D T [((x 0), .inr (7, o7 x u_this)), ((x 12), .inl (T.1, 100, .inl u_this_mines)), ((x 13), .inl (T.1, 100, .inl u_this_others))] A) A) ([.ref (x 0), .int p1, .int p2] : List Value).toArray s 0 0 A) (F0 m 80 ls []) := by
    intro H locs ls hP hD hS hl
    have hM := hNv9
    refine lv_iload_n hx hb dX7_isRest_80 rfl (lv_at hl 0 rfl) ?_
    obtain rfl := Option.some.inj hM
    exact xretz hx hb hr hlocks hP hK hD hS dX7_isRest_81 rfl (xnz1 (b_X7_isRest hQv9))
  have Lv1 : ∀ (n : Nat) (v1 : Int32 × Int32), xlp (s_X7_isRest_5 u_this_mines u_this_others p1 p2) n v1 = some v9 → ∀ (H : Heap) (locs : List Loc) (ls : Array Slot), va_P D vwCl [((x 0), .inr (7, o7 x u_this)), ((x 12), .inl (T.1, 100, .inl u_this_mines)), ((x 13), .inl (T.1, 100, .inl u_this_others))] H → va_D A [((x 0), .inr (7, o7 x u_this)), ((x 12), .inl (T.1, 100, .inl u_this_mines)), ((x 13), .inl (T.1, 100, .inl u_this_others))] → va_S A s.heap H locs → lv_has ls 5 [(0, .ref (x 0)), (1, .int p1), (2, .int p2), (3, .int v1.1), (4, .int v1.2)] → W p l e ({ frames := 0, cells := 0, slots := 0, locals := 0 } : Room) s m ([.ref (x 0), .int p1, .int p2] : List Value).toArray below meth c H locs 0 0 (MQ below (va_Qi (fun (r : Int32) (_ : Unit) => r = rv) (fun _ => xPost D T [((x 0), .inr (7, o7 x u_this)), ((x 12), .inl (T.1, 100, .inl u_this_mines)), ((x 13), .inl (T.1, 100, .inl u_this_others))] A) A) ([.ref (x 0), .int p1, .int p2] : List Value).toArray s 0 0 A) (F0 m 5 ls []) := by
    intro n
    induction n with
    | zero => exact fun _ h => (xlp_0 h).elim
    | succ n ih =>
      intro v1 hM H locs ls hP hD hS hl
      obtain ⟨z, hM, hz1, hz2⟩ := xlp_s hM
      unfold s_X7_isRest_5 at hM
      refine lv_iload hx hb dX7_isRest_5 (lv_at hl 4 rfl) ?_
      refine lv_bipush (v := 10) hx hb dX7_isRest_7 (by decide) ?_
      refine lv_icmp_ge (tgt := 80) hx hb dX7_isRest_9 (by decide) (fun c2 => ?_) (fun c2 => ?_)
      · have hM := xit c2 hM
        obtain rfl := hz2 _ (Option.some.inj hM).symm
        exact Kv9 _ _ _ hP hD hS (lv_sub hl [3] rfl)
      · have hM := xif c2 hM
        refine lv_iload_n hx hb dX7_isRest_12 rfl (lv_at hl 3 rfl) ?_
        refine lv_if_eq (tgt := 72) hx hb dX7_isRest_13 (by decide) (fun c3 => ?_) (fun c3 => ?_)
        · have hM := xit c3 hM
          refine lv_iconst (v := 0) hx hb dX7_isRest_72 (by decide) ?_
          refine lv_istore_n (lv' := [(3, .int (0)), (0, .ref (x 0)), (1, .int p1), (2, .int p2), (4, .int v1.2)]) hx hb dX7_isRest_73 rfl hl (by decide) rfl (fun ls hl => ?_)
          refine lv_iinc (v := v1.2 + 1) (lv' := [(4, .int (v1.2 + 1)), (3, .int (0)), (0, .ref (x 0)), (1, .int p1), (2, .int p2)]) hx hb dX7_isRest_74 hl (k := 4) rfl rfl (by decide) rfl (fun ls hl => ?_)
          refine lv_goto (tgt := 5) hx hb dX7_isRest_77 (by decide) ?_
          exact ih _ (hz1 _ (Option.some.inj hM).symm) _ _ _ hP hD hS (lv_sub hl [2, 3, 4, 1, 0] rfl)
        · have hM := xif c3 hM
          refine lv_aload_n hx hb dX7_isRest_16 rfl (lv_at hl 0 rfl) ?_
          refine va_get (D := D) (ci := 7) (v := .ref (x 12)) (C := RX7) (T := TX7) (N := 30) hx hb hts (fun w h => List.mem_cons_of_mem _ (List.mem_append_right _ h)) hown hK hP 0 rfl rfl 21 (by decide) (hts _ (List.mem_of_getElem? (i := 1) rfl)) (fun _ h9 => h9) rfl dX7_isRest_17 ?_
          refine lv_bipush (v := 10) hx hb dX7_isRest_20 (by decide) ?_
          refine lv_iload hx hb dX7_isRest_22 (lv_at hl 4 rfl) ?_
          refine lv_imul hx hb dX7_isRest_24 ?_
          refine lv_iload_n hx hb dX7_isRest_25 rfl (lv_at hl 2 rfl) ?_
          refine lv_iadd hx hb dX7_isRest_26 ?_
          obtain ⟨g4, hM⟩ := xck hM
          refine xald (v := (u_this_mines (((10) * v1.2) + p2).toNatClampNeg)) hx hb hK hP 1 0 rfl rfl g4 rfl dX7_isRest_27 ?_
          refine lv_aload_n hx hb dX7_isRest_28 rfl (lv_at hl 0 rfl) ?_
          refine va_get (D := D) (ci := 7) (v := .ref (x 12)) (C := RX7) (T := TX7) (N := 30) hx hb hts (fun w h => List.mem_cons_of_mem _ (List.mem_append_right _ h)) hown hK hP 0 rfl rfl 21 (by decide) (hts _ (List.mem_of_getElem? (i := 1) rfl)) (fun _ h9 => h9) rfl dX7_isRest_29 ?_
          refine lv_bipush (v := 10) hx hb dX7_isRest_32 (by decide) ?_
          refine lv_iload_n hx hb dX7_isRest_34 rfl (lv_at hl 1 rfl) ?_
          refine lv_imul hx hb dX7_isRest_35 ?_
          refine lv_iload_n hx hb dX7_isRest_36 rfl (lv_at hl 2 rfl) ?_
          refine lv_iadd hx hb dX7_isRest_37 ?_
          obtain ⟨g5, hM⟩ := xck hM
          refine xald (v := (u_this_mines (((10) * p1) + p2).toNatClampNeg)) hx hb hK hP 1 0 rfl rfl g5 rfl dX7_isRest_38 ?_
          refine lv_icmp_gt (tgt := 72) hx hb dX7_isRest_39 (by decide) (fun c6 => ?_) (fun c6 => ?_)
          · have hM := xit c6 hM
            refine lv_iconst (v := 0) hx hb dX7_isRest_72 (by decide) ?_
            refine lv_istore_n (lv' := [(3, .int (0)), (0, .ref (x 0)), (1, .int p1), (2, .int p2), (4, .int v1.2)]) hx hb dX7_isRest_73 rfl hl (by decide) rfl (fun ls hl => ?_)
            refine lv_iinc (v := v1.2 + 1) (lv' := [(4, .int (v1.2 + 1)), (3, .int (0)), (0, .ref (x 0)), (1, .int p1), (2, .int p2)]) hx hb dX7_isRest_74 hl (k := 4) rfl rfl (by decide) rfl (fun ls hl => ?_)
            refine lv_goto (tgt := 5) hx hb dX7_isRest_77 (by decide) ?_
            exact ih _ (hz1 _ (Option.some.inj hM).symm) _ _ _ hP hD hS (lv_sub hl [2, 3, 4, 1, 0] rfl)
          · have hM := xif c6 hM
            refine lv_aload_n hx hb dX7_isRest_42 rfl (lv_at hl 0 rfl) ?_
            refine va_get (D := D) (ci := 7) (v := .ref (x 13)) (C := RX7) (T := TX7) (N := 30) hx hb hts (fun w h => List.mem_cons_of_mem _ (List.mem_append_right _ h)) hown hK hP 0 rfl rfl 22 (by decide) (hts _ (List.mem_of_getElem? (i := 2) rfl)) (fun _ h9 => h9) rfl dX7_isRest_43 ?_
            refine lv_bipush (v := 10) hx hb dX7_isRest_46 (by decide) ?_
            refine lv_iload_n hx hb dX7_isRest_48 rfl (lv_at hl 1 rfl) ?_
            refine lv_imul hx hb dX7_isRest_49 ?_
            refine lv_iload hx hb dX7_isRest_50 (lv_at hl 4 rfl) ?_
            refine lv_iadd hx hb dX7_isRest_52 ?_
            obtain ⟨g7, hM⟩ := xck hM
            refine xald (v := (u_this_others (((10) * p1) + v1.2).toNatClampNeg)) hx hb hK hP 2 0 rfl rfl g7 rfl dX7_isRest_53 ?_
            refine lv_aload_n hx hb dX7_isRest_54 rfl (lv_at hl 0 rfl) ?_
            refine va_get (D := D) (ci := 7) (v := .ref (x 13)) (C := RX7) (T := TX7) (N := 30) hx hb hts (fun w h => List.mem_cons_of_mem _ (List.mem_append_right _ h)) hown hK hP 0 rfl rfl 22 (by decide) (hts _ (List.mem_of_getElem? (i := 2) rfl)) (fun _ h9 => h9) rfl dX7_isRest_55 ?_
            refine lv_bipush (v := 10) hx hb dX7_isRest_58 (by decide) ?_
            refine lv_iload_n hx hb dX7_isRest_60 rfl (lv_at hl 1 rfl) ?_
            refine lv_imul hx hb dX7_isRest_61 ?_
            refine lv_iload_n hx hb dX7_isRest_62 rfl (lv_at hl 2 rfl) ?_
            refine lv_iadd hx hb dX7_isRest_63 ?_
            refine xald (v := (u_this_others (((10) * p1) + p2).toNatClampNeg)) hx hb hK hP 2 0 rfl rfl g5 rfl dX7_isRest_64 ?_
            refine lv_icmp_gt (tgt := 72) hx hb dX7_isRest_65 (by decide) (fun c8 => ?_) (fun c8 => ?_)
            · have hM := xit c8 hM
              refine lv_iconst (v := 0) hx hb dX7_isRest_72 (by decide) ?_
              refine lv_istore_n (lv' := [(3, .int (0)), (0, .ref (x 0)), (1, .int p1), (2, .int p2), (4, .int v1.2)]) hx hb dX7_isRest_73 rfl hl (by decide) rfl (fun ls hl => ?_)
              refine lv_iinc (v := v1.2 + 1) (lv' := [(4, .int (v1.2 + 1)), (3, .int (0)), (0, .ref (x 0)), (1, .int p1), (2, .int p2)]) hx hb dX7_isRest_74 hl (k := 4) rfl rfl (by decide) rfl (fun ls hl => ?_)
              refine lv_goto (tgt := 5) hx hb dX7_isRest_77 (by decide) ?_
              exact ih _ (hz1 _ (Option.some.inj hM).symm) _ _ _ hP hD hS (lv_sub hl [2, 3, 4, 1, 0] rfl)
            · have hM := xif c8 hM
              refine lv_iconst (v := 1) hx hb dX7_isRest_68 (by decide) ?_
              refine lv_goto (tgt := 73) hx hb dX7_isRest_69 (by decide) ?_
              refine lv_istore_n (lv' := [(3, .int (1)), (0, .ref (x 0)), (1, .int p1), (2, .int p2), (4, .int v1.2)]) hx hb dX7_isRest_73 rfl hl (by decide) rfl (fun ls hl => ?_)
              refine lv_iinc (v := v1.2 + 1) (lv' := [(4, .int (v1.2 + 1)), (3, .int (1)), (0, .ref (x 0)), (1, .int p1), (2, .int p2)]) hx hb dX7_isRest_74 hl (k := 4) rfl rfl (by decide) rfl (fun ls hl => ?_)
              refine lv_goto (tgt := 5) hx hb dX7_isRest_77 (by decide) ?_
              exact ih _ (hz1 _ (Option.some.inj hM).symm) _ _ _ hP hD hS (lv_sub hl [2, 3, 4, 1, 0] rfl)
  exact Lv1 _ _ hM _ _ _ hP hD hS (lv_sub hl [2, 3, 4, 1, 0] rfl)
def s_X7_rests_23 (N : Nat) (u_this_told : (Nat → Int32)) (p1 : Int32) (v3 : Int32 × K7 × (Nat → Int32) × (Nat → Int32) × (Nat → Int32) × (Nat → Int32)) : Option ((Int32 × K7 × (Nat → Int32) × (Nat → Int32) × (Nat → Int32) × (Nat → Int32)) ⊕ (Int32 × K7 × (Nat → Int32) × (Nat → Int32) × (Nat → Int32) × (Nat → Int32))) :=
  if (100) ≤ v3.1 then
   (some (.inr (v3.1, v3.2.1, v3.2.2.1, v3.2.2.2.1, v3.2.2.2.2.1, v3.2.2.2.2.2)))
  else
   ((f_X7_goDay N v3.2.1 u_this_told v3.2.2.1 v3.2.2.2.1 ((10) * (v3.1 / (10))) ((10) * (v3.1 - v3.1 / (10) * (10))) p1).bind fun r5 =>
    if xin v3.1 100 = true then
    (some (.inl (v3.1 + 1, r5.1, r5.2.1, r5.2.2, (upd v3.2.2.2.2.1 v3.1.toNatClampNeg r5.1.2.2.2.2.2.2.2.2.1), (upd v3.2.2.2.2.2 v3.1.toNatClampNeg r5.1.2.2.2.2.2.2.2.2.2.1))))
    else none)
def s_X7_rests_83 (N : Nat) (v7 : Int32 × K7 × (Nat → Int32) × (Nat → Int32) × (Nat → Int32) × (Nat → Int32)) (v8 : Int32 × Int32 × Int32) : Option ((Int32 × Int32 × Int32) ⊕ (Int32 × Int32 × Int32)) :=
  if (100) ≤ v8.2.2 then
   (some (.inr (v8.1, v8.2.1, v8.2.2)))
  else
   ((f_X7_isRest N v7.2.1 v7.2.2.2.2.1 v7.2.2.2.2.2 (v8.2.2 / (10)) (v8.2.2 - v8.2.2 / (10) * (10))).bind fun r10 =>
    if r10 = (0) then
     (some (.inl (v8.1, v8.2.1, v8.2.2 + 1)))
    else
     (if v8.1 = (0) then
       (some (.inl (v8.1 + 1, v8.2.2, v8.2.2 + 1)))
      else
       (some (.inl (v8.1 + 1, v8.2.1, v8.2.2 + 1)))))
def f_X7_rests (N : Nat) (u_this : K7) (u_this_told : (Nat → Int32)) (u_this_par : (Nat → Int32)) (u_this_try0 : (Nat → Int32)) (u_this_mines : (Nat → Int32)) (u_this_others : (Nat → Int32)) (p1 : Int32) (p2 : Int32) : Option (Int32 × K7 × (Nat → Int32) × (Nat → Int32) × (Nat → Int32) × (Nat → Int32)) :=
  if (f_X7_in p1 (1) (24)) = (0) then
   (some ((-1), u_this, u_this_par, u_this_try0, u_this_mines, u_this_others))
  else
   (if (f_X7_in p2 (0) (1)) = (0) then
     (some ((-1), u_this, u_this_par, u_this_try0, u_this_mines, u_this_others))
    else
     ((xlp (s_X7_rests_23 N u_this_told p1) N (0, u_this, u_this_par, u_this_try0, u_this_mines, u_this_others)).bind fun v7 =>
      (xlp (s_X7_rests_83 N v7) N (0, (-9), 0)).bind fun v13 =>
      if p2 = (0) then
       (some (v13.1, v7.2.1, v7.2.2.1, v7.2.2.2.1, v7.2.2.2.2.1, v7.2.2.2.2.2))
      else
       (some (v13.2.1, v7.2.1, v7.2.2.1, v7.2.2.2.1, v7.2.2.2.2.1, v7.2.2.2.2.2))))
set_option maxHeartbeats 4000000 in
set_option maxRecDepth 100000 in
theorem c_X7_rests (l : Launch) (D : va_G) (T : xT) (x : Nat → Nat) {sz : Nat} {N : Nat} (u_this : K7) (u_this_told : (Nat → Int32)) (u_this_par : (Nat → Int32)) (u_this_try0 : (Nat → Int32)) (u_this_mines : (Nat → Int32)) (u_this_others : (Nat → Int32)) (p1 : Int32) (p2 : Int32) {rv : Int32 × K7 × (Nat → Int32) × (Nat → Int32) × (Nat → Int32) × (Nat → Int32)} (hM : f_X7_rests N u_this u_this_told u_this_par u_this_try0 u_this_mines u_this_others p1 p2 = some rv) : Met l yX7_rests wsX7_rests ({ frames := 5, cells := 0, slots := 0, locals := 112 } : Room) (va_Pc [.ref (x 0), .int p1, .int p2] (xPre D T [((x 0), .inr (7, o7 x u_this)), ((x 2), .inl (T.1, 22, .inl u_this_told)), ((x 3), .inl (T.1, 11, .inl u_this_par)), ((x 4), .inl (T.1, 7, .inl u_this_try0)), ((x 12), .inl (T.1, 100, .inl u_this_mines)), ((x 13), .inl (T.1, 100, .inl u_this_others))] sz xE0)) (va_Qi (fun (r : Int32) (_ : Unit) => r = rv.1) (fun _ => xPost D T [((x 0), .inr (7, o7 x rv.2.1)), ((x 2), .inl (T.1, 22, .inl u_this_told)), ((x 3), .inl (T.1, 11, .inl rv.2.2.1)), ((x 4), .inl (T.1, 7, .inl rv.2.2.2.1)), ((x 12), .inl (T.1, 100, .inl rv.2.2.2.2.1)), ((x 13), .inl (T.1, 100, .inl rv.2.2.2.2.2))] (va_A [((x 0), .inr (7, o7 x u_this)), ((x 2), .inl (T.1, 22, .inl u_this_told)), ((x 3), .inl (T.1, 11, .inl u_this_par)), ((x 4), .inl (T.1, 7, .inl u_this_try0)), ((x 12), .inl (T.1, 100, .inl u_this_mines)), ((x 13), .inl (T.1, 100, .inl u_this_others))] sz)) (va_A [((x 0), .inr (7, o7 x u_this)), ((x 2), .inl (T.1, 22, .inl u_this_told)), ((x 3), .inl (T.1, 11, .inl u_this_par)), ((x 4), .inl (T.1, 7, .inl u_this_try0)), ((x 12), .inl (T.1, 100, .inl u_this_mines)), ((x 13), .inl (T.1, 100, .inl u_this_others))] sz)) 0 0 (va_A [((x 0), .inr (7, o7 x u_this)), ((x 2), .inl (T.1, 22, .inl u_this_told)), ((x 3), .inl (T.1, 11, .inl u_this_par)), ((x 4), .inl (T.1, 7, .inl u_this_try0)), ((x 12), .inl (T.1, 100, .inl u_this_mines)), ((x 13), .inl (T.1, 100, .inl u_this_others))] sz) := by
  refine xMet (av := [.ref (x 0), .int p1, .int p2]) (Wd := [((x 0), .inr (7, o7 x u_this)), ((x 2), .inl (T.1, 22, .inl u_this_told)), ((x 3), .inl (T.1, 11, .inl u_this_par)), ((x 4), .inl (T.1, 7, .inl u_this_try0)), ((x 12), .inl (T.1, 100, .inl u_this_mines)), ((x 13), .inl (T.1, 100, .inl u_this_others))]) (E := xE0) (Qc := fun A => (va_Qi (fun (r : Int32) (_ : Unit) => r = rv.1) (fun _ => xPost D T [((x 0), .inr (7, o7 x rv.2.1)), ((x 2), .inl (T.1, 22, .inl u_this_told)), ((x 3), .inl (T.1, 11, .inl rv.2.2.1)), ((x 4), .inl (T.1, 7, .inl rv.2.2.2.1)), ((x 12), .inl (T.1, 100, .inl rv.2.2.2.2.1)), ((x 13), .inl (T.1, 100, .inl rv.2.2.2.2.2))] A) A)) (cc := cX7_rests) (maxL := 6) (ret := (some .int)) (by decide) rfl (Nat.le_of_ble_eq_true rfl) ?_
  intro p e s m below meth c A ls hx hb hr hml hts hown hlocks hnm hP hK hD hS hA hE hl
  have hown : s.vm.findClass RX7 = some m.cls := hown
  have hl : lv_has ls 6 [(0, .ref (x 0)), (1, .int p1), (2, .int p2)] := hl
  unfold f_X7_rests at hM
  refine lv_iload_n hx hb dX7_rests_0 rfl (lv_at hl 1 rfl) ?_
  refine lv_iconst (v := 1) hx hb dX7_rests_1 (by decide) ?_
  refine lv_bipush (v := 24) hx hb dX7_rests_2 (by decide) ?_
  refine xafti (rv := (f_X7_in p1 (1) (24))) (W2 := [((x 0), .inr (7, o7 x u_this)), ((x 2), .inl (T.1, 22, .inl u_this_told)), ((x 3), .inl (T.1, 11, .inl u_this_par)), ((x 4), .inl (T.1, 7, .inl u_this_try0)), ((x 12), .inl (T.1, 100, .inl u_this_mines)), ((x 13), .inl (T.1, 100, .inl u_this_others))]) (va_runS (As := [.int p1, .int (1), .int (24)]) (rest := []) ⟨hx, hb, hml, hown, hts⟩ (c_X7_in (rv := (f_X7_in p1 (1) (24))) l D T p1 (1) (24) rfl) (cwS 3 hts gX7_rests_X7_in rfl rfl rfl (by decide +kernel) ⟨Nat.le_of_ble_eq_true rfl, Nat.le_of_ble_eq_true rfl⟩) (xpvs hP hD hK [] (by decide) rfl (fun _ _ _ => trivial) (fun _ _ _ _ _ _ => trivial)) rfl rfl hl.1 rfl (lv_room (Nat.le_of_ble_eq_true rfl)) dX7_rests_4 ⟨Nat.le_of_ble_eq_true rfl, Nat.le_of_ble_eq_true rfl⟩) hP hD hS hA [] rfl rfl rfl rfl (fun H locs hP hD hS => ?_)
  refine lv_if_eq (tgt := 19) hx hb dX7_rests_7 (by decide) (fun c1 => ?_) (fun c1 => ?_)
  · have hM := xit c1 hM
    refine lv_iconst (v := (-1)) hx hb dX7_rests_19 (by decide) ?_
    obtain rfl := Option.some.inj hM
    exact xreti hx hb hr hlocks hP hK hD hS dX7_rests_20 rfl
  · have hM := xif c1 hM
    refine lv_iload_n hx hb dX7_rests_10 rfl (lv_at hl 2 rfl) ?_
    refine lv_iconst (v := 0) hx hb dX7_rests_11 (by decide) ?_
    refine lv_iconst (v := 1) hx hb dX7_rests_12 (by decide) ?_
    refine xafti (rv := (f_X7_in p2 (0) (1))) (W2 := [((x 0), .inr (7, o7 x u_this)), ((x 2), .inl (T.1, 22, .inl u_this_told)), ((x 3), .inl (T.1, 11, .inl u_this_par)), ((x 4), .inl (T.1, 7, .inl u_this_try0)), ((x 12), .inl (T.1, 100, .inl u_this_mines)), ((x 13), .inl (T.1, 100, .inl u_this_others))]) (va_runS (As := [.int p2, .int (0), .int (1)]) (rest := []) ⟨hx, hb, hml, hown, hts⟩ (c_X7_in (rv := (f_X7_in p2 (0) (1))) l D T p2 (0) (1) rfl) (cwS 3 hts gX7_rests_X7_in rfl rfl rfl (by decide +kernel) ⟨Nat.le_of_ble_eq_true rfl, Nat.le_of_ble_eq_true rfl⟩) (xpvs hP hD hK [] (by decide) rfl (fun _ _ _ => trivial) (fun _ _ _ _ _ _ => trivial)) rfl rfl hl.1 rfl (lv_room (Nat.le_of_ble_eq_true rfl)) dX7_rests_13 ⟨Nat.le_of_ble_eq_true rfl, Nat.le_of_ble_eq_true rfl⟩) hP hD hS hA [] rfl rfl rfl rfl (fun H locs hP hD hS => ?_)
    refine lv_if_ne (tgt := 21) hx hb dX7_rests_16 (by decide) (fun c2 => ?_) (fun c2 => ?_)
    · have hM := xif c2 hM
      refine lv_iconst (v := 0) hx hb dX7_rests_21 (by decide) ?_
      refine lv_istore_n (lv' := [(3, .int (0)), (0, .ref (x 0)), (1, .int p1), (2, .int p2)]) hx hb dX7_rests_22 rfl hl (by decide) rfl (fun ls hl => ?_)
      obtain ⟨v7, hM, hNv7⟩ := xbd hM
      have hQv7 := hM
      have Kv7 : ∀ (H : Heap) (locs : List Loc) (ls : Array Slot), va_P D vwCl [((x 0), .inr (7, o7 x v7.2.1)), ((x 2), .inl (T.1, 22, .inl u_this_told)), ((x 3), .inl (T.1, 11, .inl v7.2.2.1)), ((x 4), .inl (T.1, 7, .inl v7.2.2.2.1)), ((x 12), .inl (T.1, 100, .inl v7.2.2.2.2.1)), ((x 13), .inl (T.1, 100, .inl v7.2.2.2.2.2))] H → va_D A [((x 0), .inr (7, o7 x v7.2.1)), ((x 2), .inl (T.1, 22, .inl u_this_told)), ((x 3), .inl (T.1, 11, .inl v7.2.2.1)), ((x 4), .inl (T.1, 7, .inl v7.2.2.2.1)), ((x 12), .inl (T.1, 100, .inl v7.2.2.2.2.1)), ((x 13), .inl (T.1, 100, .inl v7.2.2.2.2.2))] → va_S A s.heap H locs → lv_has ls 6 [(0, .ref (x 0)), (2, .int p2)] → W p l e ({ frames := 5, cells := 0, slots := 0, locals := 112 } : Room) s m ([.ref (x 0), .int p1, .int p2] : List Value).toArray below meth c H locs 0 0 (MQ below (va_Qi (fun (r : Int32) (_ : Unit) => r = rv.1) (fun _ => xPost D T [((x 0), .inr (7, o7 x rv.2.1)), ((x 2), .inl (T.1, 22, .inl u_this_told)), ((x 3), .inl (T.1, 11, .inl rv.2.2.1)), ((x 4), .inl (T.1, 7, .inl rv.2.2.2.1)), ((x 12), .inl (T.1, 100, .inl rv.2.2.2.2.1)), ((x 13), .inl (T.1, 100, .inl rv.2.2.2.2.2))] A) A) ([.ref (x 0), .int p1, .int p2] : List Value).toArray s 0 0 A) (F0 m 74 ls []) := by
        intro H locs ls hP hD hS hl
        have hM := hNv7
        refine lv_iconst (v := 0) hx hb dX7_rests_74 (by decide) ?_
        refine lv_istore_n (lv' := [(3, .int (0)), (0, .ref (x 0)), (2, .int p2)]) hx hb dX7_rests_75 rfl hl (by decide) rfl (fun ls hl => ?_)
        refine lv_bipush (v := (-9)) hx hb dX7_rests_76 (by decide) ?_
        refine lv_istore (lv' := [(4, .int (-9)), (3, .int (0)), (0, .ref (x 0)), (2, .int p2)]) hx hb dX7_rests_78 hl (by decide) rfl (fun ls hl => ?_)
        refine lv_iconst (v := 0) hx hb dX7_rests_80 (by decide) ?_
        refine lv_istore (lv' := [(5, .int (0)), (4, .int (-9)), (3, .int (0)), (0, .ref (x 0)), (2, .int p2)]) hx hb dX7_rests_81 hl (by decide) rfl (fun ls hl => ?_)
        obtain ⟨v13, hM, hNv13⟩ := xbd hM
        have hQv13 := hM
        have Kv13 : ∀ (H : Heap) (locs : List Loc) (ls : Array Slot), va_P D vwCl [((x 0), .inr (7, o7 x v7.2.1)), ((x 2), .inl (T.1, 22, .inl u_this_told)), ((x 3), .inl (T.1, 11, .inl v7.2.2.1)), ((x 4), .inl (T.1, 7, .inl v7.2.2.2.1)), ((x 12), .inl (T.1, 100, .inl v7.2.2.2.2.1)), ((x 13), .inl (T.1, 100, .inl v7.2.2.2.2.2))] H → va_D A [((x 0), .inr (7, o7 x v7.2.1)), ((x 2), .inl (T.1, 22, .inl u_this_told)), ((x 3), .inl (T.1, 11, .inl v7.2.2.1)), ((x 4), .inl (T.1, 7, .inl v7.2.2.2.1)), ((x 12), .inl (T.1, 100, .inl v7.2.2.2.2.1)), ((x 13), .inl (T.1, 100, .inl v7.2.2.2.2.2))] → va_S A s.heap H locs → lv_has ls 6 [(2, .int p2), (3, .int v13.1), (4, .int v13.2.1)] → W p l e ({ frames := 5, cells := 0, slots := 0, locals := 112 } : Room) s m ([.ref (x 0), .int p1, .int p2] : List Value).toArray below meth c H locs 0 0 (MQ below (va_Qi (fun (r : Int32) (_ : Unit) => r = rv.1) (fun _ => xPost D T [((x 0), .inr (7, o7 x rv.2.1)), ((x 2), .inl (T.1, 22, .inl u_this_told)), ((x 3), .inl (T.1, 11, .inl rv.2.2.1)), ((x 4), .inl (T.1, 7, .inl rv.2.2.2.1)), ((x 12), .inl (T.1, 100, .inl rv.2.2.2.2.1)), ((x 13), .inl (T.1, 100, .inl rv.2.2.2.2.2))] A) A) ([.ref (x 0), .int p1, .int p2] : List Value).toArray s 0 0 A) (F0 m 129 ls []) := by
          intro H locs ls hP hD hS hl
          have hM := hNv13
          refine lv_iload_n hx hb dX7_rests_129 rfl (lv_at hl 0 rfl) ?_
          refine lv_if_ne (tgt := 137) hx hb dX7_rests_130 (by decide) (fun c14 => ?_) (fun c14 => ?_)
          · have hM := xif c14 hM
            refine lv_iload hx hb dX7_rests_137 (lv_at hl 2 rfl) ?_
            obtain rfl := Option.some.inj hM
            exact xreti hx hb hr hlocks hP hK hD hS dX7_rests_139 rfl
          · have hM := xit c14 hM
            refine lv_iload_n hx hb dX7_rests_133 rfl (lv_at hl 1 rfl) ?_
            refine lv_goto (tgt := 139) hx hb dX7_rests_134 (by decide) ?_
            obtain rfl := Option.some.inj hM
            exact xreti hx hb hr hlocks hP hK hD hS dX7_rests_139 rfl
        have Lv8 : ∀ (n : Nat) (v8 : Int32 × Int32 × Int32), xlp (s_X7_rests_83 N v7) n v8 = some v13 → ∀ (H : Heap) (locs : List Loc) (ls : Array Slot), va_P D vwCl [((x 0), .inr (7, o7 x v7.2.1)), ((x 2), .inl (T.1, 22, .inl u_this_told)), ((x 3), .inl (T.1, 11, .inl v7.2.2.1)), ((x 4), .inl (T.1, 7, .inl v7.2.2.2.1)), ((x 12), .inl (T.1, 100, .inl v7.2.2.2.2.1)), ((x 13), .inl (T.1, 100, .inl v7.2.2.2.2.2))] H → va_D A [((x 0), .inr (7, o7 x v7.2.1)), ((x 2), .inl (T.1, 22, .inl u_this_told)), ((x 3), .inl (T.1, 11, .inl v7.2.2.1)), ((x 4), .inl (T.1, 7, .inl v7.2.2.2.1)), ((x 12), .inl (T.1, 100, .inl v7.2.2.2.2.1)), ((x 13), .inl (T.1, 100, .inl v7.2.2.2.2.2))] → va_S A s.heap H locs → lv_has ls 6 [(0, .ref (x 0)), (2, .int p2), (3, .int v8.1), (4, .int v8.2.1), (5, .int v8.2.2)] → W p l e ({ frames := 5, cells := 0, slots := 0, locals := 112 } : Room) s m ([.ref (x 0), .int p1, .int p2] : List Value).toArray below meth c H locs 0 0 (MQ below (va_Qi (fun (r : Int32) (_ : Unit) => r = rv.1) (fun _ => xPost D T [((x 0), .inr (7, o7 x rv.2.1)), ((x 2), .inl (T.1, 22, .inl u_this_told)), ((x 3), .inl (T.1, 11, .inl rv.2.2.1)), ((x 4), .inl (T.1, 7, .inl rv.2.2.2.1)), ((x 12), .inl (T.1, 100, .inl rv.2.2.2.2.1)), ((x 13), .inl (T.1, 100, .inl rv.2.2.2.2.2))] A) A) ([.ref (x 0), .int p1, .int p2] : List Value).toArray s 0 0 A) (F0 m 83 ls []) := by
          intro n
          induction n with
          | zero => exact fun _ h => (xlp_0 h).elim
          | succ n ih =>
            intro v8 hM H locs ls hP hD hS hl
            obtain ⟨z, hM, hz1, hz2⟩ := xlp_s hM
            unfold s_X7_rests_83 at hM
            refine lv_iload hx hb dX7_rests_83 (lv_at hl 4 rfl) ?_
            refine lv_bipush (v := 100) hx hb dX7_rests_85 (by decide) ?_
            refine lv_icmp_ge (tgt := 129) hx hb dX7_rests_87 (by decide) (fun c9 => ?_) (fun c9 => ?_)
            · have hM := xit c9 hM
              obtain rfl := hz2 _ (Option.some.inj hM).symm
              exact Kv13 _ _ _ hP hD hS (lv_sub hl [1, 2, 3] rfl)
            · have hM := xif c9 hM
              refine lv_aload_n hx hb dX7_rests_90 rfl (lv_at hl 0 rfl) ?_
              refine lv_iload hx hb dX7_rests_91 (lv_at hl 4 rfl) ?_
              refine lv_bipush (v := 10) hx hb dX7_rests_93 (by decide) ?_
              refine lv_idiv hx hb dX7_rests_95 (by decide) ?_
              refine lv_iload hx hb dX7_rests_96 (lv_at hl 4 rfl) ?_
              refine lv_bipush (v := 10) hx hb dX7_rests_98 (by decide) ?_
              refine lv_irem hx hb dX7_rests_100 (by decide) ?_
              obtain ⟨r10, er10, hM⟩ := xbd hM
              refine xafti (rv := r10) (W2 := [((x 0), .inr (7, o7 x v7.2.1)), ((x 2), .inl (T.1, 22, .inl u_this_told)), ((x 3), .inl (T.1, 11, .inl v7.2.2.1)), ((x 4), .inl (T.1, 7, .inl v7.2.2.2.1)), ((x 12), .inl (T.1, 100, .inl v7.2.2.2.2.1)), ((x 13), .inl (T.1, 100, .inl v7.2.2.2.2.2))]) (va_runV (As := [.int (v8.2.2 / (10)), .int (v8.2.2 - v8.2.2 / (10) * (10))]) (rest := []) ⟨hx, hb, hml, hown, hts⟩ (c_X7_isRest l D T x v7.2.1 v7.2.2.2.2.1 v7.2.2.2.2.2 (v8.2.2 / (10)) (v8.2.2 - v8.2.2 / (10) * (10)) er10) (cwV 2 hts gX7_rests_X7_isRest rfl rfl rfl (by decide +kernel) ⟨Nat.le_of_ble_eq_true rfl, Nat.le_of_ble_eq_true rfl⟩) (xpvv hP hD hK [0, 4, 5] (by decide) rfl 0 7 rfl rfl (fun _ _ _ => trivial) (fun _ _ _ _ _ _ => trivial)) rfl rfl hl.1 rfl (lv_room (Nat.le_of_ble_eq_true rfl)) dX7_rests_101 ⟨Nat.le_of_ble_eq_true rfl, Nat.le_of_ble_eq_true rfl⟩) hP hD hS hA [0, 4, 5] rfl rfl rfl rfl (fun H locs hP hD hS => ?_)
              refine lv_if_eq (tgt := 123) hx hb dX7_rests_104 (by decide) (fun c11 => ?_) (fun c11 => ?_)
              · have hM := xit c11 hM
                refine lv_iinc (v := v8.2.2 + 1) (lv' := [(5, .int (v8.2.2 + 1)), (0, .ref (x 0)), (2, .int p2), (3, .int v8.1), (4, .int v8.2.1)]) hx hb dX7_rests_123 hl (k := 4) rfl rfl (by decide) rfl (fun ls hl => ?_)
                refine lv_goto (tgt := 83) hx hb dX7_rests_126 (by decide) ?_
                exact ih _ (hz1 _ (Option.some.inj hM).symm) _ _ _ hP hD hS (lv_sub hl [1, 2, 3, 4, 0] rfl)
              · have hM := xif c11 hM
                refine lv_iload_n hx hb dX7_rests_107 rfl (lv_at hl 2 rfl) ?_
                refine lv_if_ne (tgt := 116) hx hb dX7_rests_108 (by decide) (fun c12 => ?_) (fun c12 => ?_)
                · have hM := xif c12 hM
                  refine lv_iload hx hb dX7_rests_116 (lv_at hl 3 rfl) ?_
                  refine lv_istore (lv' := [(4, .int v8.2.1), (0, .ref (x 0)), (2, .int p2), (3, .int v8.1), (5, .int v8.2.2)]) hx hb dX7_rests_118 hl (by decide) rfl (fun ls hl => ?_)
                  refine lv_iinc (v := v8.1 + 1) (lv' := [(3, .int (v8.1 + 1)), (4, .int v8.2.1), (0, .ref (x 0)), (2, .int p2), (5, .int v8.2.2)]) hx hb dX7_rests_120 hl (k := 3) rfl rfl (by decide) rfl (fun ls hl => ?_)
                  refine lv_iinc (v := v8.2.2 + 1) (lv' := [(5, .int (v8.2.2 + 1)), (3, .int (v8.1 + 1)), (4, .int v8.2.1), (0, .ref (x 0)), (2, .int p2)]) hx hb dX7_rests_123 hl (k := 4) rfl rfl (by decide) rfl (fun ls hl => ?_)
                  refine lv_goto (tgt := 83) hx hb dX7_rests_126 (by decide) ?_
                  exact ih _ (hz1 _ (Option.some.inj hM).symm) _ _ _ hP hD hS (lv_sub hl [3, 4, 1, 2, 0] rfl)
                · have hM := xit c12 hM
                  refine lv_iload hx hb dX7_rests_111 (lv_at hl 4 rfl) ?_
                  refine lv_goto (tgt := 118) hx hb dX7_rests_113 (by decide) ?_
                  refine lv_istore (lv' := [(4, .int v8.2.2), (0, .ref (x 0)), (2, .int p2), (3, .int v8.1), (5, .int v8.2.2)]) hx hb dX7_rests_118 hl (by decide) rfl (fun ls hl => ?_)
                  refine lv_iinc (v := v8.1 + 1) (lv' := [(3, .int (v8.1 + 1)), (4, .int v8.2.2), (0, .ref (x 0)), (2, .int p2), (5, .int v8.2.2)]) hx hb dX7_rests_120 hl (k := 3) rfl rfl (by decide) rfl (fun ls hl => ?_)
                  refine lv_iinc (v := v8.2.2 + 1) (lv' := [(5, .int (v8.2.2 + 1)), (3, .int (v8.1 + 1)), (4, .int v8.2.2), (0, .ref (x 0)), (2, .int p2)]) hx hb dX7_rests_123 hl (k := 4) rfl rfl (by decide) rfl (fun ls hl => ?_)
                  refine lv_goto (tgt := 83) hx hb dX7_rests_126 (by decide) ?_
                  exact ih _ (hz1 _ (Option.some.inj hM).symm) _ _ _ hP hD hS (lv_sub hl [3, 4, 1, 2, 0] rfl)
        exact Lv8 _ _ hM _ _ _ hP hD hS (lv_sub hl [3, 4, 2, 1, 0] rfl)
      have Lv3 : ∀ (n : Nat) (v3 : Int32 × K7 × (Nat → Int32) × (Nat → Int32) × (Nat → Int32) × (Nat → Int32)), xlp (s_X7_rests_23 N u_this_told p1) n v3 = some v7 → ∀ (H : Heap) (locs : List Loc) (ls : Array Slot), va_P D vwCl [((x 0), .inr (7, o7 x v3.2.1)), ((x 2), .inl (T.1, 22, .inl u_this_told)), ((x 3), .inl (T.1, 11, .inl v3.2.2.1)), ((x 4), .inl (T.1, 7, .inl v3.2.2.2.1)), ((x 12), .inl (T.1, 100, .inl v3.2.2.2.2.1)), ((x 13), .inl (T.1, 100, .inl v3.2.2.2.2.2))] H → va_D A [((x 0), .inr (7, o7 x v3.2.1)), ((x 2), .inl (T.1, 22, .inl u_this_told)), ((x 3), .inl (T.1, 11, .inl v3.2.2.1)), ((x 4), .inl (T.1, 7, .inl v3.2.2.2.1)), ((x 12), .inl (T.1, 100, .inl v3.2.2.2.2.1)), ((x 13), .inl (T.1, 100, .inl v3.2.2.2.2.2))] → va_S A s.heap H locs → lv_has ls 6 [(0, .ref (x 0)), (1, .int p1), (2, .int p2), (3, .int v3.1)] → W p l e ({ frames := 5, cells := 0, slots := 0, locals := 112 } : Room) s m ([.ref (x 0), .int p1, .int p2] : List Value).toArray below meth c H locs 0 0 (MQ below (va_Qi (fun (r : Int32) (_ : Unit) => r = rv.1) (fun _ => xPost D T [((x 0), .inr (7, o7 x rv.2.1)), ((x 2), .inl (T.1, 22, .inl u_this_told)), ((x 3), .inl (T.1, 11, .inl rv.2.2.1)), ((x 4), .inl (T.1, 7, .inl rv.2.2.2.1)), ((x 12), .inl (T.1, 100, .inl rv.2.2.2.2.1)), ((x 13), .inl (T.1, 100, .inl rv.2.2.2.2.2))] A) A) ([.ref (x 0), .int p1, .int p2] : List Value).toArray s 0 0 A) (F0 m 23 ls []) := by
        intro n
        induction n with
        | zero => exact fun _ h => (xlp_0 h).elim
        | succ n ih =>
          intro v3 hM H locs ls hP hD hS hl
          obtain ⟨z, hM, hz1, hz2⟩ := xlp_s hM
          unfold s_X7_rests_23 at hM
          refine lv_iload_n hx hb dX7_rests_23 rfl (lv_at hl 3 rfl) ?_
          refine lv_bipush (v := 100) hx hb dX7_rests_24 (by decide) ?_
          refine lv_icmp_ge (tgt := 74) hx hb dX7_rests_26 (by decide) (fun c4 => ?_) (fun c4 => ?_)
          · have hM := xit c4 hM
            obtain rfl := hz2 _ (Option.some.inj hM).symm
            exact Kv7 _ _ _ hP hD hS (lv_sub hl [0, 2] rfl)
          · have hM := xif c4 hM
            refine lv_aload_n hx hb dX7_rests_29 rfl (lv_at hl 0 rfl) ?_
            refine lv_bipush (v := 10) hx hb dX7_rests_30 (by decide) ?_
            refine lv_iload_n hx hb dX7_rests_32 rfl (lv_at hl 3 rfl) ?_
            refine lv_bipush (v := 10) hx hb dX7_rests_33 (by decide) ?_
            refine lv_idiv hx hb dX7_rests_35 (by decide) ?_
            refine lv_imul hx hb dX7_rests_36 ?_
            refine lv_bipush (v := 10) hx hb dX7_rests_37 (by decide) ?_
            refine lv_iload_n hx hb dX7_rests_39 rfl (lv_at hl 3 rfl) ?_
            refine lv_bipush (v := 10) hx hb dX7_rests_40 (by decide) ?_
            refine lv_irem hx hb dX7_rests_42 (by decide) ?_
            refine lv_imul hx hb dX7_rests_43 ?_
            refine lv_iload_n hx hb dX7_rests_44 rfl (lv_at hl 1 rfl) ?_
            obtain ⟨r5, er5, hM⟩ := xbd hM
            refine xaftv (W2 := [((x 0), .inr (7, o7 x r5.1)), ((x 2), .inl (T.1, 22, .inl u_this_told)), ((x 3), .inl (T.1, 11, .inl r5.2.1)), ((x 4), .inl (T.1, 7, .inl r5.2.2)), ((x 12), .inl (T.1, 100, .inl v3.2.2.2.2.1)), ((x 13), .inl (T.1, 100, .inl v3.2.2.2.2.2))]) (va_runV (As := [.int ((10) * (v3.1 / (10))), .int ((10) * (v3.1 - v3.1 / (10) * (10))), .int p1]) (rest := []) ⟨hx, hb, hml, hown, hts⟩ (c_X7_goDay l D T x v3.2.1 u_this_told v3.2.2.1 v3.2.2.2.1 ((10) * (v3.1 / (10))) ((10) * (v3.1 - v3.1 / (10) * (10))) p1 er5) (cwV 3 hts gX7_rests_X7_goDay rfl rfl rfl (by decide +kernel) ⟨Nat.le_of_ble_eq_true rfl, Nat.le_of_ble_eq_true rfl⟩) (xpvv hP hD hK [0, 1, 2, 3] (by decide) rfl 0 7 rfl rfl (fun _ _ _ => trivial) (fun _ _ _ _ _ _ => trivial)) rfl rfl hl.1 rfl (lv_room (Nat.le_of_ble_eq_true rfl)) dX7_rests_45 ⟨Nat.le_of_ble_eq_true rfl, Nat.le_of_ble_eq_true rfl⟩) hP hD hS hA [0, 1, 2, 3] rfl rfl rfl rfl (fun H locs hP hD hS => ?_)
            refine lv_aload_n hx hb dX7_rests_48 rfl (lv_at hl 0 rfl) ?_
            refine va_get (D := D) (ci := 7) (v := .ref (x 12)) (C := RX7) (T := TX7) (N := 30) hx hb hts (fun w h => List.mem_cons_of_mem _ (List.mem_append_right _ h)) hown hK hP 0 rfl rfl 21 (by decide) (hts _ (List.mem_of_getElem? (i := 1) rfl)) (fun _ h9 => h9) rfl dX7_rests_49 ?_
            refine lv_iload_n hx hb dX7_rests_52 rfl (lv_at hl 3 rfl) ?_
            refine lv_aload_n hx hb dX7_rests_53 rfl (lv_at hl 0 rfl) ?_
            refine va_get (D := D) (ci := 7) (v := .int r5.1.2.2.2.2.2.2.2.2.1) (C := RX7) (T := TX7) (N := 30) hx hb hts (fun w h => List.mem_cons_of_mem _ (List.mem_append_right _ h)) hown hK hP 0 rfl rfl 19 (by decide) (hts _ (List.mem_of_getElem? (i := 2) rfl)) (fun _ h9 => h9) rfl dX7_rests_54 ?_
            obtain ⟨g6, hM⟩ := xck hM
            refine xast hx hb hK hP hD hS 4 0 rfl rfl g6 rfl dX7_rests_57 (fun H locs hP hD hS => ?_)
            have hP : va_P D vwCl [((x 0), .inr (7, o7 x r5.1)), ((x 2), .inl (T.1, 22, .inl u_this_told)), ((x 3), .inl (T.1, 11, .inl r5.2.1)), ((x 4), .inl (T.1, 7, .inl r5.2.2)), ((x 12), .inl (T.1, 100, .inl (upd v3.2.2.2.2.1 v3.1.toNatClampNeg r5.1.2.2.2.2.2.2.2.2.1))), ((x 13), .inl (T.1, 100, .inl v3.2.2.2.2.2))] H := hP
            have hD : va_D A [((x 0), .inr (7, o7 x r5.1)), ((x 2), .inl (T.1, 22, .inl u_this_told)), ((x 3), .inl (T.1, 11, .inl r5.2.1)), ((x 4), .inl (T.1, 7, .inl r5.2.2)), ((x 12), .inl (T.1, 100, .inl (upd v3.2.2.2.2.1 v3.1.toNatClampNeg r5.1.2.2.2.2.2.2.2.2.1))), ((x 13), .inl (T.1, 100, .inl v3.2.2.2.2.2))] := hD
            refine lv_aload_n hx hb dX7_rests_58 rfl (lv_at hl 0 rfl) ?_
            refine va_get (D := D) (ci := 7) (v := .ref (x 13)) (C := RX7) (T := TX7) (N := 30) hx hb hts (fun w h => List.mem_cons_of_mem _ (List.mem_append_right _ h)) hown hK hP 0 rfl rfl 22 (by decide) (hts _ (List.mem_of_getElem? (i := 3) rfl)) (fun _ h9 => h9) rfl dX7_rests_59 ?_
            refine lv_iload_n hx hb dX7_rests_62 rfl (lv_at hl 3 rfl) ?_
            refine lv_aload_n hx hb dX7_rests_63 rfl (lv_at hl 0 rfl) ?_
            refine va_get (D := D) (ci := 7) (v := .int r5.1.2.2.2.2.2.2.2.2.2.1) (C := RX7) (T := TX7) (N := 30) hx hb hts (fun w h => List.mem_cons_of_mem _ (List.mem_append_right _ h)) hown hK hP 0 rfl rfl 20 (by decide) (hts _ (List.mem_of_getElem? (i := 4) rfl)) (fun _ h9 => h9) rfl dX7_rests_64 ?_
            refine xast hx hb hK hP hD hS 5 0 rfl rfl g6 rfl dX7_rests_67 (fun H locs hP hD hS => ?_)
            have hP : va_P D vwCl [((x 0), .inr (7, o7 x r5.1)), ((x 2), .inl (T.1, 22, .inl u_this_told)), ((x 3), .inl (T.1, 11, .inl r5.2.1)), ((x 4), .inl (T.1, 7, .inl r5.2.2)), ((x 12), .inl (T.1, 100, .inl (upd v3.2.2.2.2.1 v3.1.toNatClampNeg r5.1.2.2.2.2.2.2.2.2.1))), ((x 13), .inl (T.1, 100, .inl (upd v3.2.2.2.2.2 v3.1.toNatClampNeg r5.1.2.2.2.2.2.2.2.2.2.1)))] H := hP
            have hD : va_D A [((x 0), .inr (7, o7 x r5.1)), ((x 2), .inl (T.1, 22, .inl u_this_told)), ((x 3), .inl (T.1, 11, .inl r5.2.1)), ((x 4), .inl (T.1, 7, .inl r5.2.2)), ((x 12), .inl (T.1, 100, .inl (upd v3.2.2.2.2.1 v3.1.toNatClampNeg r5.1.2.2.2.2.2.2.2.2.1))), ((x 13), .inl (T.1, 100, .inl (upd v3.2.2.2.2.2 v3.1.toNatClampNeg r5.1.2.2.2.2.2.2.2.2.2.1)))] := hD
            refine lv_iinc (v := v3.1 + 1) (lv' := [(3, .int (v3.1 + 1)), (0, .ref (x 0)), (1, .int p1), (2, .int p2)]) hx hb dX7_rests_68 hl (k := 3) rfl rfl (by decide) rfl (fun ls hl => ?_)
            refine lv_goto (tgt := 23) hx hb dX7_rests_71 (by decide) ?_
            exact ih _ (hz1 _ (Option.some.inj hM).symm) _ _ _ hP hD hS (lv_sub hl [1, 2, 3, 0] rfl)
      exact Lv3 _ _ hM _ _ _ hP hD hS (lv_sub hl [1, 2, 3, 0] rfl)
    · have hM := xit c2 hM
      refine lv_iconst (v := (-1)) hx hb dX7_rests_19 (by decide) ?_
      obtain rfl := Option.some.inj hM
      exact xreti hx hb hr hlocks hP hK hD hS dX7_rests_20 rfl
def f_X7_cost (u_this : K7) (u_this_costs : (Nat → Int32)) (p1 : Int32) (p2 : Int32) : Option (Int32 × (Nat → Int32)) :=
  if (f_X7_in p1 (0) (4)) = (0) then
   (some ((-1), u_this_costs))
  else
   (if (f_X7_in p2 (0) (99)) = (0) then
     (some ((-1), u_this_costs))
    else
     (if xin p1 5 = true then
      (some ((u_this_costs p1.toNatClampNeg), (upd u_this_costs p1.toNatClampNeg p2)))
      else none))
set_option maxHeartbeats 4000000 in
set_option maxRecDepth 100000 in
theorem c_X7_cost (l : Launch) (D : va_G) (T : xT) (x : Nat → Nat) {sz : Nat} (u_this : K7) (u_this_costs : (Nat → Int32)) (p1 : Int32) (p2 : Int32) {rv : Int32 × (Nat → Int32)} (hM : f_X7_cost u_this u_this_costs p1 p2 = some rv) : Met l yX7_cost wsX7_cost ({ frames := 1, cells := 0, slots := 0, locals := 22 } : Room) (va_Pc [.ref (x 0), .int p1, .int p2] (xPre D T [((x 0), .inr (7, o7 x u_this)), ((x 14), .inl (T.1, 5, .inl u_this_costs))] sz xE0)) (va_Qi (fun (r : Int32) (_ : Unit) => r = rv.1) (fun _ => xPost D T [((x 0), .inr (7, o7 x u_this)), ((x 14), .inl (T.1, 5, .inl rv.2))] (va_A [((x 0), .inr (7, o7 x u_this)), ((x 14), .inl (T.1, 5, .inl u_this_costs))] sz)) (va_A [((x 0), .inr (7, o7 x u_this)), ((x 14), .inl (T.1, 5, .inl u_this_costs))] sz)) 0 0 (va_A [((x 0), .inr (7, o7 x u_this)), ((x 14), .inl (T.1, 5, .inl u_this_costs))] sz) := by
  refine xMet (av := [.ref (x 0), .int p1, .int p2]) (Wd := [((x 0), .inr (7, o7 x u_this)), ((x 14), .inl (T.1, 5, .inl u_this_costs))]) (E := xE0) (Qc := fun A => (va_Qi (fun (r : Int32) (_ : Unit) => r = rv.1) (fun _ => xPost D T [((x 0), .inr (7, o7 x u_this)), ((x 14), .inl (T.1, 5, .inl rv.2))] A) A)) (cc := cX7_cost) (maxL := 4) (ret := (some .int)) (by decide) rfl (Nat.le_of_ble_eq_true rfl) ?_
  intro p e s m below meth c A ls hx hb hr hml hts hown hlocks hnm hP hK hD hS hA hE hl
  have hown : s.vm.findClass RX7 = some m.cls := hown
  have hl : lv_has ls 4 [(0, .ref (x 0)), (1, .int p1), (2, .int p2)] := hl
  unfold f_X7_cost at hM
  refine lv_iload_n hx hb dX7_cost_0 rfl (lv_at hl 1 rfl) ?_
  refine lv_iconst (v := 0) hx hb dX7_cost_1 (by decide) ?_
  refine lv_iconst (v := 4) hx hb dX7_cost_2 (by decide) ?_
  refine xafti (rv := (f_X7_in p1 (0) (4))) (W2 := [((x 0), .inr (7, o7 x u_this)), ((x 14), .inl (T.1, 5, .inl u_this_costs))]) (va_runS (As := [.int p1, .int (0), .int (4)]) (rest := []) ⟨hx, hb, hml, hown, hts⟩ (c_X7_in (rv := (f_X7_in p1 (0) (4))) l D T p1 (0) (4) rfl) (cwS 3 hts gX7_cost_X7_in rfl rfl rfl (by decide +kernel) ⟨Nat.le_of_ble_eq_true rfl, Nat.le_of_ble_eq_true rfl⟩) (xpvs hP hD hK [] (by decide) rfl (fun _ _ _ => trivial) (fun _ _ _ _ _ _ => trivial)) rfl rfl hl.1 rfl (lv_room (Nat.le_of_ble_eq_true rfl)) dX7_cost_3 ⟨Nat.le_of_ble_eq_true rfl, Nat.le_of_ble_eq_true rfl⟩) hP hD hS hA [] rfl rfl rfl rfl (fun H locs hP hD hS => ?_)
  refine lv_if_eq (tgt := 19) hx hb dX7_cost_6 (by decide) (fun c1 => ?_) (fun c1 => ?_)
  · have hM := xit c1 hM
    refine lv_iconst (v := (-1)) hx hb dX7_cost_19 (by decide) ?_
    obtain rfl := Option.some.inj hM
    exact xreti hx hb hr hlocks hP hK hD hS dX7_cost_20 rfl
  · have hM := xif c1 hM
    refine lv_iload_n hx hb dX7_cost_9 rfl (lv_at hl 2 rfl) ?_
    refine lv_iconst (v := 0) hx hb dX7_cost_10 (by decide) ?_
    refine lv_bipush (v := 99) hx hb dX7_cost_11 (by decide) ?_
    refine xafti (rv := (f_X7_in p2 (0) (99))) (W2 := [((x 0), .inr (7, o7 x u_this)), ((x 14), .inl (T.1, 5, .inl u_this_costs))]) (va_runS (As := [.int p2, .int (0), .int (99)]) (rest := []) ⟨hx, hb, hml, hown, hts⟩ (c_X7_in (rv := (f_X7_in p2 (0) (99))) l D T p2 (0) (99) rfl) (cwS 3 hts gX7_cost_X7_in rfl rfl rfl (by decide +kernel) ⟨Nat.le_of_ble_eq_true rfl, Nat.le_of_ble_eq_true rfl⟩) (xpvs hP hD hK [] (by decide) rfl (fun _ _ _ => trivial) (fun _ _ _ _ _ _ => trivial)) rfl rfl hl.1 rfl (lv_room (Nat.le_of_ble_eq_true rfl)) dX7_cost_13 ⟨Nat.le_of_ble_eq_true rfl, Nat.le_of_ble_eq_true rfl⟩) hP hD hS hA [] rfl rfl rfl rfl (fun H locs hP hD hS => ?_)
    refine lv_if_ne (tgt := 21) hx hb dX7_cost_16 (by decide) (fun c2 => ?_) (fun c2 => ?_)
    · have hM := xif c2 hM
      refine lv_aload_n hx hb dX7_cost_21 rfl (lv_at hl 0 rfl) ?_
      refine va_get (D := D) (ci := 7) (v := .ref (x 14)) (C := RX7) (T := TX7) (N := 30) hx hb hts (fun w h => List.mem_cons_of_mem _ (List.mem_append_right _ h)) hown hK hP 0 rfl rfl 23 (by decide) (hts _ (List.mem_of_getElem? (i := 1) rfl)) (fun _ h9 => h9) rfl dX7_cost_22 ?_
      refine lv_iload_n hx hb dX7_cost_25 rfl (lv_at hl 1 rfl) ?_
      obtain ⟨g3, hM⟩ := xck hM
      refine xald (v := (u_this_costs p1.toNatClampNeg)) hx hb hK hP 1 0 rfl rfl g3 rfl dX7_cost_26 ?_
      refine lv_istore_n (lv' := [(3, .int (u_this_costs p1.toNatClampNeg)), (0, .ref (x 0)), (1, .int p1), (2, .int p2)]) hx hb dX7_cost_27 rfl hl (by decide) rfl (fun ls hl => ?_)
      refine lv_aload_n hx hb dX7_cost_28 rfl (lv_at hl 1 rfl) ?_
      refine va_get (D := D) (ci := 7) (v := .ref (x 14)) (C := RX7) (T := TX7) (N := 30) hx hb hts (fun w h => List.mem_cons_of_mem _ (List.mem_append_right _ h)) hown hK hP 0 rfl rfl 23 (by decide) (hts _ (List.mem_of_getElem? (i := 1) rfl)) (fun _ h9 => h9) rfl dX7_cost_29 ?_
      refine lv_iload_n hx hb dX7_cost_32 rfl (lv_at hl 2 rfl) ?_
      refine lv_iload_n hx hb dX7_cost_33 rfl (lv_at hl 3 rfl) ?_
      refine xast hx hb hK hP hD hS 1 0 rfl rfl g3 rfl dX7_cost_34 (fun H locs hP hD hS => ?_)
      have hP : va_P D vwCl [((x 0), .inr (7, o7 x u_this)), ((x 14), .inl (T.1, 5, .inl (upd u_this_costs p1.toNatClampNeg p2)))] H := hP
      have hD : va_D A [((x 0), .inr (7, o7 x u_this)), ((x 14), .inl (T.1, 5, .inl (upd u_this_costs p1.toNatClampNeg p2)))] := hD
      refine lv_iload_n hx hb dX7_cost_35 rfl (lv_at hl 0 rfl) ?_
      obtain rfl := Option.some.inj hM
      exact xreti hx hb hr hlocks hP hK hD hS dX7_cost_36 rfl
    · have hM := xit c2 hM
      refine lv_iconst (v := (-1)) hx hb dX7_cost_19 (by decide) ?_
      obtain rfl := Option.some.inj hM
      exact xreti hx hb hr hlocks hP hK hD hS dX7_cost_20 rfl
