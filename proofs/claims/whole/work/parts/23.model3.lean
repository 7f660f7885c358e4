/-! laid by wip/whole/gen.py out of the decode rows: functional readings and contracts -/
def f_X7_until (N : Nat) (u_this : K7) (u_this_told : (Nat → Int32)) (u_this_par : (Nat → Int32)) (u_this_try0 : (Nat → Int32)) (u_this_nows : (Nat → Int32)) : Option (Int32 × (Nat → Int32) × (Nat → Int32)) :=
  (f_X7_takeNow N u_this u_this_told u_this_par u_this_try0 u_this_nows).bind fun r1 =>
  (f_X7_strokesUntil N u_this r1.1 r1.2).bind fun r2 =>
  some (r2.1, r1.1, r2.2)
set_option maxHeartbeats 4000000 in
set_option maxRecDepth 100000 in
theorem c_X7_until (l : Launch) (D : va_G) (T : xT) (x : Nat → Nat) {sz : Nat} {N : Nat} (u_this : K7) (u_this_told : (Nat → Int32)) (u_this_par : (Nat → Int32)) (u_this_try0 : (Nat → Int32)) (u_this_nows : (Nat → Int32)) {rv : Int32 × (Nat → Int32) × (Nat → Int32)} (hM : f_X7_until N u_this u_this_told u_this_par u_this_try0 u_this_nows = some rv) : Met l yX7_until wsX7_until ({ frames := 5, cells := 0, slots := 0, locals := 108 } : Room) (va_Pc [.ref (x 0)] (xPre D T [((x 0), .inr (7, o7 x u_this)), ((x 2), .inl (T.1, 22, .inl u_this_told)), ((x 3), .inl (T.1, 11, .inl u_this_par)), ((x 4), .inl (T.1, 7, .inl u_this_try0)), ((x 5), .inl (T.1, 21, .inl u_this_nows))] sz xE0)) (va_Qi (fun (r : Int32) (_ : Unit) => r = rv.1) (fun _ => xPost D T [((x 0), .inr (7, o7 x u_this)), ((x 2), .inl (T.1, 22, .inl u_this_told)), ((x 3), .inl (T.1, 11, .inl rv.2.1)), ((x 4), .inl (T.1, 7, .inl rv.2.2)), ((x 5), .inl (T.1, 21, .inl u_this_nows))] (va_A [((x 0), .inr (7, o7 x u_this)), ((x 2), .inl (T.1, 22, .inl u_this_told)), ((x 3), .inl (T.1, 11, .inl u_this_par)), ((x 4), .inl (T.1, 7, .inl u_this_try0)), ((x 5), .inl (T.1, 21, .inl u_this_nows))] sz)) (va_A [((x 0), .inr (7, o7 x u_this)), ((x 2), .inl (T.1, 22, .inl u_this_told)), ((x 3), .inl (T.1, 11, .inl u_this_par)), ((x 4), .inl (T.1, 7, .inl u_this_try0)), ((x 5), .inl (T.1, 21, .inl u_this_nows))] sz)) 0 0 (va_A [((x 0), .inr (7, o7 x u_this)), ((x 2), .inl (T.1, 22, .inl u_this_told)), ((x 3), .inl (T.1, 11, .inl u_this_par)), ((x 4), .inl (T.1, 7, .inl u_this_try0)), ((x 5), .inl (T.1, 21, .inl u_this_nows))] sz) := by
  refine xMet (av := [.ref (x 0)]) (Wd := [((x 0), .inr (7, o7 x u_this)), ((x 2), .inl (T.1, 22, .inl u_this_told)), ((x 3), .inl (T.1, 11, .inl u_this_par)), ((x 4), .inl (T.1, 7, .inl u_this_try0)), ((x 5), .inl (T.1, 21, .inl u_this_nows))]) (E := xE0) (Qc := fun A => (va_Qi (fun (r : Int32) (_ : Unit) => r = rv.1) (fun _ => xPost D T [((x 0), .inr (7, o7 x u_this)), ((x 2), .inl (T.1, 22, .inl u_this_told)), ((x 3), .inl (T.1, 11, .inl rv.2.1)), ((x 4), .inl (T.1, 7, .inl rv.2.2)), ((x 5), .inl (T.1, 21, .inl u_this_nows))] A) A)) (cc := cX7_until) (maxL := 1) (ret := (some .int)) (by decide) rfl (Nat.le_of_ble_eq_true rfl) ?_
  intro p e s m below meth c A ls hx hb hr hml hts hown hlocks hnm hP hK hD hS hA hE hl
  have hown : s.vm.findClass RX7 = some m.cls := hown
  have hl : lv_has ls 1 [(0, .ref (x 0))] := hl
  unfold f_X7_until at hM
  refine lv_aload_n hx hb dX7_until_0 rfl (lv_at hl 0 rfl) ?_
  obtain ⟨r1, er1, hM⟩ := xbd hM
  refine xaftv (W2 := [((x 0), .inr (7, o7 x u_this)), ((x 2), .inl (T.1, 22, .inl u_this_told)), ((x 3), .inl (T.1, 11, .inl r1.1)), ((x 4), .inl (T.1, 7, .inl r1.2)), ((x 5), .inl (T.1, 21, .inl u_this_nows))]) (va_runV (As := []) (rest := []) ⟨hx, hb, hml, hown, hts⟩ (c_X7_takeNow l D T x u_this u_this_told u_this_par u_this_try0 u_this_nows er1) (cwV 0 hts gX7_until_X7_takeNow rfl rfl rfl (by decide +kernel) ⟨Nat.le_of_ble_eq_true rfl, Nat.le_of_ble_eq_true rfl⟩) (xpvv hP hD hK [0, 1, 2, 3, 4] (by decide) rfl 0 7 rfl rfl (fun _ _ _ => trivial) (fun _ _ _ _ _ _ => trivial)) rfl rfl hl.1 rfl (lv_room (Nat.le_of_ble_eq_true rfl)) dX7_until_1 ⟨Nat.le_of_ble_eq_true rfl, Nat.le_of_ble_eq_true rfl⟩) hP hD hS hA [0, 1, 2, 3, 4] rfl rfl rfl rfl (fun H locs hP hD hS => ?_)
  refine lv_aload_n hx hb dX7_until_4 rfl (lv_at hl 0 rfl) ?_
  obtain ⟨r2, er2, hM⟩ := xbd hM
  refine xafti (rv := r2.1) (W2 := [((x 0), .inr (7, o7 x u_this)), ((x 2), .inl (T.1, 22, .inl u_this_told)), ((x 3), .inl (T.1, 11, .inl r1.1)), ((x 4), .inl (T.1, 7, .inl r2.2)), ((x 5), .inl (T.1, 21, .inl u_this_nows))]) (va_runV (As := []) (rest := []) ⟨hx, hb, hml, hown, hts⟩ (c_X7_strokesUntil l D T x u_this r1.1 r1.2 er2) (cwV 0 hts gX7_until_X7_strokesUntil rfl rfl rfl (by decide +kernel) ⟨Nat.le_of_ble_eq_true rfl, Nat.le_of_ble_eq_true rfl⟩) (xpvv hP hD hK [0, 2, 3] (by decide) rfl 0 7 rfl rfl (fun _ _ _ => trivial) (fun _ _ _ _ _ _ => trivial)) rfl rfl hl.1 rfl (lv_room (Nat.le_of_ble_eq_true rfl)) dX7_until_5 ⟨Nat.le_of_ble_eq_true rfl, Nat.le_of_ble_eq_true rfl⟩) hP hD hS hA [0, 2, 3] rfl rfl rfl rfl (fun H locs hP hD hS => ?_)
  obtain rfl := Option.some.inj hM
  exact xreti hx hb hr hlocks hP hK hD hS dX7_until_8 rfl
def s_X7_least_15 (N : Nat) (u_this : K7) (u_this_told : (Nat → Int32)) (u_this_nows : (Nat → Int32)) (p1 : Int32) (v2 : Int32 × (Nat → Int32) × (Nat → Int32)) : Option ((Int32 × (Nat → Int32) × (Nat → Int32)) ⊕ (Int32 × (Nat → Int32) × (Nat → Int32))) :=
  if (100) ≤ v2.1 then
   (some (.inr ((-9), v2.2.1, v2.2.2)))
  else
   ((f_X7_takeNow N u_this u_this_told v2.2.1 v2.2.2 u_this_nows).bind fun r4 =>
    (f_X7_pour u_this r4.2 v2.1).bind fun r5 =>
    (f_X7_strokesUntil N u_this r4.1 r5.2).bind fun r6 =>
    if r6.1 = (-9) then
     (some (.inl (v2.1 + 1, r4.1, r6.2)))
    else
     (if p1 < r6.1 then
       (some (.inl (v2.1 + 1, r4.1, r6.2)))
      else
       (some (.inr (v2.1, r4.1, r6.2)))))
def f_X7_least (N : Nat) (u_this : K7) (u_this_told : (Nat → Int32)) (u_this_par : (Nat → Int32)) (u_this_try0 : (Nat → Int32)) (u_this_nows : (Nat → Int32)) (p1 : Int32) : Option (Int32 × (Nat → Int32) × (Nat → Int32)) :=
  if (f_X7_in p1 (1) (200)) = (0) then
   (some ((-1), u_this_par, u_this_try0))
  else
   (xlp (s_X7_least_15 N u_this u_this_told u_this_nows p1) N (0, u_this_par, u_this_try0))
set_option maxHeartbeats 4000000 in
set_option maxRecDepth 100000 in
theorem c_X7_least (l : Launch) (D : va_G) (T : xT) (x : Nat → Nat) {sz : Nat} {N : Nat} (u_this : K7) (u_this_told : (Nat → Int32)) (u_this_par : (Nat → Int32)) (u_this_try0 : (Nat → Int32)) (u_this_nows : (Nat → Int32)) (p1 : Int32) {rv : Int32 × (Nat → Int32) × (Nat → Int32)} (hM : f_X7_least N u_this u_this_told u_this_par u_this_try0 u_this_nows p1 = some rv) : Met l yX7_least wsX7_least ({ frames := 5, cells := 0, slots := 0, locals := 108 } : Room) (va_Pc [.ref (x 0), .int p1] (xPre D T [((x 0), .inr (7, o7 x u_this)), ((x 2), .inl (T.1, 22, .inl u_this_told)), ((x 3), .inl (T.1, 11, .inl u_this_par)), ((x 4), .inl (T.1, 7, .inl u_this_try0)), ((x 5), .inl (T.1, 21, .inl u_this_nows))] sz xE0)) (va_Qi (fun (r : Int32) (_ : Unit) => r = rv.1) (fun _ => xPost D T [((x 0), .inr (7, o7 x u_this)), ((x 2), .inl (T.1, 22, .inl u_this_told)), ((x 3), .inl (T.1, 11, .inl rv.2.1)), ((x 4), .inl (T.1, 7, .inl rv.2.2)), ((x 5), .inl (T.1, 21, .inl u_this_nows))] (va_A [((x 0), .inr (7, o7 x u_this)), ((x 2), .inl (T.1, 22, .inl u_this_told)), ((x 3), .inl (T.1, 11, .inl u_this_par)), ((x 4), .inl (T.1, 7, .inl u_this_try0)), ((x 5), .inl (T.1, 21, .inl u_this_nows))] sz)) (va_A [((x 0), .inr (7, o7 x u_this)), ((x 2), .inl (T.1, 22, .inl u_this_told)), ((x 3), .inl (T.1, 11, .inl u_this_par)), ((x 4), .inl (T.1, 7, .inl u_this_try0)), ((x 5), .inl (T.1, 21, .inl u_this_nows))] sz)) 0 0 (va_A [((x 0), .inr (7, o7 x u_this)), ((x 2), .inl (T.1, 22, .inl u_this_told)), ((x 3), .inl (T.1, 11, .inl u_this_par)), ((x 4), .inl (T.1, 7, .inl u_this_try0)), ((x 5), .inl (T.1, 21, .inl u_this_nows))] sz) := by
  refine xMet (av := [.ref (x 0), .int p1]) (Wd := [((x 0), .inr (7, o7 x u_this)), ((x 2), .inl (T.1, 22, .inl u_this_told)), ((x 3), .inl (T.1, 11, .inl u_this_par)), ((x 4), .inl (T.1, 7, .inl u_this_try0)), ((x 5), .inl (T.1, 21, .inl u_this_nows))]) (E := xE0) (Qc := fun A => (va_Qi (fun (r : Int32) (_ : Unit) => r = rv.1) (fun _ => xPost D T [((x 0), .inr (7, o7 x u_this)), ((x 2), .inl (T.1, 22, .inl u_this_told)), ((x 3), .inl (T.1, 11, .inl rv.2.1)), ((x 4), .inl (T.1, 7, .inl rv.2.2)), ((x 5), .inl (T.1, 21, .inl u_this_nows))] A) A)) (cc := cX7_least) (maxL := 4) (ret := (some .int)) (by decide) rfl (Nat.le_of_ble_eq_true rfl) ?_
  intro p e s m below meth c A ls hx hb hr hml hts hown hlocks hnm hP hK hD hS hA hE hl
  have hown : s.vm.findClass RX7 = some m.cls := hown
  have hl : lv_has ls 4 [(0, .ref (x 0)), (1, .int p1)] := hl
  unfold f_X7_least at hM
  refine lv_iload_n hx hb dX7_least_0 rfl (lv_at hl 1 rfl) ?_
  refine lv_iconst (v := 1) hx hb dX7_least_1 (by decide) ?_
  refine lv_sipush (v := 200) hx hb dX7_least_2 (by decide) ?_
  refine xafti (rv := (f_X7_in p1 (1) (200))) (W2 := [((x 0), .inr (7, o7 x u_this)), ((x 2), .inl (T.1, 22, .inl u_this_told)), ((x 3), .inl (T.1, 11, .inl u_this_par)), ((x 4), .inl (T.1, 7, .inl u_this_try0)), ((x 5), .inl (T.1, 21, .inl u_this_nows))]) (va_runS (As := [.int p1, .int (1), .int (200)]) (rest := []) ⟨hx, hb, hml, hown, hts⟩ (c_X7_in (rv := (f_X7_in p1 (1) (200))) l D T p1 (1) (200) rfl) (cwS 3 hts gX7_least_X7_in rfl rfl rfl (by decide +kernel) ⟨Nat.le_of_ble_eq_true rfl, Nat.le_of_ble_eq_true rfl⟩) (xpvs hP hD hK [] (by decide) rfl (fun _ _ _ => trivial) (fun _ _ _ _ _ _ => trivial)) rfl rfl hl.1 rfl (lv_room (Nat.le_of_ble_eq_true rfl)) dX7_least_5 ⟨Nat.le_of_ble_eq_true rfl, Nat.le_of_ble_eq_true rfl⟩) hP hD hS hA [] rfl rfl rfl rfl (fun H locs hP hD hS => ?_)
  refine lv_if_ne (tgt := 13) hx hb dX7_least_8 (by decide) (fun c1 => ?_) (fun c1 => ?_)
  · have hM := xif c1 hM
    refine lv_iconst (v := 0) hx hb dX7_least_13 (by decide) ?_
    refine lv_istore_n (lv' := [(2, .int (0)), (0, .ref (x 0)), (1, .int p1)]) hx hb dX7_least_14 rfl hl (by decide) rfl (fun ls hl => ?_)
    have Lv2 : ∀ (n : Nat) (v2 : Int32 × (Nat → Int32) × (Nat → Int32)), xlp (s_X7_least_15 N u_this u_this_told u_this_nows p1) n v2 = some rv → ∀ (H : Heap) (locs : List Loc) (ls : Array Slot), va_P D vwCl [((x 0), .inr (7, o7 x u_this)), ((x 2), .inl (T.1, 22, .inl u_this_told)), ((x 3), .inl (T.1, 11, .inl v2.2.1)), ((x 4), .inl (T.1, 7, .inl v2.2.2)), ((x 5), .inl (T.1, 21, .inl u_this_nows))] H → va_D A [((x 0), .inr (7, o7 x u_this)), ((x 2), .inl (T.1, 22, .inl u_this_told)), ((x 3), .inl (T.1, 11, .inl v2.2.1)), ((x 4), .inl (T.1, 7, .inl v2.2.2)), ((x 5), .inl (T.1, 21, .inl u_this_nows))] → va_S A s.heap H locs → lv_has ls 4 [(0, .ref (x 0)), (1, .int p1), (2, .int v2.1)] → W p l e ({ frames := 5, cells := 0, slots := 0, locals := 108 } : Room) s m ([.ref (x 0), .int p1] : List Value).toArray below meth c H locs 0 0 (MQ below (va_Qi (fun (r : Int32) (_ : Unit) => r = rv.1) (fun _ => xPost D T [((x 0), .inr (7, o7 x u_this)), ((x 2), .inl (T.1, 22, .inl u_this_told)), ((x 3), .inl (T.1, 11, .inl rv.2.1)), ((x 4), .inl (T.1, 7, .inl rv.2.2)), ((x 5), .inl (T.1, 21, .inl u_this_nows))] A) A) ([.ref (x 0), .int p1] : List Value).toArray s 0 0 A) (F0 m 15 ls []) := by
      intro n
      induction n with
      | zero => exact fun _ h => (xlp_0 h).elim
      | succ n ih =>
        intro v2 hM H locs ls hP hD hS hl
        obtain ⟨z, hM, hz1, hz2⟩ := xlp_s hM
        unfold s_X7_least_15 at hM
        refine lv_iload_n hx hb dX7_least_15 rfl (lv_at hl 2 rfl) ?_
        refine lv_bipush (v := 100) hx hb dX7_least_16 (by decide) ?_
        refine lv_icmp_ge (tgt := 55) hx hb dX7_least_18 (by decide) (fun c3 => ?_) (fun c3 => ?_)
        · have hM := xit c3 hM
          refine lv_bipush (v := (-9)) hx hb dX7_least_55 (by decide) ?_
          obtain rfl := hz2 _ (Option.some.inj hM).symm
          exact xreti hx hb hr hlocks hP hK hD hS dX7_least_57 rfl
        · have hM := xif c3 hM
          refine lv_aload_n hx hb dX7_least_21 rfl (lv_at hl 0 rfl) ?_
          obtain ⟨r4, er4, hM⟩ := xbd hM
          refine xaftv (W2 := [((x 0), .inr (7, o7 x u_this)), ((x 2), .inl (T.1, 22, .inl u_this_told)), ((x 3), .inl (T.1, 11, .inl r4.1)), ((x 4), .inl (T.1, 7, .inl r4.2)), ((x 5), .inl (T.1, 21, .inl u_this_nows))]) (va_runV (As := []) (rest := []) ⟨hx, hb, hml, hown, hts⟩ (c_X7_takeNow l D T x u_this u_this_told v2.2.1 v2.2.2 u_this_nows er4) (cwV 0 hts gX7_least_X7_takeNow rfl rfl rfl (by decide +kernel) ⟨Nat.le_of_ble_eq_true rfl, Nat.le_of_ble_eq_true rfl⟩) (xpvv hP hD hK [0, 1, 2, 3, 4] (by decide) rfl 0 7 rfl rfl (fun _ _ _ => trivial) (fun _ _ _ _ _ _ => trivial)) rfl rfl hl.1 rfl (lv_room (Nat.le_of_ble_eq_true rfl)) dX7_least_22 ⟨Nat.le_of_ble_eq_true rfl, Nat.le_of_ble_eq_true rfl⟩) hP hD hS hA [0, 1, 2, 3, 4] rfl rfl rfl rfl (fun H locs hP hD hS => ?_)
          refine lv_aload_n hx hb dX7_least_25 rfl (lv_at hl 0 rfl) ?_
          refine lv_iload_n hx hb dX7_least_26 rfl (lv_at hl 2 rfl) ?_
          obtain ⟨r5, er5, hM⟩ := xbd hM
          refine xafti (rv := r5.1) (W2 := [((x 0), .inr (7, o7 x u_this)), ((x 2), .inl (T.1, 22, .inl u_this_told)), ((x 3), .inl (T.1, 11, .inl r4.1)), ((x 4), .inl (T.1, 7, .inl r5.2)), ((x 5), .inl (T.1, 21, .inl u_this_nows))]) (va_runV (As := [.int v2.1]) (rest := []) ⟨hx, hb, hml, hown, hts⟩ (c_X7_pour l D T x u_this r4.2 v2.1 er5) (cwV 1 hts gX7_least_X7_pour rfl rfl rfl (by decide +kernel) ⟨Nat.le_of_ble_eq_true rfl, Nat.le_of_ble_eq_true rfl⟩) (xpvv hP hD hK [0, 3] (by decide) rfl 0 7 rfl rfl (fun _ _ _ => trivial) (fun _ _ _ _ _ _ => trivial)) rfl rfl hl.1 rfl (lv_room (Nat.le_of_ble_eq_true rfl)) dX7_least_27 ⟨Nat.le_of_ble_eq_true rfl, Nat.le_of_ble_eq_true rfl⟩) hP hD hS hA [0, 3] rfl rfl rfl rfl (fun H locs hP hD hS => ?_)
          refine lv_pop hx hb dX7_least_30 rfl ?_
          refine lv_aload_n hx hb dX7_least_31 rfl (lv_at hl 0 rfl) ?_
          obtain ⟨r6, er6, hM⟩ := xbd hM
          refine xafti (rv := r6.1) (W2 := [((x 0), .inr (7, o7 x u_this)), ((x 2), .inl (T.1, 22, .inl u_this_told)), ((x 3), .inl (T.1, 11, .inl r4.1)), ((x 4), .inl (T.1, 7, .inl r6.2)), ((x 5), .inl (T.1, 21, .inl u_this_nows))]) (va_runV (As := []) (rest := []) ⟨hx, hb, hml, hown, hts⟩ (c_X7_strokesUntil l D T x u_this r4.1 r5.2 er6) (cwV 0 hts gX7_least_X7_strokesUntil rfl rfl rfl (by decide +kernel) ⟨Nat.le_of_ble_eq_true rfl, Nat.le_of_ble_eq_true rfl⟩) (xpvv hP hD hK [0, 2, 3] (by decide) rfl 0 7 rfl rfl (fun _ _ _ => trivial) (fun _ _ _ _ _ _ => trivial)) rfl rfl hl.1 rfl (lv_room (Nat.le_of_ble_eq_true rfl)) dX7_least_32 ⟨Nat.le_of_ble_eq_true rfl, Nat.le_of_ble_eq_true rfl⟩) hP hD hS hA [0, 2, 3] rfl rfl rfl rfl (fun H locs hP hD hS => ?_)
          refine lv_istore_n (lv' := [(3, .int r6.1), (0, .ref (x 0)), (1, .int p1), (2, .int v2.1)]) hx hb dX7_least_35 rfl hl (by decide) rfl (fun ls hl => ?_)
          refine lv_iload_n hx hb dX7_least_36 rfl (lv_at hl 0 rfl) ?_
          refine lv_bipush (v := (-9)) hx hb dX7_least_37 (by decide) ?_
          refine lv_icmp_eq (tgt := 49) hx hb dX7_least_39 (by decide) (fun c7 => ?_) (fun c7 => ?_)
          · have hM := xit c7 hM
            refine lv_iinc (v := v2.1 + 1) (lv' := [(2, .int (v2.1 + 1)), (3, .int r6.1), (0, .ref (x 0)), (1, .int p1)]) hx hb dX7_least_49 hl (k := 3) rfl rfl (by decide) rfl (fun ls hl => ?_)
            refine lv_goto (tgt := 15) hx hb dX7_least_52 (by decide) ?_
            exact ih _ (hz1 _ (Option.some.inj hM).symm) _ _ _ hP hD hS (lv_sub hl [2, 3, 0] rfl)
          · have hM := xif c7 hM
            refine lv_iload_n hx hb dX7_least_42 rfl (lv_at hl 0 rfl) ?_
            refine lv_iload_n hx hb dX7_least_43 rfl (lv_at hl 2 rfl) ?_
            refine lv_icmp_gt (tgt := 49) hx hb dX7_least_44 (by decide) (fun c8 => ?_) (fun c8 => ?_)
            · have hM := xit c8 hM
              refine lv_iinc (v := v2.1 + 1) (lv' := [(2, .int (v2.1 + 1)), (3, .int r6.1), (0, .ref (x 0)), (1, .int p1)]) hx hb dX7_least_49 hl (k := 3) rfl rfl (by decide) rfl (fun ls hl => ?_)
              refine lv_goto (tgt := 15) hx hb dX7_least_52 (by decide) ?_
              exact ih _ (hz1 _ (Option.some.inj hM).symm) _ _ _ hP hD hS (lv_sub hl [2, 3, 0] rfl)
            · have hM := xif c8 hM
              refine lv_iload_n hx hb dX7_least_47 rfl (lv_at hl 3 rfl) ?_
              obtain rfl := hz2 _ (Option.some.inj hM).symm
              exact xreti hx hb hr hlocks hP hK hD hS dX7_least_48 rfl
    exact Lv2 _ _ hM _ _ _ hP hD hS (lv_sub hl [1, 2, 0] rfl)
  · have hM := xit c1 hM
    refine lv_iconst (v := (-1)) hx hb dX7_least_11 (by decide) ?_
    obtain rfl := Option.some.inj hM
    exact xreti hx hb hr hlocks hP hK hD hS dX7_least_12 rfl
def s_X7_night_18 (u_this : K7) (p1 : Int32) (r2 : (Nat → Int32) × (Nat → Int32)) (v3 : Int32 × (Nat → Int32)) : Option ((Int32 × (Nat → Int32)) ⊕ (Int32 × (Nat → Int32))) :=
  if p1 ≤ v3.1 then
   (some (.inr (v3.1, v3.2)))
  else
   ((f_X7_goHour u_this r2.1 v3.2).bind fun r5 =>
    some (.inl (v3.1 + 1, r5)))
def f_X7_night (N : Nat) (u_this : K7) (u_this_told : (Nat → Int32)) (u_this_par : (Nat → Int32)) (u_this_try0 : (Nat → Int32)) (u_this_nows : (Nat → Int32)) (p1 : Int32) : Option (Int32 × (Nat → Int32) × (Nat → Int32)) :=
  if (f_X7_in p1 (1) (48)) = (0) then
   (some ((-1), u_this_par, u_this_try0))
  else
   ((f_X7_takeNow N u_this u_this_told u_this_par u_this_try0 u_this_nows).bind fun r2 =>
    (xlp (s_X7_night_18 u_this p1 r2) N (0, r2.2)).bind fun v6 =>
    some ((v6.2 0), r2.1, v6.2))
set_option maxHeartbeats 4000000 in
set_option maxRecDepth 100000 in
theorem c_X7_night (l : Launch) (D : va_G) (T : xT) (x : Nat → Nat) {sz : Nat} {N : Nat} (u_this : K7) (u_this_told : (Nat → Int32)) (u_this_par : (Nat → Int32)) (u_this_try0 : (Nat → Int32)) (u_this_nows : (Nat → Int32)) (p1 : Int32) {rv : Int32 × (Nat → Int32) × (Nat → Int32)} (hM : f_X7_night N u_this u_this_told u_this_par u_this_try0 u_this_nows p1 = some rv) : Met l yX7_night wsX7_night ({ frames := 3, cells := 0, slots := 0, locals := 64 } : Room) (va_Pc [.ref (x 0), .int p1] (xPre D T [((x 0), .inr (7, o7 x u_this)), ((x 2), .inl (T.1, 22, .inl u_this_told)), ((x 3), .inl (T.1, 11, .inl u_this_par)), ((x 4), .inl (T.1, 7, .inl u_this_try0)), ((x 5), .inl (T.1, 21, .inl u_this_nows))] sz xE0)) (va_Qi (fun (r : Int32) (_ : Unit) => r = rv.1) (fun _ => xPost D T [((x 0), .inr (7, o7 x u_this)), ((x 2), .inl (T.1, 22, .inl u_this_told)), ((x 3), .inl (T.1, 11, .inl rv.2.1)), ((x 4), .inl (T.1, 7, .inl rv.2.2)), ((x 5), .inl (T.1, 21, .inl u_this_nows))] (va_A [((x 0), .inr (7, o7 x u_this)), ((x 2), .inl (T.1, 22, .inl u_this_told)), ((x 3), .inl (T.1, 11, .inl u_this_par)), ((x 4), .inl (T.1, 7, .inl u_this_try0)), ((x 5), .inl (T.1, 21, .inl u_this_nows))] sz)) (va_A [((x 0), .inr (7, o7 x u_this)), ((x 2), .inl (T.1, 22, .inl u_this_told)), ((x 3), .inl (T.1, 11, .inl u_this_par)), ((x 4), .inl (T.1, 7, .inl u_this_try0)), ((x 5), .inl (T.1, 21, .inl u_this_nows))] sz)) 0 0 (va_A [((x 0), .inr (7, o7 x u_this)), ((x 2), .inl (T.1, 22, .inl u_this_told)), ((x 3), .inl (T.1, 11, .inl u_this_par)), ((x 4), .inl (T.1, 7, .inl u_this_try0)), ((x 5), .inl (T.1, 21, .inl u_this_nows))] sz) := by
  refine xMet (av := [.ref (x 0), .int p1]) (Wd := [((x 0), .inr (7, o7 x u_this)), ((x 2), .inl (T.1, 22, .inl u_this_told)), ((x 3), .inl (T.1, 11, .inl u_this_par)), ((x 4), .inl (T.1, 7, .inl u_this_try0)), ((x 5), .inl (T.1, 21, .inl u_this_nows))]) (E := xE0) (Qc := fun A => (va_Qi (fun (r : Int32) (_ : Unit) => r = rv.1) (fun _ => xPost D T [((x 0), .inr (7, o7 x u_this)), ((x 2), .inl (T.1, 22, .inl u_this_told)), ((x 3), .inl (T.1, 11, .inl rv.2.1)), ((x 4), .inl (T.1, 7, .inl rv.2.2)), ((x 5), .inl (T.1, 21, .inl u_this_nows))] A) A)) (cc := cX7_night) (maxL := 3) (ret := (some .int)) (by decide) rfl (Nat.le_of_ble_eq_true rfl) ?_
  intro p e s m below meth c A ls hx hb hr hml hts hown hlocks hnm hP hK hD hS hA hE hl
  have hown : s.vm.findClass RX7 = some m.cls := hown
  have hl : lv_has ls 3 [(0, .ref (x 0)), (1, .int p1)] := hl
  unfold f_X7_night at hM
  refine lv_iload_n hx hb dX7_night_0 rfl (lv_at hl 1 rfl) ?_
  refine lv_iconst (v := 1) hx hb dX7_night_1 (by decide) ?_
  refine lv_bipush (v := 48) hx hb dX7_night_2 (by decide) ?_
  refine xafti (rv := (f_X7_in p1 (1) (48))) (W2 := [((x 0), .inr (7, o7 x u_this)), ((x 2), .inl (T.1, 22, .inl u_this_told)), ((x 3), .inl (T.1, 11, .inl u_this_par)), ((x 4), .inl (T.1, 7, .inl u_this_try0)), ((x 5), .inl (T.1, 21, .inl u_this_nows))]) (va_runS (As := [.int p1, .int (1), .int (48)]) (rest := []) ⟨hx, hb, hml, hown, hts⟩ (c_X7_in (rv := (f_X7_in p1 (1) (48))) l D T p1 (1) (48) rfl) (cwS 3 hts gX7_night_X7_in rfl rfl rfl (by decide +kernel) ⟨Nat.le_of_ble_eq_true rfl, Nat.le_of_ble_eq_true rfl⟩) (xpvs hP hD hK [] (by decide) rfl (fun _ _ _ => trivial) (fun _ _ _ _ _ _ => trivial)) rfl rfl hl.1 rfl (lv_room (Nat.le_of_ble_eq_true rfl)) dX7_night_4 ⟨Nat.le_of_ble_eq_true rfl, Nat.le_of_ble_eq_true rfl⟩) hP hD hS hA [] rfl rfl rfl rfl (fun H locs hP hD hS => ?_)
  refine lv_if_ne (tgt := 12) hx hb dX7_night_7 (by decide) (fun c1 => ?_) (fun c1 => ?_)
  · have hM := xif c1 hM
    refine lv_aload_n hx hb dX7_night_12 rfl (lv_at hl 0 rfl) ?_
    obtain ⟨r2, er2, hM⟩ := xbd hM
    refine xaftv (W2 := [((x 0), .inr (7, o7 x u_this)), ((x 2), .inl (T.1, 22, .inl u_this_told)), ((x 3), .inl (T.1, 11, .inl r2.1)), ((x 4), .inl (T.1, 7, .inl r2.2)), ((x 5), .inl (T.1, 21, .inl u_this_nows))]) (va_runV (As := []) (rest := []) ⟨hx, hb, hml, hown, hts⟩ (c_X7_takeNow l D T x u_this u_this_told u_this_par u_this_try0 u_this_nows er2) (cwV 0 hts gX7_night_X7_takeNow rfl rfl rfl (by decide +kernel) ⟨Nat.le_of_ble_eq_true rfl, Nat.le_of_ble_eq_true rfl⟩) (xpvv hP hD hK [0, 1, 2, 3, 4] (by decide) rfl 0 7 rfl rfl (fun _ _ _ => trivial) (fun _ _ _ _ _ _ => trivial)) rfl rfl hl.1 rfl (lv_room (Nat.le_of_ble_eq_true rfl)) dX7_night_13 ⟨Nat.le_of_ble_eq_true rfl, Nat.le_of_ble_eq_true rfl⟩) hP hD hS hA [0, 1, 2, 3, 4] rfl rfl rfl rfl (fun H locs hP hD hS => ?_)
    refine lv_iconst (v := 0) hx hb dX7_night_16 (by decide) ?_
    refine lv_istore_n (lv' := [(2, .int (0)), (0, .ref (x 0)), (1, .int p1)]) hx hb dX7_night_17 rfl hl (by decide) rfl (fun ls hl => ?_)
    obtain ⟨v6, hM, hNv6⟩ := xbd hM
    have hQv6 := hM
    have Kv6 : ∀ (H : Heap) (locs : List Loc) (ls : Array Slot), va_P D vwCl [((x 0), .inr (7, o7 x u_this)), ((x 2), .inl (T.1, 22, .inl u_this_told)), ((x 3), .inl (T.1, 11, .inl r2.1)), ((x 4), .inl (T.1, 7, .inl v6.2)), ((x 5), .inl (T.1, 21, .inl u_this_nows))] H → va_D A [((x 0), .inr (7, o7 x u_this)), ((x 2), .inl (T.1, 22, .inl u_this_told)), ((x 3), .inl (T.1, 11, .inl r2.1)), ((x 4), .inl (T.1, 7, .inl v6.2)), ((x 5), .inl (T.1, 21, .inl u_this_nows))] → va_S A s.heap H locs → lv_has ls 3 [(0, .ref (x 0))] → W p l e ({ frames := 3, cells := 0, slots := 0, locals := 64 } : Room) s m ([.ref (x 0), .int p1] : List Value).toArray below meth c H locs 0 0 (MQ below (va_Qi (fun (r : Int32) (_ : Unit) => r = rv.1) (fun _ => xPost D T [((x 0), .inr (7, o7 x u_this)), ((x 2), .inl (T.1, 22, .inl u_this_told)), ((x 3), .inl (T.1, 11, .inl rv.2.1)), ((x 4), .inl (T.1, 7, .inl rv.2.2)), ((x 5), .inl (T.1, 21, .inl u_this_nows))] A) A) ([.ref (x 0), .int p1] : List Value).toArray s 0 0 A) (F0 m 33 ls []) := by
      intro H locs ls hP hD hS hl
      have hM := hNv6
      refine lv_aload_n hx hb dX7_night_33 rfl (lv_at hl 0 rfl) ?_
      refine va_get (D := D) (ci := 7) (v := .ref (x 4)) (C := RX7) (T := TX7) (N := 30) hx hb hts (fun w h => List.mem_cons_of_mem _ (List.mem_append_right _ h)) hown hK hP 0 rfl rfl 10 (by decide) (hts _ (List.mem_of_getElem? (i := 1) rfl)) (fun _ h9 => h9) rfl dX7_night_34 ?_
      refine lv_iconst (v := 0) hx hb dX7_night_37 (by decide) ?_
      refine xald (v := (v6.2 0)) hx hb hK hP 3 0 rfl rfl (xin_vp (by decide)) (congrArg _ (show (0 : Int32).toNatClampNeg = 0 by decide)) dX7_night_38 ?_
      obtain rfl := Option.some.inj hM
      exact xreti hx hb hr hlocks hP hK hD hS dX7_night_39 rfl
    have Lv3 : ∀ (n : Nat) (v3 : Int32 × (Nat → Int32)), xlp (s_X7_night_18 u_this p1 r2) n v3 = some v6 → ∀ (H : Heap) (locs : List Loc) (ls : Array Slot), va_P D vwCl [((x 0), .inr (7, o7 x u_this)), ((x 2), .inl (T.1, 22, .inl u_this_told)), ((x 3), .inl (T.1, 11, .inl r2.1)), ((x 4), .inl (T.1, 7, .inl v3.2)), ((x 5), .inl (T.1, 21, .inl u_this_nows))] H → va_D A [((x 0), .inr (7, o7 x u_this)), ((x 2), .inl (T.1, 22, .inl u_this_told)), ((x 3), .inl (T.1, 11, .inl r2.1)), ((x 4), .inl (T.1, 7, .inl v3.2)), ((x 5), .inl (T.1, 21, .inl u_this_nows))] → va_S A s.heap H locs → lv_has ls 3 [(0, .ref (x 0)), (1, .int p1), (2, .int v3.1)] → W p l e ({ frames := 3, cells := 0, slots := 0, locals := 64 } : Room) s m ([.ref (x 0), .int p1] : List Value).toArray below meth c H locs 0 0 (MQ below (va_Qi (fun (r : Int32) (_ : Unit) => r = rv.1) (fun _ => xPost D T [((x 0), .inr (7, o7 x u_this)), ((x 2), .inl (T.1, 22, .inl u_this_told)), ((x 3), .inl (T.1, 11, .inl rv.2.1)), ((x 4), .inl (T.1, 7, .inl rv.2.2)), ((x 5), .inl (T.1, 21, .inl u_this_nows))] A) A) ([.ref (x 0), .int p1] : List Value).toArray s 0 0 A) (F0 m 18 ls []) := by
      intro n
      induction n with
      | zero => exact fun _ h => (xlp_0 h).elim
      | succ n ih =>
        intro v3 hM H locs ls hP hD hS hl
        obtain ⟨z, hM, hz1, hz2⟩ := xlp_s hM
        unfold s_X7_night_18 at hM
        refine lv_iload_n hx hb dX7_night_18 rfl (lv_at hl 2 rfl) ?_
        refine lv_iload_n hx hb dX7_night_19 rfl (lv_at hl 1 rfl) ?_
        refine lv_icmp_ge (tgt := 33) hx hb dX7_night_20 (by decide) (fun c4 => ?_) (fun c4 => ?_)
        · have hM := xit c4 hM
          obtain rfl := hz2 _ (Option.some.inj hM).symm
          exact Kv6 _ _ _ hP hD hS (lv_sub hl [0] rfl)
        · have hM := xif c4 hM
          refine lv_aload_n hx hb dX7_night_23 rfl (lv_at hl 0 rfl) ?_
          obtain ⟨r5, er5, hM⟩ := xbd hM
          refine xaftv (W2 := [((x 0), .inr (7, o7 x u_this)), ((x 2), .inl (T.1, 22, .inl u_this_told)), ((x 3), .inl (T.1, 11, .inl r2.1)), ((x 4), .inl (T.1, 7, .inl r5)), ((x 5), .inl (T.1, 21, .inl u_this_nows))]) (va_runV (As := []) (rest := []) ⟨hx, hb, hml, hown, hts⟩ (c_X7_goHour l D T x u_this r2.1 v3.2 er5) (cwV 0 hts gX7_night_X7_goHour rfl rfl rfl (by decide +kernel) ⟨Nat.le_of_ble_eq_true rfl, Nat.le_of_ble_eq_true rfl⟩) (xpvv hP hD hK [0, 2, 3] (by decide) rfl 0 7 rfl rfl (fun _ _ _ => trivial) (fun _ _ _ _ _ _ => trivial)) rfl rfl hl.1 rfl (lv_room (Nat.le_of_ble_eq_true rfl)) dX7_night_24 ⟨Nat.le_of_ble_eq_true rfl, Nat.le_of_ble_eq_true rfl⟩) hP hD hS hA [0, 2, 3] rfl rfl rfl rfl (fun H locs hP hD hS => ?_)
          refine lv_iinc (v := v3.1 + 1) (lv' := [(2, .int (v3.1 + 1)), (0, .ref (x 0)), (1, .int p1)]) hx hb dX7_night_27 hl (k := 2) rfl rfl (by decide) rfl (fun ls hl => ?_)
          refine lv_goto (tgt := 18) hx hb dX7_night_30 (by decide) ?_
          exact ih _ (hz1 _ (Option.some.inj hM).symm) _ _ _ hP hD hS (lv_sub hl [1, 2, 0] rfl)
    exact Lv3 _ _ hM _ _ _ hP hD hS (lv_sub hl [1, 2, 0] rfl)
  · have hM := xit c1 hM
    refine lv_iconst (v := (-1)) hx hb dX7_night_10 (by decide) ?_
    obtain rfl := Option.some.inj hM
    exact xreti hx hb hr hlocks hP hK hD hS dX7_night_11 rfl
def f_X7_sign (u_this : K7) (u_this_signWhat : (Nat → Int32)) (u_this_signHours : (Nat → Int32)) (u_this_signIs : (Nat → Int32)) (p1 : Int32) (p2 : Int32) (p3 : Int32) : Option (Int32 × K7 × (Nat → Int32) × (Nat → Int32) × (Nat → Int32)) :=
  ((if p1 = (1) then
     (if (f_X7_in p2 (1) (24)) = (0) then
       (some (0))
      else
       (if (f_X7_in p3 (0) (999)) = (0) then
         (some (0))
        else
         (some (1))))
    else
     (if (f_X7_in p1 (0) (2)) = (0) then
       (some (0))
      else
       (if p2 = (0) then
         (((if p1 = (0) then
             (some (200))
            else
             (some (1)) : Option (Int32))).bind fun v5 =>
          if (f_X7_in p3 (0) v5) = (0) then
           (some (0))
          else
           (some (1)))
        else
         (some (0)))) : Option (Int32))).bind fun v9 =>
  if v9 = (0) then
   (some ((-1), u_this, u_this_signWhat, u_this_signHours, u_this_signIs))
  else
   (if u_this.2.2.2.2.2.2.2.1 = (6) then
     (some ((-3), u_this, u_this_signWhat, u_this_signHours, u_this_signIs))
    else
     (if xin u_this.2.2.2.2.2.2.2.1 6 = true then
      (some ((u_this.2.2.2.2.2.2.2.1 + (1)), (u_this.1, u_this.2.1, u_this.2.2.1, u_this.2.2.2.1, u_this.2.2.2.2.1, u_this.2.2.2.2.2.1, u_this.2.2.2.2.2.2.1, (u_this.2.2.2.2.2.2.2.1 + (1)), u_this.2.2.2.2.2.2.2.2.1, u_this.2.2.2.2.2.2.2.2.2.1, u_this.2.2.2.2.2.2.2.2.2.2.1, u_this.2.2.2.2.2.2.2.2.2.2.2), (upd u_this_signWhat u_this.2.2.2.2.2.2.2.1.toNatClampNeg p1), (upd u_this_signHours u_this.2.2.2.2.2.2.2.1.toNatClampNeg p2), (upd u_this_signIs u_this.2.2.2.2.2.2.2.1.toNatClampNeg p3)))
      else none))
set_option maxHeartbeats 4000000 in
set_option maxRecDepth 100000 in
theorem c_X7_sign (l : Launch) (D : va_G) (T : xT) (x : Nat → Nat) {sz : Nat} (u_this : K7) (u_this_signWhat : (Nat → Int32)) (u_this_signHours : (Nat → Int32)) (u_this_signIs : (Nat → Int32)) (p1 : Int32) (p2 : Int32) (p3 : Int32) {rv : Int32 × K7 × (Nat → Int32) × (Nat → Int32) × (Nat → Int32)} (hM : f_X7_sign u_this u_this_signWhat u_this_signHours u_this_signIs p1 p2 p3 = some rv) : Met l yX7_sign wsX7_sign ({ frames := 1, cells := 0, slots := 0, locals := 22 } : Room) (va_Pc [.ref (x 0), .int p1, .int p2, .int p3] (xPre D T [((x 0), .inr (7, o7 x u_this)), ((x 7), .inl (T.1, 6, .inl u_this_signWhat)), ((x 8), .inl (T.1, 6, .inl u_this_signHours)), ((x 9), .inl (T.1, 6, .inl u_this_signIs))] sz xE0)) (va_Qi (fun (r : Int32) (_ : Unit) => r = rv.1) (fun _ => xPost D T [((x 0), .inr (7, o7 x rv.2.1)), ((x 7), .inl (T.1, 6, .inl rv.2.2.1)), ((x 8), .inl (T.1, 6, .inl rv.2.2.2.1)), ((x 9), .inl (T.1, 6, .inl rv.2.2.2.2))] (va_A [((x 0), .inr (7, o7 x u_this)), ((x 7), .inl (T.1, 6, .inl u_this_signWhat)), ((x 8), .inl (T.1, 6, .inl u_this_signHours)), ((x 9), .inl (T.1, 6, .inl u_this_signIs))] sz)) (va_A [((x 0), .inr (7, o7 x u_this)), ((x 7), .inl (T.1, 6, .inl u_this_signWhat)), ((x 8), .inl (T.1, 6, .inl u_this_signHours)), ((x 9), .inl (T.1, 6, .inl u_this_signIs))] sz)) 0 0 (va_A [((x 0), .inr (7, o7 x u_this)), ((x 7), .inl (T.1, 6, .inl u_this_signWhat)), ((x 8), .inl (T.1, 6, .inl u_this_signHours)), ((x 9), .inl (T.1, 6, .inl u_this_signIs))] sz) := by
  refine xMet (av := [.ref (x 0), .int p1, .int p2, .int p3]) (Wd := [((x 0), .inr (7, o7 x u_this)), ((x 7), .inl (T.1, 6, .inl u_this_signWhat)), ((x 8), .inl (T.1, 6, .inl u_this_signHours)), ((x 9), .inl (T.1, 6, .inl u_this_signIs))]) (E := xE0) (Qc := fun A => (va_Qi (fun (r : Int32) (_ : Unit) => r = rv.1) (fun _ => xPost D T [((x 0), .inr (7, o7 x rv.2.1)), ((x 7), .inl (T.1, 6, .inl rv.2.2.1)), ((x 8), .inl (T.1, 6, .inl rv.2.2.2.1)), ((x 9), .inl (T.1, 6, .inl rv.2.2.2.2))] A) A)) (cc := cX7_sign) (maxL := 5) (ret := (some .int)) (by decide) rfl (Nat.le_of_ble_eq_true rfl) ?_
  intro p e s m below meth c A ls hx hb hr hml hts hown hlocks hnm hP hK hD hS hA hE hl
  have hown : s.vm.findClass RX7 = some m.cls := hown
  have hl : lv_has ls 5 [(0, .ref (x 0)), (1, .int p1), (2, .int p2), (3, .int p3)] := hl
  unfold f_X7_sign at hM
  refine lv_iload_n hx hb dX7_sign_0 rfl (lv_at hl 1 rfl) ?_
  refine lv_iconst (v := 1) hx hb dX7_sign_1 (by decide) ?_
  obtain ⟨v9, hM, hNv9⟩ := xbd hM
  have Kv9 : ∀ (H : Heap) (locs : List Loc) (ls : Array Slot), va_P D vwCl [((x 0), .inr (7, o7 x u_this)), ((x 7), .inl (T.1, 6, .inl u_this_signWhat)), ((x 8), .inl (T.1, 6, .inl u_this_signHours)), ((x 9), .inl (T.1, 6, .inl u_this_signIs))] H → va_D A [((x 0), .inr (7, o7 x u_this)), ((x 7), .inl (T.1, 6, .inl u_this_signWhat)), ((x 8), .inl (T.1, 6, .inl u_this_signHours)), ((x 9), .inl (T.1, 6, .inl u_this_signIs))] → va_S A s.heap H locs → lv_has ls 5 [(0, .ref (x 0)), (1, .int p1), (2, .int p2), (3, .int p3)] → W p l e ({ frames := 1, cells := 0, slots := 0, locals := 22 } : Room) s m ([.ref (x 0), .int p1, .int p2, .int p3] : List Value).toArray below meth c H locs 0 0 (MQ below (va_Qi (fun (r : Int32) (_ : Unit) => r = rv.1) (fun _ => xPost D T [((x 0), .inr (7, o7 x rv.2.1)), ((x 7), .inl (T.1, 6, .inl rv.2.2.1)), ((x 8), .inl (T.1, 6, .inl rv.2.2.2.1)), ((x 9), .inl (T.1, 6, .inl rv.2.2.2.2))] A) A) ([.ref (x 0), .int p1, .int p2, .int p3] : List Value).toArray s 0 0 A) (F0 m 71 ls [.int v9]) := by
    intro H locs ls hP hD hS hl
    have hM := hNv9
    refine lv_istore (lv' := [(4, .int v9), (0, .ref (x 0)), (1, .int p1), (2, .int p2), (3, .int p3)]) hx hb dX7_sign_71 hl (by decide) rfl (fun ls hl => ?_)
    refine lv_iload hx hb dX7_sign_73 (lv_at hl 0 rfl) ?_
    refine lv_if_ne (tgt := 80) hx hb dX7_sign_75 (by decide) (fun c10 => ?_) (fun c10 => ?_)
    · have hM := xif c10 hM
      refine lv_aload_n hx hb dX7_sign_80 rfl (lv_at hl 1 rfl) ?_
      refine va_get (D := D) (ci := 7) (v := .int u_this.2.2.2.2.2.2.2.1) (C := RX7) (T := TX7) (N := 30) hx hb hts (fun w h => List.mem_cons_of_mem _ (List.mem_append_right _ h)) hown hK hP 0 rfl rfl 13 (by decide) (hts _ (List.mem_of_getElem? (i := 1) rfl)) (fun _ h9 => h9) rfl dX7_sign_81 ?_
      refine lv_bipush (v := 6) hx hb dX7_sign_84 (by decide) ?_
      refine lv_icmp_ne (tgt := 92) hx hb dX7_sign_86 (by decide) (fun c11 => ?_) (fun c11 => ?_)
      · have hM := xif c11 hM
        refine lv_aload_n hx hb dX7_sign_92 rfl (lv_at hl 1 rfl) ?_
        refine va_get (D := D) (ci := 7) (v := .ref (x 7)) (C := RX7) (T := TX7) (N := 30) hx hb hts (fun w h => List.mem_cons_of_mem _ (List.mem_append_right _ h)) hown hK hP 0 rfl rfl 14 (by decide) (hts _ (List.mem_of_getElem? (i := 2) rfl)) (fun _ h9 => h9) rfl dX7_sign_93 ?_
        refine lv_aload_n hx hb dX7_sign_96 rfl (lv_at hl 1 rfl) ?_
        refine va_get (D := D) (ci := 7) (v := .int u_this.2.2.2.2.2.2.2.1) (C := RX7) (T := TX7) (N := 30) hx hb hts (fun w h => List.mem_cons_of_mem _ (List.mem_append_right _ h)) hown hK hP 0 rfl rfl 13 (by decide) (hts _ (List.mem_of_getElem? (i := 1) rfl)) (fun _ h9 => h9) rfl dX7_sign_97 ?_
        refine lv_iload_n hx hb dX7_sign_100 rfl (lv_at hl 2 rfl) ?_
        obtain ⟨g12, hM⟩ := xck hM
        refine xast hx hb hK hP hD hS 1 0 rfl rfl g12 rfl dX7_sign_101 (fun H locs hP hD hS => ?_)
        have hP : va_P D vwCl [((x 0), .inr (7, o7 x u_this)), ((x 7), .inl (T.1, 6, .inl (upd u_this_signWhat u_this.2.2.2.2.2.2.2.1.toNatClampNeg p1))), ((x 8), .inl (T.1, 6, .inl u_this_signHours)), ((x 9), .inl (T.1, 6, .inl u_this_signIs))] H := hP
        have hD : va_D A [((x 0), .inr (7, o7 x u_this)), ((x 7), .inl (T.1, 6, .inl (upd u_this_signWhat u_this.2.2.2.2.2.2.2.1.toNatClampNeg p1))), ((x 8), .inl (T.1, 6, .inl u_this_signHours)), ((x 9), .inl (T.1, 6, .inl u_this_signIs))] := hD
        refine lv_aload_n hx hb dX7_sign_102 rfl (lv_at hl 1 rfl) ?_
        refine va_get (D := D) (ci := 7) (v := .ref (x 8)) (C := RX7) (T := TX7) (N := 30) hx hb hts (fun w h => List.mem_cons_of_mem _ (List.mem_append_right _ h)) hown hK hP 0 rfl rfl 15 (by decide) (hts _ (List.mem_of_getElem? (i := 3) rfl)) (fun _ h9 => h9) rfl dX7_sign_103 ?_
        refine lv_aload_n hx hb dX7_sign_106 rfl (lv_at hl 1 rfl) ?_
        refine va_get (D := D) (ci := 7) (v := .int u_this.2.2.2.2.2.2.2.1) (C := RX7) (T := TX7) (N := 30) hx hb hts (fun w h => List.mem_cons_of_mem _ (List.mem_append_right _ h)) hown hK hP 0 rfl rfl 13 (by decide) (hts _ (List.mem_of_getElem? (i := 1) rfl)) (fun _ h9 => h9) rfl dX7_sign_107 ?_
        refine lv_iload_n hx hb dX7_sign_110 rfl (lv_at hl 3 rfl) ?_
        refine xast hx hb hK hP hD hS 2 0 rfl rfl g12 rfl dX7_sign_111 (fun H locs hP hD hS => ?_)
        have hP : va_P D vwCl [((x 0), .inr (7, o7 x u_this)), ((x 7), .inl (T.1, 6, .inl (upd u_this_signWhat u_this.2.2.2.2.2.2.2.1.toNatClampNeg p1))), ((x 8), .inl (T.1, 6, .inl (upd u_this_signHours u_this.2.2.2.2.2.2.2.1.toNatClampNeg p2))), ((x 9), .inl (T.1, 6, .inl u_this_signIs))] H := hP
        have hD : va_D A [((x 0), .inr (7, o7 x u_this)), ((x 7), .inl (T.1, 6, .inl (upd u_this_signWhat u_this.2.2.2.2.2.2.2.1.toNatClampNeg p1))), ((x 8), .inl (T.1, 6, .inl (upd u_this_signHours u_this.2.2.2.2.2.2.2.1.toNatClampNeg p2))), ((x 9), .inl (T.1, 6, .inl u_this_signIs))] := hD
        refine lv_aload_n hx hb dX7_sign_112 rfl (lv_at hl 1 rfl) ?_
        refine va_get (D := D) (ci := 7) (v := .ref (x 9)) (C := RX7) (T := TX7) (N := 30) hx hb hts (fun w h => List.mem_cons_of_mem _ (List.mem_append_right _ h)) hown hK hP 0 rfl rfl 16 (by decide) (hts _ (List.mem_of_getElem? (i := 4) rfl)) (fun _ h9 => h9) rfl dX7_sign_113 ?_
        refine lv_aload_n hx hb dX7_sign_116 rfl (lv_at hl 1 rfl) ?_
        refine va_get (D := D) (ci := 7) (v := .int u_this.2.2.2.2.2.2.2.1) (C := RX7) (T := TX7) (N := 30) hx hb hts (fun w h => List.mem_cons_of_mem _ (List.mem_append_right _ h)) hown hK hP 0 rfl rfl 13 (by decide) (hts _ (List.mem_of_getElem? (i := 1) rfl)) (fun _ h9 => h9) rfl dX7_sign_117 ?_
        refine lv_iload_n hx hb dX7_sign_120 rfl (lv_at hl 4 rfl) ?_
        refine xast hx hb hK hP hD hS 3 0 rfl rfl g12 rfl dX7_sign_121 (fun H locs hP hD hS => ?_)
        have hP : va_P D vwCl [((x 0), .inr (7, o7 x u_this)), ((x 7), .inl (T.1, 6, .inl (upd u_this_signWhat u_this.2.2.2.2.2.2.2.1.toNatClampNeg p1))), ((x 8), .inl (T.1, 6, .inl (upd u_this_signHours u_this.2.2.2.2.2.2.2.1.toNatClampNeg p2))), ((x 9), .inl (T.1, 6, .inl (upd u_this_signIs u_this.2.2.2.2.2.2.2.1.toNatClampNeg p3)))] H := hP
        have hD : va_D A [((x 0), .inr (7, o7 x u_this)), ((x 7), .inl (T.1, 6, .inl (upd u_this_signWhat u_this.2.2.2.2.2.2.2.1.toNatClampNeg p1))), ((x 8), .inl (T.1, 6, .inl (upd u_this_signHours u_this.2.2.2.2.2.2.2.1.toNatClampNeg p2))), ((x 9), .inl (T.1, 6, .inl (upd u_this_signIs u_this.2.2.2.2.2.2.2.1.toNatClampNeg p3)))] := hD
        refine lv_aload_n hx hb dX7_sign_122 rfl (lv_at hl 1 rfl) ?_
        refine lv_dup hx hb dX7_sign_123 rfl ?_
        refine va_get (D := D) (ci := 7) (v := .int u_this.2.2.2.2.2.2.2.1) (C := RX7) (T := TX7) (N := 30) hx hb hts (fun w h => List.mem_cons_of_mem _ (List.mem_append_right _ h)) hown hK hP 0 rfl rfl 13 (by decide) (hts _ (List.mem_of_getElem? (i := 1) rfl)) (fun _ h9 => h9) rfl dX7_sign_124 ?_
        refine lv_iconst (v := 1) hx hb dX7_sign_127 (by decide) ?_
        refine lv_iadd hx hb dX7_sign_128 ?_
        refine va_put (D := D) (ci := 7) (v := .int (u_this.2.2.2.2.2.2.2.1 + (1))) (C := RX7) (T := TX7) (N := 30) hx hb hts (fun w h => List.mem_cons_of_mem _ (List.mem_append_right _ h)) tyX7 tyX7_ok nmX7 hown hK hP hD hS 0 rfl rfl 13 (by decide) (hts _ (List.mem_of_getElem? (i := 1) rfl)) (fun _ h9 => h9) rfl (tyX7_ok 13 (by decide)) rfl rfl (Nat.le_of_ble_eq_true rfl) dX7_sign_129 (fun H locs hP hD hS => ?_)
        have hP : va_P D vwCl [((x 0), .inr (7, o7 x (u_this.1, u_this.2.1, u_this.2.2.1, u_this.2.2.2.1, u_this.2.2.2.2.1, u_this.2.2.2.2.2.1, u_this.2.2.2.2.2.2.1, (u_this.2.2.2.2.2.2.2.1 + (1)), u_this.2.2.2.2.2.2.2.2.1, u_this.2.2.2.2.2.2.2.2.2.1, u_this.2.2.2.2.2.2.2.2.2.2.1, u_this.2.2.2.2.2.2.2.2.2.2.2))), ((x 7), .inl (T.1, 6, .inl (upd u_this_signWhat u_this.2.2.2.2.2.2.2.1.toNatClampNeg p1))), ((x 8), .inl (T.1, 6, .inl (upd u_this_signHours u_this.2.2.2.2.2.2.2.1.toNatClampNeg p2))), ((x 9), .inl (T.1, 6, .inl (upd u_this_signIs u_this.2.2.2.2.2.2.2.1.toNatClampNeg p3)))] H := hP
        have hD : va_D A [((x 0), .inr (7, o7 x (u_this.1, u_this.2.1, u_this.2.2.1, u_this.2.2.2.1, u_this.2.2.2.2.1, u_this.2.2.2.2.2.1, u_this.2.2.2.2.2.2.1, (u_this.2.2.2.2.2.2.2.1 + (1)), u_this.2.2.2.2.2.2.2.2.1, u_this.2.2.2.2.2.2.2.2.2.1, u_this.2.2.2.2.2.2.2.2.2.2.1, u_this.2.2.2.2.2.2.2.2.2.2.2))), ((x 7), .inl (T.1, 6, .inl (upd u_this_signWhat u_this.2.2.2.2.2.2.2.1.toNatClampNeg p1))), ((x 8), .inl (T.1, 6, .inl (upd u_this_signHours u_this.2.2.2.2.2.2.2.1.toNatClampNeg p2))), ((x 9), .inl (T.1, 6, .inl (upd u_this_signIs u_this.2.2.2.2.2.2.2.1.toNatClampNeg p3)))] := hD
        refine lv_aload_n hx hb dX7_sign_132 rfl (lv_at hl 1 rfl) ?_
        refine va_get (D := D) (ci := 7) (v := .int (u_this.2.2.2.2.2.2.2.1 + (1))) (C := RX7) (T := TX7) (N := 30) hx hb hts (fun w h => List.mem_cons_of_mem _ (List.mem_append_right _ h)) hown hK hP 0 rfl rfl 13 (by decide) (hts _ (List.mem_of_getElem? (i := 1) rfl)) (fun _ h9 => h9) rfl dX7_sign_133 ?_
        obtain rfl := Option.some.inj hM
        exact xreti hx hb hr hlocks hP hK hD hS dX7_sign_136 rfl
      · have hM := xit c11 hM
        refine lv_bipush (v := (-3)) hx hb dX7_sign_89 (by decide) ?_
        obtain rfl := Option.some.inj hM
        exact xreti hx hb hr hlocks hP hK hD hS dX7_sign_91 rfl
    · have hM := xit c10 hM
      refine lv_iconst (v := (-1)) hx hb dX7_sign_78 (by decide) ?_
      obtain rfl := Option.some.inj hM
      exact xreti hx hb hr hlocks hP hK hD hS dX7_sign_79 rfl
  refine lv_icmp_ne (tgt := 34) hx hb dX7_sign_2 (by decide) (fun c1 => ?_) (fun c1 => ?_)
  · have hM := xif c1 hM
    refine lv_iload_n hx hb dX7_sign_34 rfl (lv_at hl 1 rfl) ?_
    refine lv_iconst (v := 0) hx hb dX7_sign_35 (by decide) ?_
    refine lv_iconst (v := 2) hx hb dX7_sign_36 (by decide) ?_
    refine xafti (rv := (f_X7_in p1 (0) (2))) (W2 := [((x 0), .inr (7, o7 x u_this)), ((x 7), .inl (T.1, 6, .inl u_this_signWhat)), ((x 8), .inl (T.1, 6, .inl u_this_signHours)), ((x 9), .inl (T.1, 6, .inl u_this_signIs))]) (va_runS (As := [.int p1, .int (0), .int (2)]) (rest := []) ⟨hx, hb, hml, hown, hts⟩ (c_X7_in (rv := (f_X7_in p1 (0) (2))) l D T p1 (0) (2) rfl) (cwS 3 hts gX7_sign_X7_in rfl rfl rfl (by decide +kernel) ⟨Nat.le_of_ble_eq_true rfl, Nat.le_of_ble_eq_true rfl⟩) (xpvs hP hD hK [] (by decide) rfl (fun _ _ _ => trivial) (fun _ _ _ _ _ _ => trivial)) rfl rfl hl.1 rfl (lv_room (Nat.le_of_ble_eq_true rfl)) dX7_sign_37 ⟨Nat.le_of_ble_eq_true rfl, Nat.le_of_ble_eq_true rfl⟩) hP hD hS hA [] rfl rfl rfl rfl (fun H locs hP hD hS => ?_)
    refine lv_if_eq (tgt := 70) hx hb dX7_sign_40 (by decide) (fun c2 => ?_) (fun c2 => ?_)
    · have hM := xit c2 hM
      refine lv_iconst (v := 0) hx hb dX7_sign_70 (by decide) ?_
      obtain rfl := Option.some.inj hM
      exact Kv9 _ _ _ hP hD hS (lv_sub hl [0, 1, 2, 3] rfl)
    · have hM := xif c2 hM
      refine lv_iload_n hx hb dX7_sign_43 rfl (lv_at hl 2 rfl) ?_
      refine lv_if_ne (tgt := 70) hx hb dX7_sign_44 (by decide) (fun c3 => ?_) (fun c3 => ?_)
      · have hM := xif c3 hM
        refine lv_iconst (v := 0) hx hb dX7_sign_70 (by decide) ?_
        obtain rfl := Option.some.inj hM
        exact Kv9 _ _ _ hP hD hS (lv_sub hl [0, 1, 2, 3] rfl)
      · have hM := xit c3 hM
        refine lv_iload_n hx hb dX7_sign_47 rfl (lv_at hl 3 rfl) ?_
        refine lv_iconst (v := 0) hx hb dX7_sign_48 (by decide) ?_
        refine lv_iload_n hx hb dX7_sign_49 rfl (lv_at hl 1 rfl) ?_
        obtain ⟨v5, hM, hNv5⟩ := xbd hM
        have Kv5 : ∀ (H : Heap) (locs : List Loc) (ls : Array Slot), va_P D vwCl [((x 0), .inr (7, o7 x u_this)), ((x 7), .inl (T.1, 6, .inl u_this_signWhat)), ((x 8), .inl (T.1, 6, .inl u_this_signHours)), ((x 9), .inl (T.1, 6, .inl u_this_signIs))] H → va_D A [((x 0), .inr (7, o7 x u_this)), ((x 7), .inl (T.1, 6, .inl u_this_signWhat)), ((x 8), .inl (T.1, 6, .inl u_this_signHours)), ((x 9), .inl (T.1, 6, .inl u_this_signIs))] → va_S A s.heap H locs → lv_has ls 5 [(0, .ref (x 0)), (1, .int p1), (2, .int p2), (3, .int p3)] → W p l e ({ frames := 1, cells := 0, slots := 0, locals := 22 } : Room) s m ([.ref (x 0), .int p1, .int p2, .int p3] : List Value).toArray below meth c H locs 0 0 (MQ below (va_Qi (fun (r : Int32) (_ : Unit) => r = rv.1) (fun _ => xPost D T [((x 0), .inr (7, o7 x rv.2.1)), ((x 7), .inl (T.1, 6, .inl rv.2.2.1)), ((x 8), .inl (T.1, 6, .inl rv.2.2.2.1)), ((x 9), .inl (T.1, 6, .inl rv.2.2.2.2))] A) A) ([.ref (x 0), .int p1, .int p2, .int p3] : List Value).toArray s 0 0 A) (F0 m 60 ls [.int v5, .int (0), .int p3]) := by
          intro H locs ls hP hD hS hl
          have hM := hNv5
          refine xafti (rv := (f_X7_in p3 (0) v5)) (W2 := [((x 0), .inr (7, o7 x u_this)), ((x 7), .inl (T.1, 6, .inl u_this_signWhat)), ((x 8), .inl (T.1, 6, .inl u_this_signHours)), ((x 9), .inl (T.1, 6, .inl u_this_signIs))]) (va_runS (As := [.int p3, .int (0), .int v5]) (rest := []) ⟨hx, hb, hml, hown, hts⟩ (c_X7_in (rv := (f_X7_in p3 (0) v5)) l D T p3 (0) v5 rfl) (cwS 3 hts gX7_sign_X7_in rfl rfl rfl (by decide +kernel) ⟨Nat.le_of_ble_eq_true rfl, Nat.le_of_ble_eq_true rfl⟩) (xpvs hP hD hK [] (by decide) rfl (fun _ _ _ => trivial) (fun _ _ _ _ _ _ => trivial)) rfl rfl hl.1 rfl (lv_room (Nat.le_of_ble_eq_true rfl)) dX7_sign_60 ⟨Nat.le_of_ble_eq_true rfl, Nat.le_of_ble_eq_true rfl⟩) hP hD hS hA [] rfl rfl rfl rfl (fun H locs hP hD hS => ?_)
          refine lv_if_eq (tgt := 70) hx hb dX7_sign_63 (by decide) (fun c6 => ?_) (fun c6 => ?_)
          · have hM := xit c6 hM
            refine lv_iconst (v := 0) hx hb dX7_sign_70 (by decide) ?_
            obtain rfl := Option.some.inj hM
            exact Kv9 _ _ _ hP hD hS (lv_sub hl [0, 1, 2, 3] rfl)
          · have hM := xif c6 hM
            refine lv_iconst (v := 1) hx hb dX7_sign_66 (by decide) ?_
            refine lv_goto (tgt := 71) hx hb dX7_sign_67 (by decide) ?_
            obtain rfl := Option.some.inj hM
            exact Kv9 _ _ _ hP hD hS (lv_sub hl [0, 1, 2, 3] rfl)
        refine lv_if_ne (tgt := 59) hx hb dX7_sign_50 (by decide) (fun c4 => ?_) (fun c4 => ?_)
        · have hM := xif c4 hM
          refine lv_iconst (v := 1) hx hb dX7_sign_59 (by decide) ?_
          obtain rfl := Option.some.inj hM
          exact Kv5 _ _ _ hP hD hS (lv_sub hl [0, 1, 2, 3] rfl)
        · have hM := xit c4 hM
          refine lv_sipush (v := 200) hx hb dX7_sign_53 (by decide) ?_
          refine lv_goto (tgt := 60) hx hb dX7_sign_56 (by decide) ?_
          obtain rfl := Option.some.inj hM
          exact Kv5 _ _ _ hP hD hS (lv_sub hl [0, 1, 2, 3] rfl)
  · have hM := xit c1 hM
    refine lv_iload_n hx hb dX7_sign_5 rfl (lv_at hl 2 rfl) ?_
    refine lv_iconst (v := 1) hx hb dX7_sign_6 (by decide) ?_
    refine lv_bipush (v := 24) hx hb dX7_sign_7 (by decide) ?_
    refine xafti (rv := (f_X7_in p2 (1) (24))) (W2 := [((x 0), .inr (7, o7 x u_this)), ((x 7), .inl (T.1, 6, .inl u_this_signWhat)), ((x 8), .inl (T.1, 6, .inl u_this_signHours)), ((x 9), .inl (T.1, 6, .inl u_this_signIs))]) (va_runS (As := [.int p2, .int (1), .int (24)]) (rest := []) ⟨hx, hb, hml, hown, hts⟩ (c_X7_in (rv := (f_X7_in p2 (1) (24))) l D T p2 (1) (24) rfl) (cwS 3 hts gX7_sign_X7_in rfl rfl rfl (by decide +kernel) ⟨Nat.le_of_ble_eq_true rfl, Nat.le_of_ble_eq_true rfl⟩) (xpvs hP hD hK [] (by decide) rfl (fun _ _ _ => trivial) (fun _ _ _ _ _ _ => trivial)) rfl rfl hl.1 rfl (lv_room (Nat.le_of_ble_eq_true rfl)) dX7_sign_9 ⟨Nat.le_of_ble_eq_true rfl, Nat.le_of_ble_eq_true rfl⟩) hP hD hS hA [] rfl rfl rfl rfl (fun H locs hP hD hS => ?_)
    refine lv_if_eq (tgt := 30) hx hb dX7_sign_12 (by decide) (fun c7 => ?_) (fun c7 => ?_)
    · have hM := xit c7 hM
      refine lv_iconst (v := 0) hx hb dX7_sign_30 (by decide) ?_
      refine lv_goto (tgt := 71) hx hb dX7_sign_31 (by decide) ?_
      obtain rfl := Option.some.inj hM
      exact Kv9 _ _ _ hP hD hS (lv_sub hl [0, 1, 2, 3] rfl)
    · have hM := xif c7 hM
      refine lv_iload_n hx hb dX7_sign_15 rfl (lv_at hl 3 rfl) ?_
      refine lv_iconst (v := 0) hx hb dX7_sign_16 (by decide) ?_
      refine lv_sipush (v := 999) hx hb dX7_sign_17 (by decide) ?_
      refine xafti (rv := (f_X7_in p3 (0) (999))) (W2 := [((x 0), .inr (7, o7 x u_this)), ((x 7), .inl (T.1, 6, .inl u_this_signWhat)), ((x 8), .inl (T.1, 6, .inl u_this_signHours)), ((x 9), .inl (T.1, 6, .inl u_this_signIs))]) (va_runS (As := [.int p3, .int (0), .int (999)]) (rest := []) ⟨hx, hb, hml, hown, hts⟩ (c_X7_in (rv := (f_X7_in p3 (0) (999))) l D T p3 (0) (999) rfl) (cwS 3 hts gX7_sign_X7_in rfl rfl rfl (by decide +kernel) ⟨Nat.le_of_ble_eq_true rfl, Nat.le_of_ble_eq_true rfl⟩) (xpvs hP hD hK [] (by decide) rfl (fun _ _ _ => trivial) (fun _ _ _ _ _ _ => trivial)) rfl rfl hl.1 rfl (lv_room (Nat.le_of_ble_eq_true rfl)) dX7_sign_20 ⟨Nat.le_of_ble_eq_true rfl, Nat.le_of_ble_eq_true rfl⟩) hP hD hS hA [] rfl rfl rfl rfl (fun H locs hP hD hS => ?_)
      refine lv_if_eq (tgt := 30) hx hb dX7_sign_23 (by decide) (fun c8 => ?_) (fun c8 => ?_)
      · have hM := xit c8 hM
        refine lv_iconst (v := 0) hx hb dX7_sign_30 (by decide) ?_
        refine lv_goto (tgt := 71) hx hb dX7_sign_31 (by decide) ?_
        obtain rfl := Option.some.inj hM
        exact Kv9 _ _ _ hP hD hS (lv_sub hl [0, 1, 2, 3] rfl)
      · have hM := xif c8 hM
        refine lv_iconst (v := 1) hx hb dX7_sign_26 (by decide) ?_
        refine lv_goto (tgt := 71) hx hb dX7_sign_27 (by decide) ?_
        obtain rfl := Option.some.inj hM
        exact Kv9 _ _ _ hP hD hS (lv_sub hl [0, 1, 2, 3] rfl)
def f_X7_unsign (u_this : K7) : Int32 × K7 :=
  (u_this.2.2.2.2.2.2.2.1, (u_this.1, u_this.2.1, u_this.2.2.1, u_this.2.2.2.1, u_this.2.2.2.2.1, u_this.2.2.2.2.2.1, u_this.2.2.2.2.2.2.1, 0, u_this.2.2.2.2.2.2.2.2.1, u_this.2.2.2.2.2.2.2.2.2.1, u_this.2.2.2.2.2.2.2.2.2.2.1, u_this.2.2.2.2.2.2.2.2.2.2.2))
set_option maxHeartbeats 4000000 in
set_option maxRecDepth 100000 in
theorem c_X7_unsign (l : Launch) (D : va_G) (T : xT) (x : Nat → Nat) {sz : Nat} (u_this : K7) {rv : Int32 × K7} (hM : f_X7_unsign u_this = rv) : Met l yX7_unsign wsX7_unsign ({ frames := 0, cells := 0, slots := 0, locals := 0 } : Room) (va_Pc [.ref (x 0)] (xPre D T [((x 0), .inr (7, o7 x u_this))] sz xE0)) (va_Qi (fun (r : Int32) (_ : Unit) => r = rv.1) (fun _ => xPost D T [((x 0), .inr (7, o7 x rv.2))] (va_A [((x 0), .inr (7, o7 x u_this))] sz)) (va_A [((x 0), .inr (7, o7 x u_this))] sz)) 0 0 (va_A [((x 0), .inr (7, o7 x u_this))] sz) := by
  refine xMet (av := [.ref (x 0)]) (Wd := [((x 0), .inr (7, o7 x u_this))]) (E := xE0) (Qc := fun A => (va_Qi (fun (r : Int32) (_ : Unit) => r = rv.1) (fun _ => xPost D T [((x 0), .inr (7, o7 x rv.2))] A) A)) (cc := cX7_unsign) (maxL := 2) (ret := (some .int)) (by decide) rfl (Nat.le_of_ble_eq_true rfl) ?_
  intro p e s m below meth c A ls hx hb hr hml hts hown hlocks hnm hP hK hD hS hA hE hl
  have hown : s.vm.findClass RX7 = some m.cls := hown
  have hl : lv_has ls 2 [(0, .ref (x 0))] := hl
  unfold f_X7_unsign at hM
  refine lv_aload_n hx hb dX7_unsign_0 rfl (lv_at hl 0 rfl) ?_
  refine va_get (D := D) (ci := 7) (v := .int u_this.2.2.2.2.2.2.2.1) (C := RX7) (T := TX7) (N := 30) hx hb hts (fun w h => List.mem_cons_of_mem _ (List.mem_append_right _ h)) hown hK hP 0 rfl rfl 13 (by decide) (hts _ (List.mem_of_getElem? (i := 1) rfl)) (fun _ h9 => h9) rfl dX7_unsign_1 ?_
  refine lv_istore_n (lv' := [(1, .int u_this.2.2.2.2.2.2.2.1), (0, .ref (x 0))]) hx hb dX7_unsign_4 rfl hl (by decide) rfl (fun ls hl => ?_)
  refine lv_aload_n hx hb dX7_unsign_5 rfl (lv_at hl 1 rfl) ?_
  refine lv_iconst (v := 0) hx hb dX7_unsign_6 (by decide) ?_
  refine va_put (D := D) (ci := 7) (v := .int (0)) (C := RX7) (T := TX7) (N := 30) hx hb hts (fun w h => List.mem_cons_of_mem _ (List.mem_append_right _ h)) tyX7 tyX7_ok nmX7 hown hK hP hD hS 0 rfl rfl 13 (by decide) (hts _ (List.mem_of_getElem? (i := 1) rfl)) (fun _ h9 => h9) rfl (tyX7_ok 13 (by decide)) rfl rfl (Nat.le_of_ble_eq_true rfl) dX7_unsign_7 (fun H locs hP hD hS => ?_)
  have hP : va_P D vwCl [((x 0), .inr (7, o7 x (u_this.1, u_this.2.1, u_this.2.2.1, u_this.2.2.2.1, u_this.2.2.2.2.1, u_this.2.2.2.2.2.1, u_this.2.2.2.2.2.2.1, 0, u_this.2.2.2.2.2.2.2.2.1, u_this.2.2.2.2.2.2.2.2.2.1, u_this.2.2.2.2.2.2.2.2.2.2.1, u_this.2.2.2.2.2.2.2.2.2.2.2)))] H := hP
  have hD : va_D A [((x 0), .inr (7, o7 x (u_this.1, u_this.2.1, u_this.2.2.1, u_this.2.2.2.1, u_this.2.2.2.2.1, u_this.2.2.2.2.2.1, u_this.2.2.2.2.2.2.1, 0, u_this.2.2.2.2.2.2.2.2.1, u_this.2.2.2.2.2.2.2.2.2.1, u_this.2.2.2.2.2.2.2.2.2.2.1, u_this.2.2.2.2.2.2.2.2.2.2.2)))] := hD
  refine lv_iload_n hx hb dX7_unsign_10 rfl (lv_at hl 0 rfl) ?_
  obtain rfl := hM
  exact xreti hx hb hr hlocks hP hK hD hS dX7_unsign_11 rfl
def f_X7_isTrouble (p1 : Int32) : Int32 :=
  (f_X7_in p1 (0) (5))
set_option maxHeartbeats 4000000 in
set_option maxRecDepth 100000 in
theorem c_X7_isTrouble (l : Launch) (D : va_G) (T : xT)  {sz : Nat} (p1 : Int32) {rv : Int32} (hM : f_X7_isTrouble p1 = rv) : Met l yX7_isTrouble wsX7_isTrouble ({ frames := 1, cells := 0, slots := 0, locals := 22 } : Room) (va_Pc [.int p1] (xPre D T [] sz xE0)) (va_Qi (fun (r : Int32) (_ : Unit) => r = rv) (fun _ => xPost D T [] (va_A [] sz)) (va_A [] sz)) 0 0 (va_A [] sz) := by
  refine xMet (av := [.int p1]) (Wd := []) (E := xE0) (Qc := fun A => (va_Qi (fun (r : Int32) (_ : Unit) => r = rv) (fun _ => xPost D T [] A) A)) (cc := cX7_isTrouble) (maxL := 1) (ret := (some .boolean)) (by decide) rfl (Nat.le_of_ble_eq_true rfl) ?_
  intro p e s m below meth c A ls hx hb hr hml hts hown hlocks hnm hP hK hD hS hA hE hl
  have hown : s.vm.findClass RX7 = some m.cls := hown
  have hl : lv_has ls 1 [(0, .int p1)] := hl
  unfold f_X7_isTrouble at hM
  refine lv_iload_n hx hb dX7_isTrouble_0 rfl (lv_at hl 0 rfl) ?_
  refine lv_iconst (v := 0) hx hb dX7_isTrouble_1 (by decide) ?_
  refine lv_iconst (v := 5) hx hb dX7_isTrouble_2 (by decide) ?_
  refine xafti (rv := (f_X7_in p1 (0) (5))) (W2 := []) (va_runS (As := [.int p1, .int (0), .int (5)]) (rest := []) ⟨hx, hb, hml, hown, hts⟩ (c_X7_in (rv := (f_X7_in p1 (0) (5))) l D T p1 (0) (5) rfl) (cwS 3 hts gX7_isTrouble_X7_in rfl rfl rfl (by decide +kernel) ⟨Nat.le_of_ble_eq_true rfl, Nat.le_of_ble_eq_true rfl⟩) (xpvs hP hD hK [] (by decide) rfl (fun _ _ _ => trivial) (fun _ _ _ _ _ _ => trivial)) rfl rfl hl.1 rfl (lv_room (Nat.le_of_ble_eq_true rfl)) dX7_isTrouble_3 ⟨Nat.le_of_ble_eq_true rfl, Nat.le_of_ble_eq_true rfl⟩) hP hD hS hA [] rfl rfl rfl rfl (fun H locs hP hD hS => ?_)
  obtain rfl := hM
  exact xretz hx hb hr hlocks hP hK hD hS dX7_isTrouble_6 rfl (xnz1 (b_X7_in _ _ _))
def f_X7_chance (u_this : K7) (u_this_chances : (Nat → Int32)) (p1 : Int32) (p2 : Int32) : Option (Int32 × (Nat → Int32)) :=
  if (f_X7_isTrouble p1) = (0) then
   (some ((-1), u_this_chances))
  else
   (if (f_X7_in p2 (0) (9)) = (0) then
     (some ((-1), u_this_chances))
    else
     (if xin p1 6 = true then
      (some ((u_this_chances p1.toNatClampNeg), (upd u_this_chances p1.toNatClampNeg p2)))
      else none))
set_option maxHeartbeats 4000000 in
set_option maxRecDepth 100000 in
theorem c_X7_chance (l : Launch) (D : va_G) (T : xT) (x : Nat → Nat) {sz : Nat} (u_this : K7) (u_this_chances : (Nat → Int32)) (p1 : Int32) (p2 : Int32) {rv : Int32 × (Nat → Int32)} (hM : f_X7_chance u_this u_this_chances p1 p2 = some rv) : Met l yX7_chance wsX7_chance ({ frames := 2, cells := 0, slots := 0, locals := 42 } : Room) (va_Pc [.ref (x 0), .int p1, .int p2] (xPre D T [((x 0), .inr (7, o7 x u_this)), ((x 10), .inl (T.1, 6, .inl u_this_chances))] sz xE0)) (va_Qi (fun (r : Int32) (_ : Unit) => r = rv.1) (fun _ => xPost D T [((x 0), .inr (7, o7 x u_this)), ((x 10), .inl (T.1, 6, .inl rv.2))] (va_A [((x 0), .inr (7, o7 x u_this)), ((x 10), .inl (T.1, 6, .inl u_this_chances))] sz)) (va_A [((x 0), .inr (7, o7 x u_this)), ((x 10), .inl (T.1, 6, .inl u_this_chances))] sz)) 0 0 (va_A [((x 0), .inr (7, o7 x u_this)), ((x 10), .inl (T.1, 6, .inl u_this_chances))] sz) := by
  refine xMet (av := [.ref (x 0), .int p1, .int p2]) (Wd := [((x 0), .inr (7, o7 x u_this)), ((x 10), .inl (T.1, 6, .inl u_this_chances))]) (E := xE0) (Qc := fun A => (va_Qi (fun (r : Int32) (_ : Unit) => r = rv.1) (fun _ => xPost D T [((x 0), .inr (7, o7 x u_this)), ((x 10), .inl (T.1, 6, .inl rv.2))] A) A)) (cc := cX7_chance) (maxL := 4) (ret := (some .int)) (by decide) rfl (Nat.le_of_ble_eq_true rfl) ?_
  intro p e s m below meth c A ls hx hb hr hml hts hown hlocks hnm hP hK hD hS hA hE hl
  have hown : s.vm.findClass RX7 = some m.cls := hown
  have hl : lv_has ls 4 [(0, .ref (x 0)), (1, .int p1), (2, .int p2)] := hl
  unfold f_X7_chance at hM
  refine lv_iload_n hx hb dX7_chance_0 rfl (lv_at hl 1 rfl) ?_
  refine xafti (rv := (f_X7_isTrouble p1)) (W2 := [((x 0), .inr (7, o7 x u_this)), ((x 10), .inl (T.1, 6, .inl u_this_chances))]) (va_runS (As := [.int p1]) (rest := []) ⟨hx, hb, hml, hown, hts⟩ (c_X7_isTrouble (rv := (f_X7_isTrouble p1)) l D T p1 rfl) (cwS 1 hts gX7_chance_X7_isTrouble rfl rfl rfl (by decide +kernel) ⟨Nat.le_of_ble_eq_true rfl, Nat.le_of_ble_eq_true rfl⟩) (xpvs hP hD hK [] (by decide) rfl (fun _ _ _ => trivial) (fun _ _ _ _ _ _ => trivial)) rfl rfl hl.1 rfl (lv_room (Nat.le_of_ble_eq_true rfl)) dX7_chance_1 ⟨Nat.le_of_ble_eq_true rfl, Nat.le_of_ble_eq_true rfl⟩) hP hD hS hA [] rfl rfl rfl rfl (fun H locs hP hD hS => ?_)
  refine lv_if_eq (tgt := 17) hx hb dX7_chance_4 (by decide) (fun c1 => ?_) (fun c1 => ?_)
  · have hM := xit c1 hM
    refine lv_iconst (v := (-1)) hx hb dX7_chance_17 (by decide) ?_
    obtain rfl := Option.some.inj hM
    exact xreti hx hb hr hlocks hP hK hD hS dX7_chance_18 rfl
  · have hM := xif c1 hM
    refine lv_iload_n hx hb dX7_chance_7 rfl (lv_at hl 2 rfl) ?_
    refine lv_iconst (v := 0) hx hb dX7_chance_8 (by decide) ?_
    refine lv_bipush (v := 9) hx hb dX7_chance_9 (by decide) ?_
    refine xafti (rv := (f_X7_in p2 (0) (9))) (W2 := [((x 0), .inr (7, o7 x u_this)), ((x 10), .inl (T.1, 6, .inl u_this_chances))]) (va_runS (As := [.int p2, .int (0), .int (9)]) (rest := []) ⟨hx, hb, hml, hown, hts⟩ (c_X7_in (rv := (f_X7_in p2 (0) (9))) l D T p2 (0) (9) rfl) (cwS 3 hts gX7_chance_X7_in rfl rfl rfl (by decide +kernel) ⟨Nat.le_of_ble_eq_true rfl, Nat.le_of_ble_eq_true rfl⟩) (xpvs hP hD hK [] (by decide) rfl (fun _ _ _ => trivial) (fun _ _ _ _ _ _ => trivial)) rfl rfl hl.1 rfl (lv_room (Nat.le_of_ble_eq_true rfl)) dX7_chance_11 ⟨Nat.le_of_ble_eq_true rfl, Nat.le_of_ble_eq_true rfl⟩) hP hD hS hA [] rfl rfl rfl rfl (fun H locs hP hD hS => ?_)
    refine lv_if_ne (tgt := 19) hx hb dX7_chance_14 (by decide) (fun c2 => ?_) (fun c2 => ?_)
    · have hM := xif c2 hM
      refine lv_aload_n hx hb dX7_chance_19 rfl (lv_at hl 0 rfl) ?_
      refine va_get (D := D) (ci := 7) (v := .ref (x 10)) (C := RX7) (T := TX7) (N := 30) hx hb hts (fun w h => List.mem_cons_of_mem _ (List.mem_append_right _ h)) hown hK hP 0 rfl rfl 17 (by decide) (hts _ (List.mem_of_getElem? (i := 1) rfl)) (fun _ h9 => h9) rfl dX7_chance_20 ?_
      refine lv_iload_n hx hb dX7_chance_23 rfl (lv_at hl 1 rfl) ?_
      obtain ⟨g3, hM⟩ := xck hM
      refine xald (v := (u_this_chances p1.toNatClampNeg)) hx hb hK hP 1 0 rfl rfl g3 rfl dX7_chance_24 ?_
      refine lv_istore_n (lv' := [(3, .int (u_this_chances p1.toNatClampNeg)), (0, .ref (x 0)), (1, .int p1), (2, .int p2)]) hx hb dX7_chance_25 rfl hl (by decide) rfl (fun ls hl => ?_)
      refine lv_aload_n hx hb dX7_chance_26 rfl (lv_at hl 1 rfl) ?_
      refine va_get (D := D) (ci := 7) (v := .ref (x 10)) (C := RX7) (T := TX7) (N := 30) hx hb hts (fun w h => List.mem_cons_of_mem _ (List.mem_append_right _ h)) hown hK hP 0 rfl rfl 17 (by decide) (hts _ (List.mem_of_getElem? (i := 1) rfl)) (fun _ h9 => h9) rfl dX7_chance_27 ?_
      refine lv_iload_n hx hb dX7_chance_30 rfl (lv_at hl 2 rfl) ?_
      refine lv_iload_n hx hb dX7_chance_31 rfl (lv_at hl 3 rfl) ?_
      refine xast hx hb hK hP hD hS 1 0 rfl rfl g3 rfl dX7_chance_32 (fun H locs hP hD hS => ?_)
      have hP : va_P D vwCl [((x 0), .inr (7, o7 x u_this)), ((x 10), .inl (T.1, 6, .inl (upd u_this_chances p1.toNatClampNeg p2)))] H := hP
      have hD : va_D A [((x 0), .inr (7, o7 x u_this)), ((x 10), .inl (T.1, 6, .inl (upd u_this_chances p1.toNatClampNeg p2)))] := hD
      refine lv_iload_n hx hb dX7_chance_33 rfl (lv_at hl 0 rfl) ?_
      obtain rfl := Option.some.inj hM
      exact xreti hx hb hr hlocks hP hK hD hS dX7_chance_34 rfl
    · have hM := xit c2 hM
      refine lv_iconst (v := (-1)) hx hb dX7_chance_17 (by decide) ?_
      obtain rfl := Option.some.inj hM
      exact xreti hx hb hr hlocks hP hK hD hS dX7_chance_18 rfl
def f_X7_within (p1 : Int32) (p2 : Int32) (p3 : Int32) : Int32 :=
  if p2 ≤ p1 then
   (if p1 ≤ p3 then
     (p1)
    else
     (p3))
  else
   (p2)
set_option maxHeartbeats 4000000 in
set_option maxRecDepth 100000 in
theorem c_X7_within (l : Launch) (D : va_G) (T : xT)  {sz : Nat} (p1 : Int32) (p2 : Int32) (p3 : Int32) {rv : Int32} (hM : f_X7_within p1 p2 p3 = rv) : Met l yX7_within wsX7_within ({ frames := 0, cells := 0, slots := 0, locals := 0 } : Room) (va_Pc [.int p1, .int p2, .int p3] (xPre D T [] sz xE0)) (va_Qi (fun (r : Int32) (_ : Unit) => r = rv) (fun _ => xPost D T [] (va_A [] sz)) (va_A [] sz)) 0 0 (va_A [] sz) := by
  refine xMet (av := [.int p1, .int p2, .int p3]) (Wd := []) (E := xE0) (Qc := fun A => (va_Qi (fun (r : Int32) (_ : Unit) => r = rv) (fun _ => xPost D T [] A) A)) (cc := cX7_within) (maxL := 3) (ret := (some .int)) (by decide) rfl (Nat.le_of_ble_eq_true rfl) ?_
  intro p e s m below meth c A ls hx hb hr hml hts hown hlocks hnm hP hK hD hS hA hE hl
  have hown : s.vm.findClass RX7 = some m.cls := hown
  have hl : lv_has ls 3 [(0, .int p1), (1, .int p2), (2, .int p3)] := hl
  unfold f_X7_within at hM
  refine lv_iload_n hx hb dX7_within_0 rfl (lv_at hl 0 rfl) ?_
  refine lv_iload_n hx hb dX7_within_1 rfl (lv_at hl 1 rfl) ?_
  refine lv_icmp_ge (tgt := 9) hx hb dX7_within_2 (by decide) (fun c1 => ?_) (fun c1 => ?_)
  · have hM := xit c1 hM
    refine lv_iload_n hx hb dX7_within_9 rfl (lv_at hl 0 rfl) ?_
    refine lv_iload_n hx hb dX7_within_10 rfl (lv_at hl 2 rfl) ?_
    refine lv_icmp_le (tgt := 18) hx hb dX7_within_11 (by decide) (fun c2 => ?_) (fun c2 => ?_)
    · have hM := xit c2 hM
      refine lv_iload_n hx hb dX7_within_18 rfl (lv_at hl 0 rfl) ?_
      obtain rfl := hM
      exact xreti hx hb hr hlocks hP hK hD hS dX7_within_19 rfl
    · have hM := xif c2 hM
      refine lv_iload_n hx hb dX7_within_14 rfl (lv_at hl 2 rfl) ?_
      refine lv_goto (tgt := 19) hx hb dX7_within_15 (by decide) ?_
      obtain rfl := hM
      exact xreti hx hb hr hlocks hP hK hD hS dX7_within_19 rfl
  · have hM := xif c1 hM
    refine lv_iload_n hx hb dX7_within_5 rfl (lv_at hl 1 rfl) ?_
    refine lv_goto (tgt := 19) hx hb dX7_within_6 (by decide) ?_
    obtain rfl := hM
    exact xreti hx hb hr hlocks hP hK hD hS dX7_within_19 rfl
def f_X7_takeTrouble (N : Nat) (u_this : K7) (u_this_told : (Nat → Int32)) (u_this_par : (Nat → Int32)) (p1 : Int32) (p2 : Int32) : Option ((Nat → Int32)) :=
  (f_X7_takeTold N u_this u_this_told u_this_par).bind fun r1 =>
  if p1 = 1 then
   (some (upd r1 (8) (f_X7_within ((r1 8) - ((10) * p2)) (0) (100))))
  else if p1 = 2 then
   (some (upd r1 (5) (f_X7_within ((r1 5) + ((10) * p2)) (0) (99))))
  else if p1 = 3 then
   (if ((upd r1 (7) (f_X7_within ((r1 7) + ((3) * p2)) (0) (30))) 6) = (99) then
     (some (upd (upd r1 (7) (f_X7_within ((r1 7) + ((3) * p2)) (0) (30))) (6) (5)))
    else
     (some (upd (upd r1 (7) (f_X7_within ((r1 7) + ((3) * p2)) (0) (30))) (6) ((upd r1 (7) (f_X7_within ((r1 7) + ((3) * p2)) (0) (30))) 6))))
  else if p1 = 4 then
   (some (upd r1 (2) (f_X7_within ((r1 2) + ((2) * p2)) (1) (99))))
  else if p1 = 5 then
   (some (upd r1 (0) (f_X7_within ((r1 0) - ((4) * p2)) (1) (99))))
  else 
   (some r1)
set_option maxHeartbeats 4000000 in
set_option maxRecDepth 100000 in
theorem c_X7_takeTrouble (l : Launch) (D : va_G) (T : xT) (x : Nat → Nat) {sz : Nat} {N : Nat} (u_this : K7) (u_this_told : (Nat → Int32)) (u_this_par : (Nat → Int32)) (p1 : Int32) (p2 : Int32) {rv : (Nat → Int32)} (hM : f_X7_takeTrouble N u_this u_this_told u_this_par p1 p2 = some rv) : Met l yX7_takeTrouble wsX7_takeTrouble ({ frames := 1, cells := 0, slots := 0, locals := 22 } : Room) (va_Pc [.ref (x 0), .int p1, .int p2] (xPre D T [((x 0), .inr (7, o7 x u_this)), ((x 2), .inl (T.1, 22, .inl u_this_told)), ((x 3), .inl (T.1, 11, .inl u_this_par))] sz xE0)) (va_Qv (fun (_ : Unit) => True) (fun _ => xPost D T [((x 0), .inr (7, o7 x u_this)), ((x 2), .inl (T.1, 22, .inl u_this_told)), ((x 3), .inl (T.1, 11, .inl rv))] (va_A [((x 0), .inr (7, o7 x u_this)), ((x 2), .inl (T.1, 22, .inl u_this_told)), ((x 3), .inl (T.1, 11, .inl u_this_par))] sz)) (va_A [((x 0), .inr (7, o7 x u_this)), ((x 2), .inl (T.1, 22, .inl u_this_told)), ((x 3), .inl (T.1, 11, .inl u_this_par))] sz)) 0 0 (va_A [((x 0), .inr (7, o7 x u_this)), ((x 2), .inl (T.1, 22, .inl u_this_told)), ((x 3), .inl (T.1, 11, .inl u_this_par))] sz) := by
  refine xMet (av := [.ref (x 0), .int p1, .int p2]) (Wd := [((x 0), .inr (7, o7 x u_this)), ((x 2), .inl (T.1, 22, .inl u_this_told)), ((x 3), .inl (T.1, 11, .inl u_this_par))]) (E := xE0) (Qc := fun A => (va_Qv (fun (_ : Unit) => True) (fun _ => xPost D T [((x 0), .inr (7, o7 x u_this)), ((x 2), .inl (T.1, 22, .inl u_this_told)), ((x 3), .inl (T.1, 11, .inl rv))] A) A)) (cc := cX7_takeTrouble) (maxL := 3) (ret := none) (by decide) rfl (Nat.le_of_ble_eq_true rfl) ?_
  intro p e s m below meth c A ls hx hb hr hml hts hown hlocks hnm hP hK hD hS hA hE hl
  have hown : s.vm.findClass RX7 = some m.cls := hown
  have hl : lv_has ls 3 [(0, .ref (x 0)), (1, .int p1), (2, .int p2)] := hl
  unfold f_X7_takeTrouble at hM
  refine lv_aload_n hx hb dX7_takeTrouble_0 rfl (lv_at hl 0 rfl) ?_
  obtain ⟨r1, er1, hM⟩ := xbd hM
  refine xaftv (W2 := [((x 0), .inr (7, o7 x u_this)), ((x 2), .inl (T.1, 22, .inl u_this_told)), ((x 3), .inl (T.1, 11, .inl r1))]) (va_runV (As := []) (rest := []) ⟨hx, hb, hml, hown, hts⟩ (c_X7_takeTold l D T x u_this u_this_told u_this_par er1) (cwV 0 hts gX7_takeTrouble_X7_takeTold rfl rfl rfl (by decide +kernel) ⟨Nat.le_of_ble_eq_true rfl, Nat.le_of_ble_eq_true rfl⟩) (xpvv hP hD hK [0, 1, 2] (by decide) rfl 0 7 rfl rfl (fun _ _ _ => trivial) (fun _ _ _ _ _ _ => trivial)) rfl rfl hl.1 rfl (lv_room (Nat.le_of_ble_eq_true rfl)) dX7_takeTrouble_1 ⟨Nat.le_of_ble_eq_true rfl, Nat.le_of_ble_eq_true rfl⟩) hP hD hS hA [0, 1, 2] rfl rfl rfl rfl (fun H locs hP hD hS => ?_)
  refine lv_iload_n hx hb dX7_takeTrouble_4 rfl (lv_at hl 1 rfl) ?_
  by_cases c2 : p1 = 1
  · have hM := xit c2 hM
    refine lv_tableIn (off := 35) (tgt := 40) hx hb dX7_takeTrouble_5 (by rw [c2]; decide) (by rw [c2]; decide) (by rw [c2]; rfl) (by decide) ?_
    refine lv_aload_n hx hb dX7_takeTrouble_40 rfl (lv_at hl 0 rfl) ?_
    refine va_get (D := D) (ci := 7) (v := .ref (x 3)) (C := RX7) (T := TX7) (N := 30) hx hb hts (fun w h => List.mem_cons_of_mem _ (List.mem_append_right _ h)) hown hK hP 0 rfl rfl 9 (by decide) (hts _ (List.mem_of_getElem? (i := 1) rfl)) (fun _ h9 => h9) rfl dX7_takeTrouble_41 ?_
    refine lv_bipush (v := 8) hx hb dX7_takeTrouble_44 (by decide) ?_
    refine lv_aload_n hx hb dX7_takeTrouble_46 rfl (lv_at hl 0 rfl) ?_
    refine va_get (D := D) (ci := 7) (v := .ref (x 3)) (C := RX7) (T := TX7) (N := 30) hx hb hts (fun w h => List.mem_cons_of_mem _ (List.mem_append_right _ h)) hown hK hP 0 rfl rfl 9 (by decide) (hts _ (List.mem_of_getElem? (i := 1) rfl)) (fun _ h9 => h9) rfl dX7_takeTrouble_47 ?_
    refine lv_bipush (v := 8) hx hb dX7_takeTrouble_50 (by decide) ?_
    refine xald (v := (r1 8)) hx hb hK hP 2 0 rfl rfl (xin_vp (by decide)) (congrArg _ (show (8 : Int32).toNatClampNeg = 8 by decide)) dX7_takeTrouble_52 ?_
    refine lv_bipush (v := 10) hx hb dX7_takeTrouble_53 (by decide) ?_
    refine lv_iload_n hx hb dX7_takeTrouble_55 rfl (lv_at hl 2 rfl) ?_
    refine lv_imul hx hb dX7_takeTrouble_56 ?_
    refine lv_isub hx hb dX7_takeTrouble_57 ?_
    refine lv_iconst (v := 0) hx hb dX7_takeTrouble_58 (by decide) ?_
    refine lv_bipush (v := 100) hx hb dX7_takeTrouble_59 (by decide) ?_
    refine xafti (rv := (f_X7_within ((r1 8) - ((10) * p2)) (0) (100))) (W2 := [((x 0), .inr (7, o7 x u_this)), ((x 2), .inl (T.1, 22, .inl u_this_told)), ((x 3), .inl (T.1, 11, .inl r1))]) (va_runS (As := [.int ((r1 8) - ((10) * p2)), .int (0), .int (100)]) (rest := [.int (8), .ref (x 3)]) ⟨hx, hb, hml, hown, hts⟩ (c_X7_within (rv := (f_X7_within ((r1 8) - ((10) * p2)) (0) (100))) l D T ((r1 8) - ((10) * p2)) (0) (100) rfl) (cwS 3 hts gX7_takeTrouble_X7_within rfl rfl rfl (by decide +kernel) ⟨Nat.le_of_ble_eq_true rfl, Nat.le_of_ble_eq_true rfl⟩) (xpvs hP hD hK [] (by decide) rfl (fun _ _ _ => trivial) (fun _ _ _ _ _ _ => trivial)) rfl rfl hl.1 rfl (lv_room (Nat.le_of_ble_eq_true rfl)) dX7_takeTrouble_61 ⟨Nat.le_of_ble_eq_true rfl, Nat.le_of_ble_eq_true rfl⟩) hP hD hS hA [] rfl rfl rfl rfl (fun H locs hP hD hS => ?_)
    refine xast hx hb hK hP hD hS 2 0 rfl rfl (xin_vp (by decide)) (show (8 : Int32).toNatClampNeg = 8 by decide) dX7_takeTrouble_64 (fun H locs hP hD hS => ?_)
    have hP : va_P D vwCl [((x 0), .inr (7, o7 x u_this)), ((x 2), .inl (T.1, 22, .inl u_this_told)), ((x 3), .inl (T.1, 11, .inl (upd r1 (8) (f_X7_within ((r1 8) - ((10) * p2)) (0) (100)))))] H := hP
    have hD : va_D A [((x 0), .inr (7, o7 x u_this)), ((x 2), .inl (T.1, 22, .inl u_this_told)), ((x 3), .inl (T.1, 11, .inl (upd r1 (8) (f_X7_within ((r1 8) - ((10) * p2)) (0) (100)))))] := hD
    refine lv_goto (tgt := 201) hx hb dX7_takeTrouble_65 (by decide) ?_
    obtain rfl := Option.some.inj hM
    exact xretv hx hb hr hlocks hP hK hD hS dX7_takeTrouble_201
  · have hM := xif c2 hM
    by_cases c3 : p1 = 2
    · have hM := xit c3 hM
      refine lv_tableIn (off := 63) (tgt := 68) hx hb dX7_takeTrouble_5 (by rw [c3]; decide) (by rw [c3]; decide) (by rw [c3]; rfl) (by decide) ?_
      refine lv_aload_n hx hb dX7_takeTrouble_68 rfl (lv_at hl 0 rfl) ?_
      refine va_get (D := D) (ci := 7) (v := .ref (x 3)) (C := RX7) (T := TX7) (N := 30) hx hb hts (fun w h => List.mem_cons_of_mem _ (List.mem_append_right _ h)) hown hK hP 0 rfl rfl 9 (by decide) (hts _ (List.mem_of_getElem? (i := 1) rfl)) (fun _ h9 => h9) rfl dX7_takeTrouble_69 ?_
      refine lv_iconst (v := 5) hx hb dX7_takeTrouble_72 (by decide) ?_
      refine lv_aload_n hx hb dX7_takeTrouble_73 rfl (lv_at hl 0 rfl) ?_
      refine va_get (D := D) (ci := 7) (v := .ref (x 3)) (C := RX7) (T := TX7) (N := 30) hx hb hts (fun w h => List.mem_cons_of_mem _ (List.mem_append_right _ h)) hown hK hP 0 rfl rfl 9 (by decide) (hts _ (List.mem_of_getElem? (i := 1) rfl)) (fun _ h9 => h9) rfl dX7_takeTrouble_74 ?_
      refine lv_iconst (v := 5) hx hb dX7_takeTrouble_77 (by decide) ?_
      refine xald (v := (r1 5)) hx hb hK hP 2 0 rfl rfl (xin_vp (by decide)) (congrArg _ (show (5 : Int32).toNatClampNeg = 5 by decide)) dX7_takeTrouble_78 ?_
      refine lv_bipush (v := 10) hx hb dX7_takeTrouble_79 (by decide) ?_
      refine lv_iload_n hx hb dX7_takeTrouble_81 rfl (lv_at hl 2 rfl) ?_
      refine lv_imul hx hb dX7_takeTrouble_82 ?_
      refine lv_iadd hx hb dX7_takeTrouble_83 ?_
      refine lv_iconst (v := 0) hx hb dX7_takeTrouble_84 (by decide) ?_
      refine lv_bipush (v := 99) hx hb dX7_takeTrouble_85 (by decide) ?_
      refine xafti (rv := (f_X7_within ((r1 5) + ((10) * p2)) (0) (99))) (W2 := [((x 0), .inr (7, o7 x u_this)), ((x 2), .inl (T.1, 22, .inl u_this_told)), ((x 3), .inl (T.1, 11, .inl r1))]) (va_runS (As := [.int ((r1 5) + ((10) * p2)), .int (0), .int (99)]) (rest := [.int (5), .ref (x 3)]) ⟨hx, hb, hml, hown, hts⟩ (c_X7_within (rv := (f_X7_within ((r1 5) + ((10) * p2)) (0) (99))) l D T ((r1 5) + ((10) * p2)) (0) (99) rfl) (cwS 3 hts gX7_takeTrouble_X7_within rfl rfl rfl (by decide +kernel) ⟨Nat.le_of_ble_eq_true rfl, Nat.le_of_ble_eq_true rfl⟩) (xpvs hP hD hK [] (by decide) rfl (fun _ _ _ => trivial) (fun _ _ _ _ _ _ => trivial)) rfl rfl hl.1 rfl (lv_room (Nat.le_of_ble_eq_true rfl)) dX7_takeTrouble_87 ⟨Nat.le_of_ble_eq_true rfl, Nat.le_of_ble_eq_true rfl⟩) hP hD hS hA [] rfl rfl rfl rfl (fun H locs hP hD hS => ?_)
      refine xast hx hb hK hP hD hS 2 0 rfl rfl (xin_vp (by decide)) (show (5 : Int32).toNatClampNeg = 5 by decide) dX7_takeTrouble_90 (fun H locs hP hD hS => ?_)
      have hP : va_P D vwCl [((x 0), .inr (7, o7 x u_this)), ((x 2), .inl (T.1, 22, .inl u_this_told)), ((x 3), .inl (T.1, 11, .inl (upd r1 (5) (f_X7_within ((r1 5) + ((10) * p2)) (0) (99)))))] H := hP
      have hD : va_D A [((x 0), .inr (7, o7 x u_this)), ((x 2), .inl (T.1, 22, .inl u_this_told)), ((x 3), .inl (T.1, 11, .inl (upd r1 (5) (f_X7_within ((r1 5) + ((10) * p2)) (0) (99)))))] := hD
      refine lv_goto (tgt := 201) hx hb dX7_takeTrouble_91 (by decide) ?_
      obtain rfl := Option.some.inj hM
      exact xretv hx hb hr hlocks hP hK hD hS dX7_takeTrouble_201
    · have hM := xif c3 hM
      by_cases c4 : p1 = 3
      · have hM := xit c4 hM
        refine lv_tableIn (off := 89) (tgt := 94) hx hb dX7_takeTrouble_5 (by rw [c4]; decide) (by rw [c4]; decide) (by rw [c4]; rfl) (by decide) ?_
        refine lv_aload_n hx hb dX7_takeTrouble_94 rfl (lv_at hl 0 rfl) ?_
        refine va_get (D := D) (ci := 7) (v := .ref (x 3)) (C := RX7) (T := TX7) (N := 30) hx hb hts (fun w h => List.mem_cons_of_mem _ (List.mem_append_right _ h)) hown hK hP 0 rfl rfl 9 (by decide) (hts _ (List.mem_of_getElem? (i := 1) rfl)) (fun _ h9 => h9) rfl dX7_takeTrouble_95 ?_
        refine lv_bipush (v := 7) hx hb dX7_takeTrouble_98 (by decide) ?_
        refine lv_aload_n hx hb dX7_takeTrouble_100 rfl (lv_at hl 0 rfl) ?_
        refine va_get (D := D) (ci := 7) (v := .ref (x 3)) (C := RX7) (T := TX7) (N := 30) hx hb hts (fun w h => List.mem_cons_of_mem _ (List.mem_append_right _ h)) hown hK hP 0 rfl rfl 9 (by decide) (hts _ (List.mem_of_getElem? (i := 1) rfl)) (fun _ h9 => h9) rfl dX7_takeTrouble_101 ?_
        refine lv_bipush (v := 7) hx hb dX7_takeTrouble_104 (by decide) ?_
        refine xald (v := (r1 7)) hx hb hK hP 2 0 rfl rfl (xin_vp (by decide)) (congrArg _ (show (7 : Int32).toNatClampNeg = 7 by decide)) dX7_takeTrouble_106 ?_
        refine lv_iconst (v := 3) hx hb dX7_takeTrouble_107 (by decide) ?_
        refine lv_iload_n hx hb dX7_takeTrouble_108 rfl (lv_at hl 2 rfl) ?_
        refine lv_imul hx hb dX7_takeTrouble_109 ?_
        refine lv_iadd hx hb dX7_takeTrouble_110 ?_
        refine lv_iconst (v := 0) hx hb dX7_takeTrouble_111 (by decide) ?_
        refine lv_bipush (v := 30) hx hb dX7_takeTrouble_112 (by decide) ?_
        refine xafti (rv := (f_X7_within ((r1 7) + ((3) * p2)) (0) (30))) (W2 := [((x 0), .inr (7, o7 x u_this)), ((x 2), .inl (T.1, 22, .inl u_this_told)), ((x 3), .inl (T.1, 11, .inl r1))]) (va_runS (As := [.int ((r1 7) + ((3) * p2)), .int (0), .int (30)]) (rest := [.int (7), .ref (x 3)]) ⟨hx, hb, hml, hown, hts⟩ (c_X7_within (rv := (f_X7_within ((r1 7) + ((3) * p2)) (0) (30))) l D T ((r1 7) + ((3) * p2)) (0) (30) rfl) (cwS 3 hts gX7_takeTrouble_X7_within rfl rfl rfl (by decide +kernel) ⟨Nat.le_of_ble_eq_true rfl, Nat.le_of_ble_eq_true rfl⟩) (xpvs hP hD hK [] (by decide) rfl (fun _ _ _ => trivial) (fun _ _ _ _ _ _ => trivial)) rfl rfl hl.1 rfl (lv_room (Nat.le_of_ble_eq_true rfl)) dX7_takeTrouble_114 ⟨Nat.le_of_ble_eq_true rfl, Nat.le_of_ble_eq_true rfl⟩) hP hD hS hA [] rfl rfl rfl rfl (fun H locs hP hD hS => ?_)
        refine xast hx hb hK hP hD hS 2 0 rfl rfl (xin_vp (by decide)) (show (7 : Int32).toNatClampNeg = 7 by decide) dX7_takeTrouble_117 (fun H locs hP hD hS => ?_)
        have hP : va_P D vwCl [((x 0), .inr (7, o7 x u_this)), ((x 2), .inl (T.1, 22, .inl u_this_told)), ((x 3), .inl (T.1, 11, .inl (upd r1 (7) (f_X7_within ((r1 7) + ((3) * p2)) (0) (30)))))] H := hP
        have hD : va_D A [((x 0), .inr (7, o7 x u_this)), ((x 2), .inl (T.1, 22, .inl u_this_told)), ((x 3), .inl (T.1, 11, .inl (upd r1 (7) (f_X7_within ((r1 7) + ((3) * p2)) (0) (30)))))] := hD
        refine lv_aload_n hx hb dX7_takeTrouble_118 rfl (lv_at hl 0 rfl) ?_
        refine va_get (D := D) (ci := 7) (v := .ref (x 3)) (C := RX7) (T := TX7) (N := 30) hx hb hts (fun w h => List.mem_cons_of_mem _ (List.mem_append_right _ h)) hown hK hP 0 rfl rfl 9 (by decide) (hts _ (List.mem_of_getElem? (i := 1) rfl)) (fun _ h9 => h9) rfl dX7_takeTrouble_119 ?_
        refine lv_bipush (v := 6) hx hb dX7_takeTrouble_122 (by decide) ?_
        refine lv_aload_n hx hb dX7_takeTrouble_124 rfl (lv_at hl 0 rfl) ?_
        refine va_get (D := D) (ci := 7) (v := .ref (x 3)) (C := RX7) (T := TX7) (N := 30) hx hb hts (fun w h => List.mem_cons_of_mem _ (List.mem_append_right _ h)) hown hK hP 0 rfl rfl 9 (by decide) (hts _ (List.mem_of_getElem? (i := 1) rfl)) (fun _ h9 => h9) rfl dX7_takeTrouble_125 ?_
        refine lv_bipush (v := 6) hx hb dX7_takeTrouble_128 (by decide) ?_
        refine xald (v := ((upd r1 (7) (f_X7_within ((r1 7) + ((3) * p2)) (0) (30))) 6)) hx hb hK hP 2 0 rfl rfl (xin_vp (by decide)) (congrArg _ (show (6 : Int32).toNatClampNeg = 6 by decide)) dX7_takeTrouble_130 ?_
        refine lv_bipush (v := 99) hx hb dX7_takeTrouble_131 (by decide) ?_
        refine lv_icmp_ne (tgt := 140) hx hb dX7_takeTrouble_133 (by decide) (fun c5 => ?_) (fun c5 => ?_)
        · have hM := xif c5 hM
          refine lv_aload_n hx hb dX7_takeTrouble_140 rfl (lv_at hl 0 rfl) ?_
          refine va_get (D := D) (ci := 7) (v := .ref (x 3)) (C := RX7) (T := TX7) (N := 30) hx hb hts (fun w h => List.mem_cons_of_mem _ (List.mem_append_right _ h)) hown hK hP 0 rfl rfl 9 (by decide) (hts _ (List.mem_of_getElem? (i := 1) rfl)) (fun _ h9 => h9) rfl dX7_takeTrouble_141 ?_
          refine lv_bipush (v := 6) hx hb dX7_takeTrouble_144 (by decide) ?_
          refine xald (v := ((upd r1 (7) (f_X7_within ((r1 7) + ((3) * p2)) (0) (30))) 6)) hx hb hK hP 2 0 rfl rfl (xin_vp (by decide)) (congrArg _ (show (6 : Int32).toNatClampNeg = 6 by decide)) dX7_takeTrouble_146 ?_
          refine xast hx hb hK hP hD hS 2 0 rfl rfl (xin_vp (by decide)) (show (6 : Int32).toNatClampNeg = 6 by decide) dX7_takeTrouble_147 (fun H locs hP hD hS => ?_)
          have hP : va_P D vwCl [((x 0), .inr (7, o7 x u_this)), ((x 2), .inl (T.1, 22, .inl u_this_told)), ((x 3), .inl (T.1, 11, .inl (upd (upd r1 (7) (f_X7_within ((r1 7) + ((3) * p2)) (0) (30))) (6) ((upd r1 (7) (f_X7_within ((r1 7) + ((3) * p2)) (0) (30))) 6))))] H := hP
          have hD : va_D A [((x 0), .inr (7, o7 x u_this)), ((x 2), .inl (T.1, 22, .inl u_this_told)), ((x 3), .inl (T.1, 11, .inl (upd (upd r1 (7) (f_X7_within ((r1 7) + ((3) * p2)) (0) (30))) (6) ((upd r1 (7) (f_X7_within ((r1 7) + ((3) * p2)) (0) (30))) 6))))] := hD
          refine lv_goto (tgt := 201) hx hb dX7_takeTrouble_148 (by decide) ?_
          obtain rfl := Option.some.inj hM
          exact xretv hx hb hr hlocks hP hK hD hS dX7_takeTrouble_201
        · have hM := xit c5 hM
          refine lv_iconst (v := 5) hx hb dX7_takeTrouble_136 (by decide) ?_
          refine lv_goto (tgt := 147) hx hb dX7_takeTrouble_137 (by decide) ?_
          refine xast hx hb hK hP hD hS 2 0 rfl rfl (xin_vp (by decide)) (show (6 : Int32).toNatClampNeg = 6 by decide) dX7_takeTrouble_147 (fun H locs hP hD hS => ?_)
          have hP : va_P D vwCl [((x 0), .inr (7, o7 x u_this)), ((x 2), .inl (T.1, 22, .inl u_this_told)), ((x 3), .inl (T.1, 11, .inl (upd (upd r1 (7) (f_X7_within ((r1 7) + ((3) * p2)) (0) (30))) (6) (5))))] H := hP
          have hD : va_D A [((x 0), .inr (7, o7 x u_this)), ((x 2), .inl (T.1, 22, .inl u_this_told)), ((x 3), .inl (T.1, 11, .inl (upd (upd r1 (7) (f_X7_within ((r1 7) + ((3) * p2)) (0) (30))) (6) (5))))] := hD
          refine lv_goto (tgt := 201) hx hb dX7_takeTrouble_148 (by decide) ?_
          obtain rfl := Option.some.inj hM
          exact xretv hx hb hr hlocks hP hK hD hS dX7_takeTrouble_201
      · have hM := xif c4 hM
        by_cases c6 : p1 = 4
        · have hM := xit c6 hM
          refine lv_tableIn (off := 146) (tgt := 151) hx hb dX7_takeTrouble_5 (by rw [c6]; decide) (by rw [c6]; decide) (by rw [c6]; rfl) (by decide) ?_
          refine lv_aload_n hx hb dX7_takeTrouble_151 rfl (lv_at hl 0 rfl) ?_
          refine va_get (D := D) (ci := 7) (v := .ref (x 3)) (C := RX7) (T := TX7) (N := 30) hx hb hts (fun w h => List.mem_cons_of_mem _ (List.mem_append_right _ h)) hown hK hP 0 rfl rfl 9 (by decide) (hts _ (List.mem_of_getElem? (i := 1) rfl)) (fun _ h9 => h9) rfl dX7_takeTrouble_152 ?_
          refine lv_iconst (v := 2) hx hb dX7_takeTrouble_155 (by decide) ?_
          refine lv_aload_n hx hb dX7_takeTrouble_156 rfl (lv_at hl 0 rfl) ?_
          refine va_get (D := D) (ci := 7) (v := .ref (x 3)) (C := RX7) (T := TX7) (N := 30) hx hb hts (fun w h => List.mem_cons_of_mem _ (List.mem_append_right _ h)) hown hK hP 0 rfl rfl 9 (by decide) (hts _ (List.mem_of_getElem? (i := 1) rfl)) (fun _ h9 => h9) rfl dX7_takeTrouble_157 ?_
          refine lv_iconst (v := 2) hx hb dX7_takeTrouble_160 (by decide) ?_
          refine xald (v := (r1 2)) hx hb hK hP 2 0 rfl rfl (xin_vp (by decide)) (congrArg _ (show (2 : Int32).toNatClampNeg = 2 by decide)) dX7_takeTrouble_161 ?_
          refine lv_iconst (v := 2) hx hb dX7_takeTrouble_162 (by decide) ?_
          refine lv_iload_n hx hb dX7_takeTrouble_163 rfl (lv_at hl 2 rfl) ?_
          refine lv_imul hx hb dX7_takeTrouble_164 ?_
          refine lv_iadd hx hb dX7_takeTrouble_165 ?_
          refine lv_iconst (v := 1) hx hb dX7_takeTrouble_166 (by decide) ?_
          refine lv_bipush (v := 99) hx hb dX7_takeTrouble_167 (by decide) ?_
          refine xafti (rv := (f_X7_within ((r1 2) + ((2) * p2)) (1) (99))) (W2 := [((x 0), .inr (7, o7 x u_this)), ((x 2), .inl (T.1, 22, .inl u_this_told)), ((x 3), .inl (T.1, 11, .inl r1))]) (va_runS (As := [.int ((r1 2) + ((2) * p2)), .int (1), .int (99)]) (rest := [.int (2), .ref (x 3)]) ⟨hx, hb, hml, hown, hts⟩ (c_X7_within (rv := (f_X7_within ((r1 2) + ((2) * p2)) (1) (99))) l D T ((r1 2) + ((2) * p2)) (1) (99) rfl) (cwS 3 hts gX7_takeTrouble_X7_within rfl rfl rfl (by decide +kernel) ⟨Nat.le_of_ble_eq_true rfl, Nat.le_of_ble_eq_true rfl⟩) (xpvs hP hD hK [] (by decide) rfl (fun _ _ _ => trivial) (fun _ _ _ _ _ _ => trivial)) rfl rfl hl.1 rfl (lv_room (Nat.le_of_ble_eq_true rfl)) dX7_takeTrouble_169 ⟨Nat.le_of_ble_eq_true rfl, Nat.le_of_ble_eq_true rfl⟩) hP hD hS hA [] rfl rfl rfl rfl (fun H locs hP hD hS => ?_)
          refine xast hx hb hK hP hD hS 2 0 rfl rfl (xin_vp (by decide)) (show (2 : Int32).toNatClampNeg = 2 by decide) dX7_takeTrouble_172 (fun H locs hP hD hS => ?_)
          have hP : va_P D vwCl [((x 0), .inr (7, o7 x u_this)), ((x 2), .inl (T.1, 22, .inl u_this_told)), ((x 3), .inl (T.1, 11, .inl (upd r1 (2) (f_X7_within ((r1 2) + ((2) * p2)) (1) (99)))))] H := hP
          have hD : va_D A [((x 0), .inr (7, o7 x u_this)), ((x 2), .inl (T.1, 22, .inl u_this_told)), ((x 3), .inl (T.1, 11, .inl (upd r1 (2) (f_X7_within ((r1 2) + ((2) * p2)) (1) (99)))))] := hD
          refine lv_goto (tgt := 201) hx hb dX7_takeTrouble_173 (by decide) ?_
          obtain rfl := Option.some.inj hM
          exact xretv hx hb hr hlocks hP hK hD hS dX7_takeTrouble_201
        · have hM := xif c6 hM
          by_cases c7 : p1 = 5
          · have hM := xit c7 hM
            refine lv_tableIn (off := 171) (tgt := 176) hx hb dX7_takeTrouble_5 (by rw [c7]; decide) (by rw [c7]; decide) (by rw [c7]; rfl) (by decide) ?_
            refine lv_aload_n hx hb dX7_takeTrouble_176 rfl (lv_at hl 0 rfl) ?_
            refine va_get (D := D) (ci := 7) (v := .ref (x 3)) (C := RX7) (T := TX7) (N := 30) hx hb hts (fun w h => List.mem_cons_of_mem _ (List.mem_append_right _ h)) hown hK hP 0 rfl rfl 9 (by decide) (hts _ (List.mem_of_getElem? (i := 1) rfl)) (fun _ h9 => h9) rfl dX7_takeTrouble_177 ?_
            refine lv_iconst (v := 0) hx hb dX7_takeTrouble_180 (by decide) ?_
            refine lv_aload_n hx hb dX7_takeTrouble_181 rfl (lv_at hl 0 rfl) ?_
            refine va_get (D := D) (ci := 7) (v := .ref (x 3)) (C := RX7) (T := TX7) (N := 30) hx hb hts (fun w h => List.mem_cons_of_mem _ (List.mem_append_right _ h)) hown hK hP 0 rfl rfl 9 (by decide) (hts _ (List.mem_of_getElem? (i := 1) rfl)) (fun _ h9 => h9) rfl dX7_takeTrouble_182 ?_
            refine lv_iconst (v := 0) hx hb dX7_takeTrouble_185 (by decide) ?_
            refine xald (v := (r1 0)) hx hb hK hP 2 0 rfl rfl (xin_vp (by decide)) (congrArg _ (show (0 : Int32).toNatClampNeg = 0 by decide)) dX7_takeTrouble_186 ?_
            refine lv_iconst (v := 4) hx hb dX7_takeTrouble_187 (by decide) ?_
            refine lv_iload_n hx hb dX7_takeTrouble_188 rfl (lv_at hl 2 rfl) ?_
            refine lv_imul hx hb dX7_takeTrouble_189 ?_
            refine lv_isub hx hb dX7_takeTrouble_190 ?_
            refine lv_iconst (v := 1) hx hb dX7_takeTrouble_191 (by decide) ?_
            refine lv_bipush (v := 99) hx hb dX7_takeTrouble_192 (by decide) ?_
            refine xafti (rv := (f_X7_within ((r1 0) - ((4) * p2)) (1) (99))) (W2 := [((x 0), .inr (7, o7 x u_this)), ((x 2), .inl (T.1, 22, .inl u_this_told)), ((x 3), .inl (T.1, 11, .inl r1))]) (va_runS (As := [.int ((r1 0) - ((4) * p2)), .int (1), .int (99)]) (rest := [.int (0), .ref (x 3)]) ⟨hx, hb, hml, hown, hts⟩ (c_X7_within (rv := (f_X7_within ((r1 0) - ((4) * p2)) (1) (99))) l D T ((r1 0) - ((4) * p2)) (1) (99) rfl) (cwS 3 hts gX7_takeTrouble_X7_within rfl rfl rfl (by decide +kernel) ⟨Nat.le_of_ble_eq_true rfl, Nat.le_of_ble_eq_true rfl⟩) (xpvs hP hD hK [] (by decide) rfl (fun _ _ _ => trivial) (fun _ _ _ _ _ _ => trivial)) rfl rfl hl.1 rfl (lv_room (Nat.le_of_ble_eq_true rfl)) dX7_takeTrouble_194 ⟨Nat.le_of_ble_eq_true rfl, Nat.le_of_ble_eq_true rfl⟩) hP hD hS hA [] rfl rfl rfl rfl (fun H locs hP hD hS => ?_)
            refine xast hx hb hK hP hD hS 2 0 rfl rfl (xin_vp (by decide)) (show (0 : Int32).toNatClampNeg = 0 by decide) dX7_takeTrouble_197 (fun H locs hP hD hS => ?_)
            have hP : va_P D vwCl [((x 0), .inr (7, o7 x u_this)), ((x 2), .inl (T.1, 22, .inl u_this_told)), ((x 3), .inl (T.1, 11, .inl (upd r1 (0) (f_X7_within ((r1 0) - ((4) * p2)) (1) (99)))))] H := hP
            have hD : va_D A [((x 0), .inr (7, o7 x u_this)), ((x 2), .inl (T.1, 22, .inl u_this_told)), ((x 3), .inl (T.1, 11, .inl (upd r1 (0) (f_X7_within ((r1 0) - ((4) * p2)) (1) (99)))))] := hD
            refine lv_goto (tgt := 201) hx hb dX7_takeTrouble_198 (by decide) ?_
            obtain rfl := Option.some.inj hM
            exact xretv hx hb hr hlocks hP hK hD hS dX7_takeTrouble_201
          · have hM := xif c7 hM
            refine lv_tableOut (tgt := 201) hx hb dX7_takeTrouble_5 (by have q0 := xsw c2 (show (1 : Int32).toInt = 1 by decide); have q1 := xsw c3 (show (2 : Int32).toInt = 2 by decide); have q2 := xsw c4 (show (3 : Int32).toInt = 3 by decide); have q3 := xsw c6 (show (4 : Int32).toInt = 4 by decide); have q4 := xsw c7 (show (5 : Int32).toInt = 5 by decide); omega) (by decide) ?_
            obtain rfl := Option.some.inj hM
            exact xretv hx hb hr hlocks hP hK hD hS dX7_takeTrouble_201
def s_X7_signBy_90 (u_this : K7) (u_this_par : (Nat → Int32)) (p2 : Int32) (v6 : Int32 × (Nat → Int32)) : Option ((Int32 × (Nat → Int32)) ⊕ (Int32 × (Nat → Int32))) :=
  if p2 ≤ v6.1 then
   (some (.inr (v6.1, v6.2)))
  else
   ((f_X7_goHour u_this u_this_par v6.2).bind fun r8 =>
    some (.inl (v6.1 + 1, r8)))
def f_X7_signBy (N : Nat) (u_this : K7) (u_this_par : (Nat → Int32)) (u_this_try0 : (Nat → Int32)) (p1 : Int32) (p2 : Int32) : Option (Int32 × (Nat → Int32)) :=
  if p1 = (0) then
   ((f_X7_begin N u_this u_this_try0 ((10) * (u_this_par 2)) (u_this_par 8)).bind fun r12 =>
    (f_X7_strokesUntil N u_this u_this_par r12).bind fun r13 =>
    if r13.1 = (-9) then
     (some (0, r13.2))
    else
     (some (r13.1, r13.2)))
  else
   (((if p1 = (1) then
       (some (0))
      else
       (some ((10) * (u_this_par 2))) : Option (Int32))).bind fun v3 =>
    (f_X7_begin N u_this u_this_try0 v3 (u_this_par 8)).bind fun r4 =>
    if p1 = (2) then
     ((f_X7_air u_this u_this_par r4).bind fun r10 =>
      if r10 ≤ (0) then
       (some (0, r4))
      else
       (some (1, r4)))
    else
     ((xlp (s_X7_signBy_90 u_this u_this_par p2) N (0, r4)).bind fun v9 =>
      some ((v9.2 0), v9.2)))
set_option maxHeartbeats 4000000 in
set_option maxRecDepth 100000 in
theorem c_X7_signBy (l : Launch) (D : va_G) (T : xT) (x : Nat → Nat) {sz : Nat} {N : Nat} (u_this : K7) (u_this_par : (Nat → Int32)) (u_this_try0 : (Nat → Int32)) (p1 : Int32) (p2 : Int32) {rv : Int32 × (Nat → Int32)} (hM : f_X7_signBy N u_this u_this_par u_this_try0 p1 p2 = some rv) : Met l yX7_signBy wsX7_signBy ({ frames := 5, cells := 0, slots := 0, locals := 108 } : Room) (va_Pc [.ref (x 0), .int p1, .int p2] (xPre D T [((x 0), .inr (7, o7 x u_this)), ((x 3), .inl (T.1, 11, .inl u_this_par)), ((x 4), .inl (T.1, 7, .inl u_this_try0))] sz xE0)) (va_Qi (fun (r : Int32) (_ : Unit) => r = rv.1) (fun _ => xPost D T [((x 0), .inr (7, o7 x u_this)), ((x 3), .inl (T.1, 11, .inl u_this_par)), ((x 4), .inl (T.1, 7, .inl rv.2))] (va_A [((x 0), .inr (7, o7 x u_this)), ((x 3), .inl (T.1, 11, .inl u_this_par)), ((x 4), .inl (T.1, 7, .inl u_this_try0))] sz)) (va_A [((x 0), .inr (7, o7 x u_this)), ((x 3), .inl (T.1, 11, .inl u_this_par)), ((x 4), .inl (T.1, 7, .inl u_this_try0))] sz)) 0 0 (va_A [((x 0), .inr (7, o7 x u_this)), ((x 3), .inl (T.1, 11, .inl u_this_par)), ((x 4), .inl (T.1, 7, .inl u_this_try0))] sz) := by
  refine xMet (av := [.ref (x 0), .int p1, .int p2]) (Wd := [((x 0), .inr (7, o7 x u_this)), ((x 3), .inl (T.1, 11, .inl u_this_par)), ((x 4), .inl (T.1, 7, .inl u_this_try0))]) (E := xE0) (Qc := fun A => (va_Qi (fun (r : Int32) (_ : Unit) => r = rv.1) (fun _ => xPost D T [((x 0), .inr (7, o7 x u_this)), ((x 3), .inl (T.1, 11, .inl u_this_par)), ((x 4), .inl (T.1, 7, .inl rv.2))] A) A)) (cc := cX7_signBy) (maxL := 4) (ret := (some .int)) (by decide) rfl (Nat.le_of_ble_eq_true rfl) ?_
  intro p e s m below meth c A ls hx hb hr hml hts hown hlocks hnm hP hK hD hS hA hE hl
  have hown : s.vm.findClass RX7 = some m.cls := hown
  have hl : lv_has ls 4 [(0, .ref (x 0)), (1, .int p1), (2, .int p2)] := hl
  unfold f_X7_signBy at hM
  refine lv_iload_n hx hb dX7_signBy_0 rfl (lv_at hl 1 rfl) ?_
  refine lv_if_ne (tgt := 41) hx hb dX7_signBy_1 (by decide) (fun c1 => ?_) (fun c1 => ?_)
  · have hM := xif c1 hM
    refine lv_aload_n hx hb dX7_signBy_41 rfl (lv_at hl 0 rfl) ?_
    refine lv_iload_n hx hb dX7_signBy_42 rfl (lv_at hl 1 rfl) ?_
    refine lv_iconst (v := 1) hx hb dX7_signBy_43 (by decide) ?_
    obtain ⟨v3, hM, hNv3⟩ := xbd hM
    have Kv3 : ∀ (H : Heap) (locs : List Loc) (ls : Array Slot), va_P D vwCl [((x 0), .inr (7, o7 x u_this)), ((x 3), .inl (T.1, 11, .inl u_this_par)), ((x 4), .inl (T.1, 7, .inl u_this_try0))] H → va_D A [((x 0), .inr (7, o7 x u_this)), ((x 3), .inl (T.1, 11, .inl u_this_par)), ((x 4), .inl (T.1, 7, .inl u_this_try0))] → va_S A s.heap H locs → lv_has ls 4 [(0, .ref (x 0)), (1, .int p1), (2, .int p2)] → W p l e ({ frames := 5, cells := 0, slots := 0, locals := 108 } : Room) s m ([.ref (x 0), .int p1, .int p2] : List Value).toArray below meth c H locs 0 0 (MQ below (va_Qi (fun (r : Int32) (_ : Unit) => r = rv.1) (fun _ => xPost D T [((x 0), .inr (7, o7 x u_this)), ((x 3), .inl (T.1, 11, .inl u_this_par)), ((x 4), .inl (T.1, 7, .inl rv.2))] A) A) ([.ref (x 0), .int p1, .int p2] : List Value).toArray s 0 0 A) (F0 m 60 ls [.int v3, .ref (x 0)]) := by
      intro H locs ls hP hD hS hl
      have hM := hNv3
      refine lv_aload_n hx hb dX7_signBy_60 rfl (lv_at hl 0 rfl) ?_
      refine va_get (D := D) (ci := 7) (v := .ref (x 3)) (C := RX7) (T := TX7) (N := 30) hx hb hts (fun w h => List.mem_cons_of_mem _ (List.mem_append_right _ h)) hown hK hP 0 rfl rfl 9 (by decide) (hts _ (List.mem_of_getElem? (i := 1) rfl)) (fun _ h9 => h9) rfl dX7_signBy_61 ?_
      refine lv_bipush (v := 8) hx hb dX7_signBy_64 (by decide) ?_
      refine xald (v := (u_this_par 8)) hx hb hK hP 1 0 rfl rfl (xin_vp (by decide)) (congrArg _ (show (8 : Int32).toNatClampNeg = 8 by decide)) dX7_signBy_66 ?_
      obtain ⟨r4, er4, hM⟩ := xbd hM
      refine xaftv (W2 := [((x 0), .inr (7, o7 x u_this)), ((x 3), .inl (T.1, 11, .inl u_this_par)), ((x 4), .inl (T.1, 7, .inl r4))]) (va_runV (As := [.int v3, .int (u_this_par 8)]) (rest := []) ⟨hx, hb, hml, hown, hts⟩ (c_X7_begin l D T x u_this u_this_try0 v3 (u_this_par 8) er4) (cwV 2 hts gX7_signBy_X7_begin rfl rfl rfl (by decide +kernel) ⟨Nat.le_of_ble_eq_true rfl, Nat.le_of_ble_eq_true rfl⟩) (xpvv hP hD hK [0, 2] (by decide) rfl 0 7 rfl rfl (fun _ _ _ => trivial) (fun _ _ _ _ _ _ => trivial)) rfl rfl hl.1 rfl (lv_room (Nat.le_of_ble_eq_true rfl)) dX7_signBy_67 ⟨Nat.le_of_ble_eq_true rfl, Nat.le_of_ble_eq_true rfl⟩) hP hD hS hA [0, 2] rfl rfl rfl rfl (fun H locs hP hD hS => ?_)
      refine lv_iload_n hx hb dX7_signBy_70 rfl (lv_at hl 1 rfl) ?_
      refine lv_iconst (v := 2) hx hb dX7_signBy_71 (by decide) ?_
      refine lv_icmp_ne (tgt := 88) hx hb dX7_signBy_72 (by decide) (fun c5 => ?_) (fun c5 => ?_)
      · have hM := xif c5 hM
        refine lv_iconst (v := 0) hx hb dX7_signBy_88 (by decide) ?_
        refine lv_istore_n (lv' := [(3, .int (0)), (0, .ref (x 0)), (1, .int p1), (2, .int p2)]) hx hb dX7_signBy_89 rfl hl (by decide) rfl (fun ls hl => ?_)
        obtain ⟨v9, hM, hNv9⟩ := xbd hM
        have hQv9 := hM
        have Kv9 : ∀ (H : Heap) (locs : List Loc) (ls : Array Slot), va_P D vwCl [((x 0), .inr (7, o7 x u_this)), ((x 3), .inl (T.1, 11, .inl u_this_par)), ((x 4), .inl (T.1, 7, .inl v9.2))] H → va_D A [((x 0), .inr (7, o7 x u_this)), ((x 3), .inl (T.1, 11, .inl u_this_par)), ((x 4), .inl (T.1, 7, .inl v9.2))] → va_S A s.heap H locs → lv_has ls 4 [(0, .ref (x 0))] → W p l e ({ frames := 5, cells := 0, slots := 0, locals := 108 } : Room) s m ([.ref (x 0), .int p1, .int p2] : List Value).toArray below meth c H locs 0 0 (MQ below (va_Qi (fun (r : Int32) (_ : Unit) => r = rv.1) (fun _ => xPost D T [((x 0), .inr (7, o7 x u_this)), ((x 3), .inl (T.1, 11, .inl u_this_par)), ((x 4), .inl (T.1, 7, .inl rv.2))] A) A) ([.ref (x 0), .int p1, .int p2] : List Value).toArray s 0 0 A) (F0 m 105 ls []) := by
          intro H locs ls hP hD hS hl
          have hM := hNv9
          refine lv_aload_n hx hb dX7_signBy_105 rfl (lv_at hl 0 rfl) ?_
          refine va_get (D := D) (ci := 7) (v := .ref (x 4)) (C := RX7) (T := TX7) (N := 30) hx hb hts (fun w h => List.mem_cons_of_mem _ (List.mem_append_right _ h)) hown hK hP 0 rfl rfl 10 (by decide) (hts _ (List.mem_of_getElem? (i := 2) rfl)) (fun _ h9 => h9) rfl dX7_signBy_106 ?_
          refine lv_iconst (v := 0) hx hb dX7_signBy_109 (by decide) ?_
          refine xald (v := (v9.2 0)) hx hb hK hP 2 0 rfl rfl (xin_vp (by decide)) (congrArg _ (show (0 : Int32).toNatClampNeg = 0 by decide)) dX7_signBy_110 ?_
          obtain rfl := Option.some.inj hM
          exact xreti hx hb hr hlocks hP hK hD hS dX7_signBy_111 rfl
        have Lv6 : ∀ (n : Nat) (v6 : Int32 × (Nat → Int32)), xlp (s_X7_signBy_90 u_this u_this_par p2) n v6 = some v9 → ∀ (H : Heap) (locs : List Loc) (ls : Array Slot), va_P D vwCl [((x 0), .inr (7, o7 x u_this)), ((x 3), .inl (T.1, 11, .inl u_this_par)), ((x 4), .inl (T.1, 7, .inl v6.2))] H → va_D A [((x 0), .inr (7, o7 x u_this)), ((x 3), .inl (T.1, 11, .inl u_this_par)), ((x 4), .inl (T.1, 7, .inl v6.2))] → va_S A s.heap H locs → lv_has ls 4 [(0, .ref (x 0)), (2, .int p2), (3, .int v6.1)] → W p l e ({ frames := 5, cells := 0, slots := 0, locals := 108 } : Room) s m ([.ref (x 0), .int p1, .int p2] : List Value).toArray below meth c H locs 0 0 (MQ below (va_Qi (fun (r : Int32) (_ : Unit) => r = rv.1) (fun _ => xPost D T [((x 0), .inr (7, o7 x u_this)), ((x 3), .inl (T.1, 11, .inl u_this_par)), ((x 4), .inl (T.1, 7, .inl rv.2))] A) A) ([.ref (x 0), .int p1, .int p2] : List Value).toArray s 0 0 A) (F0 m 90 ls []) := by
          intro n
          induction n with
          | zero => exact fun _ h => (xlp_0 h).elim
          | succ n ih =>
            intro v6 hM H locs ls hP hD hS hl
            obtain ⟨z, hM, hz1, hz2⟩ := xlp_s hM
            unfold s_X7_signBy_90 at hM
            refine lv_iload_n hx hb dX7_signBy_90 rfl (lv_at hl 2 rfl) ?_
            refine lv_iload_n hx hb dX7_signBy_91 rfl (lv_at hl 1 rfl) ?_
            refine lv_icmp_ge (tgt := 105) hx hb dX7_signBy_92 (by decide) (fun c7 => ?_) (fun c7 => ?_)
            · have hM := xit c7 hM
              obtain rfl := hz2 _ (Option.some.inj hM).symm
              exact Kv9 _ _ _ hP hD hS (lv_sub hl [0] rfl)
            · have hM := xif c7 hM
              refine lv_aload_n hx hb dX7_signBy_95 rfl (lv_at hl 0 rfl) ?_
              obtain ⟨r8, er8, hM⟩ := xbd hM
              refine xaftv (W2 := [((x 0), .inr (7, o7 x u_this)), ((x 3), .inl (T.1, 11, .inl u_this_par)), ((x 4), .inl (T.1, 7, .inl r8))]) (va_runV (As := []) (rest := []) ⟨hx, hb, hml, hown, hts⟩ (c_X7_goHour l D T x u_this u_this_par v6.2 er8) (cwV 0 hts gX7_signBy_X7_goHour rfl rfl rfl (by decide +kernel) ⟨Nat.le_of_ble_eq_true rfl, Nat.le_of_ble_eq_true rfl⟩) (xpvv hP hD hK [0, 1, 2] (by decide) rfl 0 7 rfl rfl (fun _ _ _ => trivial) (fun _ _ _ _ _ _ => trivial)) rfl rfl hl.1 rfl (lv_room (Nat.le_of_ble_eq_true rfl)) dX7_signBy_96 ⟨Nat.le_of_ble_eq_true rfl, Nat.le_of_ble_eq_true rfl⟩) hP hD hS hA [0, 1, 2] rfl rfl rfl rfl (fun H locs hP hD hS => ?_)
              refine lv_iinc (v := v6.1 + 1) (lv' := [(3, .int (v6.1 + 1)), (0, .ref (x 0)), (2, .int p2)]) hx hb dX7_signBy_99 hl (k := 2) rfl rfl (by decide) rfl (fun ls hl => ?_)
              refine lv_goto (tgt := 90) hx hb dX7_signBy_102 (by decide) ?_
              exact ih _ (hz1 _ (Option.some.inj hM).symm) _ _ _ hP hD hS (lv_sub hl [1, 2, 0] rfl)
        exact Lv6 _ _ hM _ _ _ hP hD hS (lv_sub hl [1, 3, 0] rfl)
      · have hM := xit c5 hM
        refine lv_aload_n hx hb dX7_signBy_75 rfl (lv_at hl 0 rfl) ?_
        obtain ⟨r10, er10, hM⟩ := xbd hM
        refine xafti (rv := r10) (W2 := [((x 0), .inr (7, o7 x u_this)), ((x 3), .inl (T.1, 11, .inl u_this_par)), ((x 4), .inl (T.1, 7, .inl r4))]) (va_runV (As := []) (rest := []) ⟨hx, hb, hml, hown, hts⟩ (c_X7_air l D T x u_this u_this_par r4 er10) (cwV 0 hts gX7_signBy_X7_air rfl rfl rfl (by decide +kernel) ⟨Nat.le_of_ble_eq_true rfl, Nat.le_of_ble_eq_true rfl⟩) (xpvv hP hD hK [0, 1, 2] (by decide) rfl 0 7 rfl rfl (fun _ _ _ => trivial) (fun _ _ _ _ _ _ => trivial)) rfl rfl hl.1 rfl (lv_room (Nat.le_of_ble_eq_true rfl)) dX7_signBy_76 ⟨Nat.le_of_ble_eq_true rfl, Nat.le_of_ble_eq_true rfl⟩) hP hD hS hA [0, 1, 2] rfl rfl rfl rfl (fun H locs hP hD hS => ?_)
        refine lv_if_le (tgt := 86) hx hb dX7_signBy_79 (by decide) (fun c11 => ?_) (fun c11 => ?_)
        · have hM := xit c11 hM
          refine lv_iconst (v := 0) hx hb dX7_signBy_86 (by decide) ?_
          obtain rfl := Option.some.inj hM
          exact xreti hx hb hr hlocks hP hK hD hS dX7_signBy_87 rfl
        · have hM := xif c11 hM
          refine lv_iconst (v := 1) hx hb dX7_signBy_82 (by decide) ?_
          refine lv_goto (tgt := 87) hx hb dX7_signBy_83 (by decide) ?_
          obtain rfl := Option.some.inj hM
          exact xreti hx hb hr hlocks hP hK hD hS dX7_signBy_87 rfl
    refine lv_icmp_ne (tgt := 51) hx hb dX7_signBy_44 (by decide) (fun c2 => ?_) (fun c2 => ?_)
    · have hM := xif c2 hM
      refine lv_bipush (v := 10) hx hb dX7_signBy_51 (by decide) ?_
      refine lv_aload_n hx hb dX7_signBy_53 rfl (lv_at hl 0 rfl) ?_
      refine va_get (D := D) (ci := 7) (v := .ref (x 3)) (C := RX7) (T := TX7) (N := 30) hx hb hts (fun w h => List.mem_cons_of_mem _ (List.mem_append_right _ h)) hown hK hP 0 rfl rfl 9 (by decide) (hts _ (List.mem_of_getElem? (i := 1) rfl)) (fun _ h9 => h9) rfl dX7_signBy_54 ?_
      refine lv_iconst (v := 2) hx hb dX7_signBy_57 (by decide) ?_
      refine xald (v := (u_this_par 2)) hx hb hK hP 1 0 rfl rfl (xin_vp (by decide)) (congrArg _ (show (2 : Int32).toNatClampNeg = 2 by decide)) dX7_signBy_58 ?_
      refine lv_imul hx hb dX7_signBy_59 ?_
      obtain rfl := Option.some.inj hM
      exact Kv3 _ _ _ hP hD hS (lv_sub hl [0, 1, 2] rfl)
    · have hM := xit c2 hM
      refine lv_iconst (v := 0) hx hb dX7_signBy_47 (by decide) ?_
      refine lv_goto (tgt := 60) hx hb dX7_signBy_48 (by decide) ?_
      obtain rfl := Option.some.inj hM
      exact Kv3 _ _ _ hP hD hS (lv_sub hl [0, 1, 2] rfl)
  · have hM := xit c1 hM
    refine lv_aload_n hx hb dX7_signBy_4 rfl (lv_at hl 0 rfl) ?_
    refine lv_bipush (v := 10) hx hb dX7_signBy_5 (by decide) ?_
    refine lv_aload_n hx hb dX7_signBy_7 rfl (lv_at hl 0 rfl) ?_
    refine va_get (D := D) (ci := 7) (v := .ref (x 3)) (C := RX7) (T := TX7) (N := 30) hx hb hts (fun w h => List.mem_cons_of_mem _ (List.mem_append_right _ h)) hown hK hP 0 rfl rfl 9 (by decide) (hts _ (List.mem_of_getElem? (i := 1) rfl)) (fun _ h9 => h9) rfl dX7_signBy_8 ?_
    refine lv_iconst (v := 2) hx hb dX7_signBy_11 (by decide) ?_
    refine xald (v := (u_this_par 2)) hx hb hK hP 1 0 rfl rfl (xin_vp (by decide)) (congrArg _ (show (2 : Int32).toNatClampNeg = 2 by decide)) dX7_signBy_12 ?_
    refine lv_imul hx hb dX7_signBy_13 ?_
    refine lv_aload_n hx hb dX7_signBy_14 rfl (lv_at hl 0 rfl) ?_
    refine va_get (D := D) (ci := 7) (v := .ref (x 3)) (C := RX7) (T := TX7) (N := 30) hx hb hts (fun w h => List.mem_cons_of_mem _ (List.mem_append_right _ h)) hown hK hP 0 rfl rfl 9 (by decide) (hts _ (List.mem_of_getElem? (i := 1) rfl)) (fun _ h9 => h9) rfl dX7_signBy_15 ?_
    refine lv_bipush (v := 8) hx hb dX7_signBy_18 (by decide) ?_
    refine xald (v := (u_this_par 8)) hx hb hK hP 1 0 rfl rfl (xin_vp (by decide)) (congrArg _ (show (8 : Int32).toNatClampNeg = 8 by decide)) dX7_signBy_20 ?_
    obtain ⟨r12, er12, hM⟩ := xbd hM
    refine xaftv (W2 := [((x 0), .inr (7, o7 x u_this)), ((x 3), .inl (T.1, 11, .inl u_this_par)), ((x 4), .inl (T.1, 7, .inl r12))]) (va_runV (As := [.int ((10) * (u_this_par 2)), .int (u_this_par 8)]) (rest := []) ⟨hx, hb, hml, hown, hts⟩ (c_X7_begin l D T x u_this u_this_try0 ((10) * (u_this_par 2)) (u_this_par 8) er12) (cwV 2 hts gX7_signBy_X7_begin rfl rfl rfl (by decide +kernel) ⟨Nat.le_of_ble_eq_true rfl, Nat.le_of_ble_eq_true rfl⟩) (xpvv hP hD hK [0, 2] (by decide) rfl 0 7 rfl rfl (fun _ _ _ => trivial) (fun _ _ _ _ _ _ => trivial)) rfl rfl hl.1 rfl (lv_room (Nat.le_of_ble_eq_true rfl)) dX7_signBy_21 ⟨Nat.le_of_ble_eq_true rfl, Nat.le_of_ble_eq_true rfl⟩) hP hD hS hA [0, 2] rfl rfl rfl rfl (fun H locs hP hD hS => ?_)
    refine lv_aload_n hx hb dX7_signBy_24 rfl (lv_at hl 0 rfl) ?_
    obtain ⟨r13, er13, hM⟩ := xbd hM
    refine xafti (rv := r13.1) (W2 := [((x 0), .inr (7, o7 x u_this)), ((x 3), .inl (T.1, 11, .inl u_this_par)), ((x 4), .inl (T.1, 7, .inl r13.2))]) (va_runV (As := []) (rest := []) ⟨hx, hb, hml, hown, hts⟩ (c_X7_strokesUntil l D T x u_this u_this_par r12 er13) (cwV 0 hts gX7_signBy_X7_strokesUntil rfl rfl rfl (by decide +kernel) ⟨Nat.le_of_ble_eq_true rfl, Nat.le_of_ble_eq_true rfl⟩) (xpvv hP hD hK [0, 1, 2] (by decide) rfl 0 7 rfl rfl (fun _ _ _ => trivial) (fun _ _ _ _ _ _ => trivial)) rfl rfl hl.1 rfl (lv_room (Nat.le_of_ble_eq_true rfl)) dX7_signBy_25 ⟨Nat.le_of_ble_eq_true rfl, Nat.le_of_ble_eq_true rfl⟩) hP hD hS hA [0, 1, 2] rfl rfl rfl rfl (fun H locs hP hD hS => ?_)
    refine lv_istore_n (lv' := [(3, .int r13.1), (0, .ref (x 0)), (1, .int p1), (2, .int p2)]) hx hb dX7_signBy_28 rfl hl (by decide) rfl (fun ls hl => ?_)
    refine lv_iload_n hx hb dX7_signBy_29 rfl (lv_at hl 0 rfl) ?_
    refine lv_bipush (v := (-9)) hx hb dX7_signBy_30 (by decide) ?_
    refine lv_icmp_ne (tgt := 39) hx hb dX7_signBy_32 (by decide) (fun c14 => ?_) (fun c14 => ?_)
    · have hM := xif c14 hM
      refine lv_iload_n hx hb dX7_signBy_39 rfl (lv_at hl 0 rfl) ?_
      obtain rfl := Option.some.inj hM
      exact xreti hx hb hr hlocks hP hK hD hS dX7_signBy_40 rfl
    · have hM := xit c14 hM
      refine lv_iconst (v := 0) hx hb dX7_signBy_35 (by decide) ?_
      refine lv_goto (tgt := 40) hx hb dX7_signBy_36 (by decide) ?_
      obtain rfl := Option.some.inj hM
      exact xreti hx hb hr hlocks hP hK hD hS dX7_signBy_40 rfl
