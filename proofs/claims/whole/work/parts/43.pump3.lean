/-! laid by wip/whole/gen.py out of the decode rows: functional readings and contracts -/
def s_X6_costOf_4 (u_this_costs : (Nat → Int32)) (p1 : Int32) (v1 : Int32 × Int32) : Option ((Int32 × Int32) ⊕ (Int32 × Int32)) :=
  if (5) ≤ v1.2 then
   (some (.inr (v1.1, v1.2)))
  else
   (if ((p1 >>> (v1.2 &&& 31)) &&& (1)) = (1) then
     (if xin v1.2 5 = true then
      (some (.inl ((v1.1 + (u_this_costs v1.2.toNatClampNeg)), v1.2 + 1)))
      else none)
    else
     (some (.inl (v1.1, v1.2 + 1))))
def f_X6_costOf (N : Nat) (u_this : K6) (u_this_costs : (Nat → Int32)) (p1 : Int32) : Option (Int32) :=
  (xlp (s_X6_costOf_4 u_this_costs p1) N (0, 0)).bind fun v5 =>
  some v5.1
set_option maxHeartbeats 4000000 in
set_option maxRecDepth 100000 in
theorem c_X6_costOf (l : Launch) (D : va_G) (T : xT) (x : Nat → Nat) {sz : Nat} {N : Nat} (u_this : K6) (u_this_costs : (Nat → Int32)) (p1 : Int32) {rv : Int32} (hM : f_X6_costOf N u_this u_this_costs p1 = some rv) : Met l yX6_costOf wsX6_costOf ({ frames := 0, cells := 0, slots := 0, locals := 0 } : Room) (va_Pc [.ref (x 0), .int p1] (xPre D T [((x 0), .inr (6, o6 x u_this)), ((x 14), .inl (T.1, 5, .inl u_this_costs))] sz xE0)) (va_Qi (fun (r : Int32) (_ : Unit) => r = rv) (fun _ => xPost D T [((x 0), .inr (6, o6 x u_this)), ((x 14), .inl (T.1, 5, .inl u_this_costs))] (va_A [((x 0), .inr (6, o6 x u_this)), ((x 14), .inl (T.1, 5, .inl u_this_costs))] sz)) (va_A [((x 0), .inr (6, o6 x u_this)), ((x 14), .inl (T.1, 5, .inl u_this_costs))] sz)) 0 0 (va_A [((x 0), .inr (6, o6 x u_this)), ((x 14), .inl (T.1, 5, .inl u_this_costs))] sz) := by
  refine xMet (av := [.ref (x 0), .int p1]) (Wd := [((x 0), .inr (6, o6 x u_this)), ((x 14), .inl (T.1, 5, .inl u_this_costs))]) (E := xE0) (Qc := fun A => (va_Qi (fun (r : Int32) (_ : Unit) => r = rv) (fun _ => xPost D T [((x 0), .inr (6, o6 x u_this)), ((x 14), .inl (T.1, 5, .inl u_this_costs))] A) A)) (cc := cX6_costOf) (maxL := 4) (ret := (some .int)) (by decide) rfl (Nat.le_of_ble_eq_true rfl) ?_
  intro p e s m below meth c A ls hx hb hr hml hts hown hlocks hnm hP hK hD hS hA hE hl
  have hown : s.vm.findClass RX6 = some m.cls := hown
  have hl : lv_has ls 4 [(0, .ref (x 0)), (1, .int p1)] := hl
  unfold f_X6_costOf at hM
  refine lv_iconst (v := 0) hx hb dX6_costOf_0 (by decide) ?_
  refine lv_istore_n (lv' := [(2, .int (0)), (0, .ref (x 0)), (1, .int p1)]) hx hb dX6_costOf_1 rfl hl (by decide) rfl (fun ls hl => ?_)
  refine lv_iconst (v := 0) hx hb dX6_costOf_2 (by decide) ?_
  refine lv_istore_n (lv' := [(3, .int (0)), (2, .int (0)), (0, .ref (x 0)), (1, .int p1)]) hx hb dX6_costOf_3 rfl hl (by decide) rfl (fun ls hl => ?_)
  obtain ⟨v5, hM, hNv5⟩ := xbd hM
  have hQv5 := hM
  have Kv5 : ∀ (H : Heap) (locs : List Loc) (ls : Array Slot), va_P D vwCl [((x 0), .inr (6, o6 x u_this)), ((x 14), .inl (T.1, 5, .inl u_this_costs))] H → va_D A [((x 0), .inr (6, o6 x u_this)), ((x 14), .inl (T.1, 5, .inl u_this_costs))] → va_S A s.heap H locs → lv_has ls 4 [(2, .int v5.1)] → W p l e ({ frames := 0, cells := 0, slots := 0, locals := 0 } : Room) s m ([.ref (x 0), .int p1] : List Value).toArray below meth c H locs 0 0 (MQ below (va_Qi (fun (r : Int32) (_ : Unit) => r = rv) (fun _ => xPost D T [((x 0), .inr (6, o6 x u_this)), ((x 14), .inl (T.1, 5, .inl u_this_costs))] A) A) ([.ref (x 0), .int p1] : List Value).toArray s 0 0 A) (F0 m 33 ls []) := by
    intro H locs ls hP hD hS hl
    have hM := hNv5
    refine lv_iload_n hx hb dX6_costOf_33 rfl (lv_at hl 0 rfl) ?_
    obtain rfl := Option.some.inj hM
    exact xreti hx hb hr hlocks hP hK hD hS dX6_costOf_34 rfl
  have Lv1 : ∀ (n : Nat) (v1 : Int32 × Int32), xlp (s_X6_costOf_4 u_this_costs p1) n v1 = some v5 → ∀ (H : Heap) (locs : List Loc) (ls : Array Slot), va_P D vwCl [((x 0), .inr (6, o6 x u_this)), ((x 14), .inl (T.1, 5, .inl u_this_costs))] H → va_D A [((x 0), .inr (6, o6 x u_this)), ((x 14), .inl (T.1, 5, .inl u_this_costs))] → va_S A s.heap H locs → lv_has ls 4 [(0, .ref (x 0)), (1, .int p1), (2, .int v1.1), (3, .int v1.2)] → W p l e ({ frames := 0, cells := 0, slots := 0, locals := 0 } : Room) s m ([.ref (x 0), .int p1] : List Value).toArray below meth c H locs 0 0 (MQ below (va_Qi (fun (r : Int32) (_ : Unit) => r = rv) (fun _ => xPost D T [((x 0), .inr (6, o6 x u_this)), ((x 14), .inl (T.1, 5, .inl u_this_costs))] A) A) ([.ref (x 0), .int p1] : List Value).toArray s 0 0 A) (F0 m 4 ls []) := by
    intro n
    induction n with
    | zero => exact fun _ h => (xlp_0 h).elim
    | succ n ih =>
      intro v1 hM H locs ls hP hD hS hl
      obtain ⟨z, hM, hz1, hz2⟩ := xlp_s hM
      unfold s_X6_costOf_4 at hM
      refine lv_iload_n hx hb dX6_costOf_4 rfl (lv_at hl 3 rfl) ?_
      refine lv_iconst (v := 5) hx hb dX6_costOf_5 (by decide) ?_
      refine lv_icmp_ge (tgt := 33) hx hb dX6_costOf_6 (by decide) (fun c2 => ?_) (fun c2 => ?_)
      · have hM := xit c2 hM
        obtain rfl := hz2 _ (Option.some.inj hM).symm
        exact Kv5 _ _ _ hP hD hS (lv_sub hl [2] rfl)
      · have hM := xif c2 hM
        refine lv_iload_n hx hb dX6_costOf_9 rfl (lv_at hl 1 rfl) ?_
        refine lv_iload_n hx hb dX6_costOf_10 rfl (lv_at hl 3 rfl) ?_
        refine lv_ishr hx hb dX6_costOf_11 ?_
        refine lv_iconst (v := 1) hx hb dX6_costOf_12 (by decide) ?_
        refine lv_iand hx hb dX6_costOf_13 ?_
        refine lv_iconst (v := 1) hx hb dX6_costOf_14 (by decide) ?_
        refine lv_icmp_ne (tgt := 27) hx hb dX6_costOf_15 (by decide) (fun c3 => ?_) (fun c3 => ?_)
        · have hM := xif c3 hM
          refine lv_iinc (v := v1.2 + 1) (lv' := [(3, .int (v1.2 + 1)), (0, .ref (x 0)), (1, .int p1), (2, .int v1.1)]) hx hb dX6_costOf_27 hl (k := 3) rfl rfl (by decide) rfl (fun ls hl => ?_)
          refine lv_goto (tgt := 4) hx hb dX6_costOf_30 (by decide) ?_
          exact ih _ (hz1 _ (Option.some.inj hM).symm) _ _ _ hP hD hS (lv_sub hl [1, 2, 3, 0] rfl)
        · have hM := xit c3 hM
          refine lv_iload_n hx hb dX6_costOf_18 rfl (lv_at hl 2 rfl) ?_
          refine lv_aload_n hx hb dX6_costOf_19 rfl (lv_at hl 0 rfl) ?_
          refine va_get (D := D) (ci := 6) (v := .ref (x 14)) (C := RX6) (T := TX6) (N := 16) hx hb hts (fun w h => List.mem_cons_of_mem _ (List.mem_append_right _ h)) hown hK hP 0 rfl rfl 7 (by decide) (hts _ (List.mem_of_getElem? (i := 1) rfl)) (fun _ h9 => h9) rfl dX6_costOf_20 ?_
          refine lv_iload_n hx hb dX6_costOf_23 rfl (lv_at hl 3 rfl) ?_
          obtain ⟨g4, hM⟩ := xck hM
          refine xald (v := (u_this_costs v1.2.toNatClampNeg)) hx hb hK hP 1 0 rfl rfl g4 rfl dX6_costOf_24 ?_
          refine lv_iadd hx hb dX6_costOf_25 ?_
          refine lv_istore_n (lv' := [(2, .int (v1.1 + (u_this_costs v1.2.toNatClampNeg))), (0, .ref (x 0)), (1, .int p1), (3, .int v1.2)]) hx hb dX6_costOf_26 rfl hl (by decide) rfl (fun ls hl => ?_)
          refine lv_iinc (v := v1.2 + 1) (lv' := [(3, .int (v1.2 + 1)), (2, .int (v1.1 + (u_this_costs v1.2.toNatClampNeg))), (0, .ref (x 0)), (1, .int p1)]) hx hb dX6_costOf_27 hl (k := 3) rfl rfl (by decide) rfl (fun ls hl => ?_)
          refine lv_goto (tgt := 4) hx hb dX6_costOf_30 (by decide) ?_
          exact ih _ (hz1 _ (Option.some.inj hM).symm) _ _ _ hP hD hS (lv_sub hl [2, 3, 1, 0] rfl)
  exact Lv1 _ _ hM _ _ _ hP hD hS (lv_sub hl [2, 3, 1, 0] rfl)
def s_X6_cupsBehind_13 (p1 : Int32) (v2 : Int32 × K4) : Option ((Int32 × K4) ⊕ (Int32 × K4)) :=
  if (5) ≤ v2.1 then
   (some (.inr (v2.1, v2.2)))
  else
   (if ((p1 >>> (v2.1 &&& 31)) &&& (1)) = (1) then
     ((some (f_X4_mend v2.2 v2.1) : Option (K4)).bind fun r5 =>
      some (.inl (v2.1 + 1, r5)))
    else
     (some (.inl (v2.1 + 1, v2.2))))
def f_X6_cupsBehind (N : Nat) (u_this : K6) (u_this_yard : K4) (u_this_other : K4) (u_this_shade : K0) (p1 : Int32) : Option (Int32 × K4 × K0) :=
  (f_X4_beLike N u_this_other u_this_yard).bind fun r1 =>
  (xlp (s_X6_cupsBehind_13 p1) N (0, r1)).bind fun v6 =>
  (f_X0_startEmpty u_this_shade v6.2).bind fun r7 =>
  (some (f_X0_pour r7 (20)) : Option (Int32 × K0)).bind fun r8 =>
  (f_X0_pull N r8.2 v6.2 (60)).bind fun r9 =>
  some (r9.1, v6.2, r9.2)
set_option maxHeartbeats 4000000 in
set_option maxRecDepth 100000 in
theorem c_X6_cupsBehind (l : Launch) (D : va_G) (T : xT) (x : Nat → Nat) {sz : Nat} {N : Nat} (u_this : K6) (u_this_yard : K4) (u_this_other : K4) (u_this_shade : K0) (p1 : Int32) {rv : Int32 × K4 × K0} (hM : f_X6_cupsBehind N u_this u_this_yard u_this_other u_this_shade p1 = some rv) : Met l yX6_cupsBehind wsX6_cupsBehind ({ frames := 4, cells := 0, slots := 0, locals := 94 } : Room) (va_Pc [.ref (x 0), .int p1] (xPre D T [((x 0), .inr (6, o6 x u_this)), ((x 3), .inr (4, o4 u_this_yard)), ((x 21), .inr (4, o4 u_this_other)), ((x 22), .inr (0, o0 u_this_shade))] sz xE0)) (va_Qi (fun (r : Int32) (_ : Unit) => r = rv.1) (fun _ => xPost D T [((x 0), .inr (6, o6 x u_this)), ((x 3), .inr (4, o4 u_this_yard)), ((x 21), .inr (4, o4 rv.2.1)), ((x 22), .inr (0, o0 rv.2.2))] (va_A [((x 0), .inr (6, o6 x u_this)), ((x 3), .inr (4, o4 u_this_yard)), ((x 21), .inr (4, o4 u_this_other)), ((x 22), .inr (0, o0 u_this_shade))] sz)) (va_A [((x 0), .inr (6, o6 x u_this)), ((x 3), .inr (4, o4 u_this_yard)), ((x 21), .inr (4, o4 u_this_other)), ((x 22), .inr (0, o0 u_this_shade))] sz)) 0 0 (va_A [((x 0), .inr (6, o6 x u_this)), ((x 3), .inr (4, o4 u_this_yard)), ((x 21), .inr (4, o4 u_this_other)), ((x 22), .inr (0, o0 u_this_shade))] sz) := by
  refine xMet (av := [.ref (x 0), .int p1]) (Wd := [((x 0), .inr (6, o6 x u_this)), ((x 3), .inr (4, o4 u_this_yard)), ((x 21), .inr (4, o4 u_this_other)), ((x 22), .inr (0, o0 u_this_shade))]) (E := xE0) (Qc := fun A => (va_Qi (fun (r : Int32) (_ : Unit) => r = rv.1) (fun _ => xPost D T [((x 0), .inr (6, o6 x u_this)), ((x 3), .inr (4, o4 u_this_yard)), ((x 21), .inr (4, o4 rv.2.1)), ((x 22), .inr (0, o0 rv.2.2))] A) A)) (cc := cX6_cupsBehind) (maxL := 3) (ret := (some .int)) (by decide) rfl (Nat.le_of_ble_eq_true rfl) ?_
  intro p e s m below meth c A ls hx hb hr hml hts hown hlocks hnm hP hK hD hS hA hE hl
  have hown : s.vm.findClass RX6 = some m.cls := hown
  have hl : lv_has ls 3 [(0, .ref (x 0)), (1, .int p1)] := hl
  unfold f_X6_cupsBehind at hM
  refine lv_aload_n hx hb dX6_cupsBehind_0 rfl (lv_at hl 0 rfl) ?_
  refine va_get (D := D) (ci := 6) (v := .ref (x 21)) (C := RX6) (T := TX6) (N := 16) hx hb hts (fun w h => List.mem_cons_of_mem _ (List.mem_append_left _ (List.mem_append_left _ (List.mem_append_right _ h)))) hown hK hP 0 rfl rfl 11 (by decide) (hts _ (List.mem_of_getElem? (i := 1) rfl)) (fun _ h9 => h9) rfl dX6_cupsBehind_1 ?_
  refine lv_aload_n hx hb dX6_cupsBehind_4 rfl (lv_at hl 0 rfl) ?_
  refine va_get (D := D) (ci := 6) (v := .ref (x 3)) (C := RX6) (T := TX6) (N := 16) hx hb hts (fun w h => List.mem_cons_of_mem _ (List.mem_append_left _ (List.mem_append_left _ (List.mem_append_right _ h)))) hown hK hP 0 rfl rfl 1 (by decide) (hts _ (List.mem_of_getElem? (i := 2) rfl)) (fun _ h9 => h9) rfl dX6_cupsBehind_5 ?_
  obtain ⟨r1, er1, hM⟩ := xbd hM
  refine xaftv (W2 := [((x 0), .inr (6, o6 x u_this)), ((x 3), .inr (4, o4 u_this_yard)), ((x 21), .inr (4, o4 r1)), ((x 22), .inr (0, o0 u_this_shade))]) (va_runV (As := [.ref (x 3)]) (rest := []) ⟨hx, hb, hml, hown, hts⟩ (c_X4_beLike l D T (x 21) (x 3) u_this_other u_this_yard er1) (cwV 1 hts gX6_cupsBehind_X4_beLike rfl rfl rfl (by decide +kernel) ⟨Nat.le_of_ble_eq_true rfl, Nat.le_of_ble_eq_true rfl⟩) (xpvv hP hD hK [2, 1] (by decide) rfl 0 4 rfl rfl (fun _ _ _ => trivial) (fun _ _ _ _ _ _ => trivial)) rfl rfl hl.1 rfl (lv_room (Nat.le_of_ble_eq_true rfl)) dX6_cupsBehind_8 ⟨Nat.le_of_ble_eq_true rfl, Nat.le_of_ble_eq_true rfl⟩) hP hD hS hA [2, 1] rfl rfl rfl rfl (fun H locs hP hD hS => ?_)
  refine lv_iconst (v := 0) hx hb dX6_cupsBehind_11 (by decide) ?_
  refine lv_istore_n (lv' := [(2, .int (0)), (0, .ref (x 0)), (1, .int p1)]) hx hb dX6_cupsBehind_12 rfl hl (by decide) rfl (fun ls hl => ?_)
  obtain ⟨v6, hM, hNv6⟩ := xbd hM
  have hQv6 := hM
  have Kv6 : ∀ (H : Heap) (locs : List Loc) (ls : Array Slot), va_P D vwCl [((x 0), .inr (6, o6 x u_this)), ((x 3), .inr (4, o4 u_this_yard)), ((x 21), .inr (4, o4 v6.2)), ((x 22), .inr (0, o0 u_this_shade))] H → va_D A [((x 0), .inr (6, o6 x u_this)), ((x 3), .inr (4, o4 u_this_yard)), ((x 21), .inr (4, o4 v6.2)), ((x 22), .inr (0, o0 u_this_shade))] → va_S A s.heap H locs → lv_has ls 3 [(0, .ref (x 0))] → W p l e ({ frames := 4, cells := 0, slots := 0, locals := 94 } : Room) s m ([.ref (x 0), .int p1] : List Value).toArray below meth c H locs 0 0 (MQ below (va_Qi (fun (r : Int32) (_ : Unit) => r = rv.1) (fun _ => xPost D T [((x 0), .inr (6, o6 x u_this)), ((x 3), .inr (4, o4 u_this_yard)), ((x 21), .inr (4, o4 rv.2.1)), ((x 22), .inr (0, o0 rv.2.2))] A) A) ([.ref (x 0), .int p1] : List Value).toArray s 0 0 A) (F0 m 41 ls []) := by
    intro H locs ls hP hD hS hl
    have hM := hNv6
    refine lv_aload_n hx hb dX6_cupsBehind_41 rfl (lv_at hl 0 rfl) ?_
    refine va_get (D := D) (ci := 6) (v := .ref (x 22)) (C := RX6) (T := TX6) (N := 16) hx hb hts (fun w h => List.mem_cons_of_mem _ (List.mem_append_left _ (List.mem_append_left _ (List.mem_append_right _ h)))) hown hK hP 0 rfl rfl 12 (by decide) (hts _ (List.mem_of_getElem? (i := 3) rfl)) (fun _ h9 => h9) rfl dX6_cupsBehind_42 ?_
    refine lv_aload_n hx hb dX6_cupsBehind_45 rfl (lv_at hl 0 rfl) ?_
    refine va_get (D := D) (ci := 6) (v := .ref (x 21)) (C := RX6) (T := TX6) (N := 16) hx hb hts (fun w h => List.mem_cons_of_mem _ (List.mem_append_left _ (List.mem_append_left _ (List.mem_append_right _ h)))) hown hK hP 0 rfl rfl 11 (by decide) (hts _ (List.mem_of_getElem? (i := 1) rfl)) (fun _ h9 => h9) rfl dX6_cupsBehind_46 ?_
    obtain ⟨r7, er7, hM⟩ := xbd hM
    refine xaftv (W2 := [((x 0), .inr (6, o6 x u_this)), ((x 3), .inr (4, o4 u_this_yard)), ((x 21), .inr (4, o4 v6.2)), ((x 22), .inr (0, o0 r7))]) (va_runV (As := [.ref (x 21)]) (rest := []) ⟨hx, hb, hml, hown, hts⟩ (c_X0_startEmpty l D T (x 22) (x 21) u_this_shade v6.2 er7) (cwV 1 hts gX6_cupsBehind_X0_startEmpty rfl rfl rfl (by decide +kernel) ⟨Nat.le_of_ble_eq_true rfl, Nat.le_of_ble_eq_true rfl⟩) (xpvv hP hD hK [3, 2] (by decide) rfl 0 0 rfl rfl (fun _ _ _ => trivial) (fun _ _ _ _ _ _ => trivial)) rfl rfl hl.1 rfl (lv_room (Nat.le_of_ble_eq_true rfl)) dX6_cupsBehind_49 ⟨Nat.le_of_ble_eq_true rfl, Nat.le_of_ble_eq_true rfl⟩) hP hD hS hA [3, 2] rfl rfl rfl rfl (fun H locs hP hD hS => ?_)
    refine lv_aload_n hx hb dX6_cupsBehind_52 rfl (lv_at hl 0 rfl) ?_
    refine va_get (D := D) (ci := 6) (v := .ref (x 22)) (C := RX6) (T := TX6) (N := 16) hx hb hts (fun w h => List.mem_cons_of_mem _ (List.mem_append_left _ (List.mem_append_left _ (List.mem_append_right _ h)))) hown hK hP 0 rfl rfl 12 (by decide) (hts _ (List.mem_of_getElem? (i := 3) rfl)) (fun _ h9 => h9) rfl dX6_cupsBehind_53 ?_
    refine lv_bipush (v := 20) hx hb dX6_cupsBehind_56 (by decide) ?_
    obtain ⟨r8, er8, hM⟩ := xbd hM
    refine xafti (rv := r8.1) (W2 := [((x 0), .inr (6, o6 x u_this)), ((x 3), .inr (4, o4 u_this_yard)), ((x 21), .inr (4, o4 v6.2)), ((x 22), .inr (0, o0 r8.2))]) (va_runV (As := [.int (20)]) (rest := []) ⟨hx, hb, hml, hown, hts⟩ (c_X0_pour l D T (x 22) r7 (20) (Option.some.inj er8)) (cwV 1 hts gX6_cupsBehind_X0_pour rfl rfl rfl (by decide +kernel) ⟨Nat.le_of_ble_eq_true rfl, Nat.le_of_ble_eq_true rfl⟩) (xpvv hP hD hK [3] (by decide) rfl 0 0 rfl rfl (fun _ _ _ => trivial) (fun _ _ _ _ _ _ => trivial)) rfl rfl hl.1 rfl (lv_room (Nat.le_of_ble_eq_true rfl)) dX6_cupsBehind_58 ⟨Nat.le_of_ble_eq_true rfl, Nat.le_of_ble_eq_true rfl⟩) hP hD hS hA [3] rfl rfl rfl rfl (fun H locs hP hD hS => ?_)
    refine lv_pop hx hb dX6_cupsBehind_61 rfl ?_
    refine lv_aload_n hx hb dX6_cupsBehind_62 rfl (lv_at hl 0 rfl) ?_
    refine va_get (D := D) (ci := 6) (v := .ref (x 22)) (C := RX6) (T := TX6) (N := 16) hx hb hts (fun w h => List.mem_cons_of_mem _ (List.mem_append_left _ (List.mem_append_left _ (List.mem_append_right _ h)))) hown hK hP 0 rfl rfl 12 (by decide) (hts _ (List.mem_of_getElem? (i := 3) rfl)) (fun _ h9 => h9) rfl dX6_cupsBehind_63 ?_
    refine lv_aload_n hx hb dX6_cupsBehind_66 rfl (lv_at hl 0 rfl) ?_
    refine va_get (D := D) (ci := 6) (v := .ref (x 21)) (C := RX6) (T := TX6) (N := 16) hx hb hts (fun w h => List.mem_cons_of_mem _ (List.mem_append_left _ (List.mem_append_left _ (List.mem_append_right _ h)))) hown hK hP 0 rfl rfl 11 (by decide) (hts _ (List.mem_of_getElem? (i := 1) rfl)) (fun _ h9 => h9) rfl dX6_cupsBehind_67 ?_
    refine lv_bipush (v := 60) hx hb dX6_cupsBehind_70 (by decide) ?_
    obtain ⟨r9, er9, hM⟩ := xbd hM
    refine xafti (rv := r9.1) (W2 := [((x 0), .inr (6, o6 x u_this)), ((x 3), .inr (4, o4 u_this_yard)), ((x 21), .inr (4, o4 v6.2)), ((x 22), .inr (0, o0 r9.2))]) (va_runV (As := [.ref (x 21), .int (60)]) (rest := []) ⟨hx, hb, hml, hown, hts⟩ (c_X0_pull l D T (x 22) (x 21) r8.2 v6.2 (60) er9) (cwV 2 hts gX6_cupsBehind_X0_pull rfl rfl rfl (by decide +kernel) ⟨Nat.le_of_ble_eq_true rfl, Nat.le_of_ble_eq_true rfl⟩) (xpvv hP hD hK [3, 2] (by decide) rfl 0 0 rfl rfl (fun _ _ _ => trivial) (fun _ _ _ _ _ _ => trivial)) rfl rfl hl.1 rfl (lv_room (Nat.le_of_ble_eq_true rfl)) dX6_cupsBehind_72 ⟨Nat.le_of_ble_eq_true rfl, Nat.le_of_ble_eq_true rfl⟩) hP hD hS hA [3, 2] rfl rfl rfl rfl (fun H locs hP hD hS => ?_)
    obtain rfl := Option.some.inj hM
    exact xreti hx hb hr hlocks hP hK hD hS dX6_cupsBehind_75 rfl
  have Lv2 : ∀ (n : Nat) (v2 : Int32 × K4), xlp (s_X6_cupsBehind_13 p1) n v2 = some v6 → ∀ (H : Heap) (locs : List Loc) (ls : Array Slot), va_P D vwCl [((x 0), .inr (6, o6 x u_this)), ((x 3), .inr (4, o4 u_this_yard)), ((x 21), .inr (4, o4 v2.2)), ((x 22), .inr (0, o0 u_this_shade))] H → va_D A [((x 0), .inr (6, o6 x u_this)), ((x 3), .inr (4, o4 u_this_yard)), ((x 21), .inr (4, o4 v2.2)), ((x 22), .inr (0, o0 u_this_shade))] → va_S A s.heap H locs → lv_has ls 3 [(0, .ref (x 0)), (1, .int p1), (2, .int v2.1)] → W p l e ({ frames := 4, cells := 0, slots := 0, locals := 94 } : Room) s m ([.ref (x 0), .int p1] : List Value).toArray below meth c H locs 0 0 (MQ below (va_Qi (fun (r : Int32) (_ : Unit) => r = rv.1) (fun _ => xPost D T [((x 0), .inr (6, o6 x u_this)), ((x 3), .inr (4, o4 u_this_yard)), ((x 21), .inr (4, o4 rv.2.1)), ((x 22), .inr (0, o0 rv.2.2))] A) A) ([.ref (x 0), .int p1] : List Value).toArray s 0 0 A) (F0 m 13 ls []) := by
    intro n
    induction n with
    | zero => exact fun _ h => (xlp_0 h).elim
    | succ n ih =>
      intro v2 hM H locs ls hP hD hS hl
      obtain ⟨z, hM, hz1, hz2⟩ := xlp_s hM
      unfold s_X6_cupsBehind_13 at hM
      refine lv_iload_n hx hb dX6_cupsBehind_13 rfl (lv_at hl 2 rfl) ?_
      refine lv_iconst (v := 5) hx hb dX6_cupsBehind_14 (by decide) ?_
      refine lv_icmp_ge (tgt := 41) hx hb dX6_cupsBehind_15 (by decide) (fun c3 => ?_) (fun c3 => ?_)
      · have hM := xit c3 hM
        obtain rfl := hz2 _ (Option.some.inj hM).symm
        exact Kv6 _ _ _ hP hD hS (lv_sub hl [0] rfl)
      · have hM := xif c3 hM
        refine lv_iload_n hx hb dX6_cupsBehind_18 rfl (lv_at hl 1 rfl) ?_
        refine lv_iload_n hx hb dX6_cupsBehind_19 rfl (lv_at hl 2 rfl) ?_
        refine lv_ishr hx hb dX6_cupsBehind_20 ?_
        refine lv_iconst (v := 1) hx hb dX6_cupsBehind_21 (by decide) ?_
        refine lv_iand hx hb dX6_cupsBehind_22 ?_
        refine lv_iconst (v := 1) hx hb dX6_cupsBehind_23 (by decide) ?_
        refine lv_icmp_ne (tgt := 35) hx hb dX6_cupsBehind_24 (by decide) (fun c4 => ?_) (fun c4 => ?_)
        · have hM := xif c4 hM
          refine lv_iinc (v := v2.1 + 1) (lv' := [(2, .int (v2.1 + 1)), (0, .ref (x 0)), (1, .int p1)]) hx hb dX6_cupsBehind_35 hl (k := 2) rfl rfl (by decide) rfl (fun ls hl => ?_)
          refine lv_goto (tgt := 13) hx hb dX6_cupsBehind_38 (by decide) ?_
          exact ih _ (hz1 _ (Option.some.inj hM).symm) _ _ _ hP hD hS (lv_sub hl [1, 2, 0] rfl)
        · have hM := xit c4 hM
          refine lv_aload_n hx hb dX6_cupsBehind_27 rfl (lv_at hl 0 rfl) ?_
          refine va_get (D := D) (ci := 6) (v := .ref (x 21)) (C := RX6) (T := TX6) (N := 16) hx hb hts (fun w h => List.mem_cons_of_mem _ (List.mem_append_left _ (List.mem_append_left _ (List.mem_append_right _ h)))) hown hK hP 0 rfl rfl 11 (by decide) (hts _ (List.mem_of_getElem? (i := 1) rfl)) (fun _ h9 => h9) rfl dX6_cupsBehind_28 ?_
          refine lv_iload_n hx hb dX6_cupsBehind_31 rfl (lv_at hl 2 rfl) ?_
          obtain ⟨r5, er5, hM⟩ := xbd hM
          refine xaftv (W2 := [((x 0), .inr (6, o6 x u_this)), ((x 3), .inr (4, o4 u_this_yard)), ((x 21), .inr (4, o4 r5)), ((x 22), .inr (0, o0 u_this_shade))]) (va_runV (As := [.int v2.1]) (rest := []) ⟨hx, hb, hml, hown, hts⟩ (c_X4_mend l D T (x 21) v2.2 v2.1 (Option.some.inj er5)) (cwV 1 hts gX6_cupsBehind_X4_mend rfl rfl rfl (by decide +kernel) ⟨Nat.le_of_ble_eq_true rfl, Nat.le_of_ble_eq_true rfl⟩) (xpvv hP hD hK [2] (by decide) rfl 0 4 rfl rfl (fun _ _ _ => trivial) (fun _ _ _ _ _ _ => trivial)) rfl rfl hl.1 rfl (lv_room (Nat.le_of_ble_eq_true rfl)) dX6_cupsBehind_32 ⟨Nat.le_of_ble_eq_true rfl, Nat.le_of_ble_eq_true rfl⟩) hP hD hS hA [2] rfl rfl rfl rfl (fun H locs hP hD hS => ?_)
          refine lv_iinc (v := v2.1 + 1) (lv' := [(2, .int (v2.1 + 1)), (0, .ref (x 0)), (1, .int p1)]) hx hb dX6_cupsBehind_35 hl (k := 2) rfl rfl (by decide) rfl (fun ls hl => ?_)
          refine lv_goto (tgt := 13) hx hb dX6_cupsBehind_38 (by decide) ?_
          exact ih _ (hz1 _ (Option.some.inj hM).symm) _ _ _ hP hD hS (lv_sub hl [1, 2, 0] rfl)
  exact Lv2 _ _ hM _ _ _ hP hD hS (lv_sub hl [1, 2, 0] rfl)
def s_X6_choice_32 (N : Nat) (u_this : K6) (u_this_yard : K4) (u_this_costs : (Nat → Int32)) (p1 : Int32) (v3 : Int32 × Int32 × Int32 × K4 × K0) : Option ((Int32 × Int32 × Int32 × K4 × K0) ⊕ (Int32 × Int32 × Int32 × K4 × K0)) :=
  if (32) ≤ v3.2.2.1 then
   (some (.inr (v3.1, v3.2.1, v3.2.2.1, v3.2.2.2.1, v3.2.2.2.2)))
  else
   ((f_X6_costOf N u_this u_this_costs v3.2.2.1).bind fun r5 =>
    if v3.1 = (-9) then
     ((f_X6_cupsBehind N u_this u_this_yard v3.2.2.2.1 v3.2.2.2.2 v3.2.2.1).bind fun r7 =>
      if r7.1 < p1 then
       (some (.inl (v3.1, v3.2.1, v3.2.2.1 + 1, r7.2.1, r7.2.2)))
      else
       (some (.inl (v3.2.2.1, r5, v3.2.2.1 + 1, r7.2.1, r7.2.2))))
    else
     (if v3.2.1 ≤ r5 then
       (some (.inl (v3.1, v3.2.1, v3.2.2.1 + 1, v3.2.2.2.1, v3.2.2.2.2)))
      else
       ((f_X6_cupsBehind N u_this u_this_yard v3.2.2.2.1 v3.2.2.2.2 v3.2.2.1).bind fun r10 =>
        if r10.1 < p1 then
         (some (.inl (v3.1, v3.2.1, v3.2.2.1 + 1, r10.2.1, r10.2.2)))
        else
         (some (.inl (v3.2.2.1, r5, v3.2.2.1 + 1, r10.2.1, r10.2.2))))))
def f_X6_choice (N : Nat) (u_this : K6) (u_this_yard : K4) (u_this_costs : (Nat → Int32)) (u_this_other : K4) (u_this_shade : K0) (p1 : Int32) (p2 : Int32) : Option (Int32 × K4 × K0) :=
  if (f_X6_outside p1 (0) (9999)) = (0) then
   (if (f_X6_outside p2 (0) (1)) = (0) then
     ((xlp (s_X6_choice_32 N u_this u_this_yard u_this_costs p1) N ((-9), (-9), 0, u_this_other, u_this_shade)).bind fun v12 =>
      if p2 = (0) then
       (some (v12.1, v12.2.2.2.1, v12.2.2.2.2))
      else
       (some (v12.2.1, v12.2.2.2.1, v12.2.2.2.2)))
    else
     (some ((-1), u_this_other, u_this_shade)))
  else
   (some ((-1), u_this_other, u_this_shade))
set_option maxHeartbeats 4000000 in
set_option maxRecDepth 100000 in
theorem c_X6_choice (l : Launch) (D : va_G) (T : xT) (x : Nat → Nat) {sz : Nat} {N : Nat} (u_this : K6) (u_this_yard : K4) (u_this_costs : (Nat → Int32)) (u_this_other : K4) (u_this_shade : K0) (p1 : Int32) (p2 : Int32) {rv : Int32 × K4 × K0} (hM : f_X6_choice N u_this u_this_yard u_this_costs u_this_other u_this_shade p1 p2 = some rv) : Met l yX6_choice wsX6_choice ({ frames := 5, cells := 0, slots := 0, locals := 116 } : Room) (va_Pc [.ref (x 0), .int p1, .int p2] (xPre D T [((x 0), .inr (6, o6 x u_this)), ((x 3), .inr (4, o4 u_this_yard)), ((x 14), .inl (T.1, 5, .inl u_this_costs)), ((x 21), .inr (4, o4 u_this_other)), ((x 22), .inr (0, o0 u_this_shade))] sz xE0)) (va_Qi (fun (r : Int32) (_ : Unit) => r = rv.1) (fun _ => xPost D T [((x 0), .inr (6, o6 x u_this)), ((x 3), .inr (4, o4 u_this_yard)), ((x 14), .inl (T.1, 5, .inl u_this_costs)), ((x 21), .inr (4, o4 rv.2.1)), ((x 22), .inr (0, o0 rv.2.2))] (va_A [((x 0), .inr (6, o6 x u_this)), ((x 3), .inr (4, o4 u_this_yard)), ((x 14), .inl (T.1, 5, .inl u_this_costs)), ((x 21), .inr (4, o4 u_this_other)), ((x 22), .inr (0, o0 u_this_shade))] sz)) (va_A [((x 0), .inr (6, o6 x u_this)), ((x 3), .inr (4, o4 u_this_yard)), ((x 14), .inl (T.1, 5, .inl u_this_costs)), ((x 21), .inr (4, o4 u_this_other)), ((x 22), .inr (0, o0 u_this_shade))] sz)) 0 0 (va_A [((x 0), .inr (6, o6 x u_this)), ((x 3), .inr (4, o4 u_this_yard)), ((x 14), .inl (T.1, 5, .inl u_this_costs)), ((x 21), .inr (4, o4 u_this_other)), ((x 22), .inr (0, o0 u_this_shade))] sz) := by
  refine xMet (av := [.ref (x 0), .int p1, .int p2]) (Wd := [((x 0), .inr (6, o6 x u_this)), ((x 3), .inr (4, o4 u_this_yard)), ((x 14), .inl (T.1, 5, .inl u_this_costs)), ((x 21), .inr (4, o4 u_this_other)), ((x 22), .inr (0, o0 u_this_shade))]) (E := xE0) (Qc := fun A => (va_Qi (fun (r : Int32) (_ : Unit) => r = rv.1) (fun _ => xPost D T [((x 0), .inr (6, o6 x u_this)), ((x 3), .inr (4, o4 u_this_yard)), ((x 14), .inl (T.1, 5, .inl u_this_costs)), ((x 21), .inr (4, o4 rv.2.1)), ((x 22), .inr (0, o0 rv.2.2))] A) A)) (cc := cX6_choice) (maxL := 7) (ret := (some .int)) (by decide) rfl (Nat.le_of_ble_eq_true rfl) ?_
  intro p e s m below meth c A ls hx hb hr hml hts hown hlocks hnm hP hK hD hS hA hE hl
  have hown : s.vm.findClass RX6 = some m.cls := hown
  have hl : lv_has ls 7 [(0, .ref (x 0)), (1, .int p1), (2, .int p2)] := hl
  unfold f_X6_choice at hM
  refine lv_iload_n hx hb dX6_choice_0 rfl (lv_at hl 1 rfl) ?_
  refine lv_iconst (v := 0) hx hb dX6_choice_1 (by decide) ?_
  refine lv_sipush (v := 9999) hx hb dX6_choice_2 (by decide) ?_
  refine xafti (rv := (f_X6_outside p1 (0) (9999))) (W2 := [((x 0), .inr (6, o6 x u_this)), ((x 3), .inr (4, o4 u_this_yard)), ((x 14), .inl (T.1, 5, .inl u_this_costs)), ((x 21), .inr (4, o4 u_this_other)), ((x 22), .inr (0, o0 u_this_shade))]) (va_runS (As := [.int p1, .int (0), .int (9999)]) (rest := []) ⟨hx, hb, hml, hown, hts⟩ (c_X6_outside (rv := (f_X6_outside p1 (0) (9999))) l D T p1 (0) (9999) rfl) (cwS 3 hts gX6_choice_X6_outside rfl rfl rfl (by decide +kernel) ⟨Nat.le_of_ble_eq_true rfl, Nat.le_of_ble_eq_true rfl⟩) (xpvs hP hD hK [] (by decide) rfl (fun _ _ _ => trivial) (fun _ _ _ _ _ _ => trivial)) rfl rfl hl.1 rfl (lv_room (Nat.le_of_ble_eq_true rfl)) dX6_choice_5 ⟨Nat.le_of_ble_eq_true rfl, Nat.le_of_ble_eq_true rfl⟩) hP hD hS hA [] rfl rfl rfl rfl (fun H locs hP hD hS => ?_)
  refine lv_if_ne (tgt := 20) hx hb dX6_choice_8 (by decide) (fun c1 => ?_) (fun c1 => ?_)
  · have hM := xif c1 hM
    refine lv_iconst (v := (-1)) hx hb dX6_choice_20 (by decide) ?_
    obtain rfl := Option.some.inj hM
    exact xreti hx hb hr hlocks hP hK hD hS dX6_choice_21 rfl
  · have hM := xit c1 hM
    refine lv_iload_n hx hb dX6_choice_11 rfl (lv_at hl 2 rfl) ?_
    refine lv_iconst (v := 0) hx hb dX6_choice_12 (by decide) ?_
    refine lv_iconst (v := 1) hx hb dX6_choice_13 (by decide) ?_
    refine xafti (rv := (f_X6_outside p2 (0) (1))) (W2 := [((x 0), .inr (6, o6 x u_this)), ((x 3), .inr (4, o4 u_this_yard)), ((x 14), .inl (T.1, 5, .inl u_this_costs)), ((x 21), .inr (4, o4 u_this_other)), ((x 22), .inr (0, o0 u_this_shade))]) (va_runS (As := [.int p2, .int (0), .int (1)]) (rest := []) ⟨hx, hb, hml, hown, hts⟩ (c_X6_outside (rv := (f_X6_outside p2 (0) (1))) l D T p2 (0) (1) rfl) (cwS 3 hts gX6_choice_X6_outside rfl rfl rfl (by decide +kernel) ⟨Nat.le_of_ble_eq_true rfl, Nat.le_of_ble_eq_true rfl⟩) (xpvs hP hD hK [] (by decide) rfl (fun _ _ _ => trivial) (fun _ _ _ _ _ _ => trivial)) rfl rfl hl.1 rfl (lv_room (Nat.le_of_ble_eq_true rfl)) dX6_choice_14 ⟨Nat.le_of_ble_eq_true rfl, Nat.le_of_ble_eq_true rfl⟩) hP hD hS hA [] rfl rfl rfl rfl (fun H locs hP hD hS => ?_)
    refine lv_if_eq (tgt := 22) hx hb dX6_choice_17 (by decide) (fun c2 => ?_) (fun c2 => ?_)
    · have hM := xit c2 hM
      refine lv_bipush (v := (-9)) hx hb dX6_choice_22 (by decide) ?_
      refine lv_istore_n (lv' := [(3, .int (-9)), (0, .ref (x 0)), (1, .int p1), (2, .int p2)]) hx hb dX6_choice_24 rfl hl (by decide) rfl (fun ls hl => ?_)
      refine lv_bipush (v := (-9)) hx hb dX6_choice_25 (by decide) ?_
      refine lv_istore (lv' := [(4, .int (-9)), (3, .int (-9)), (0, .ref (x 0)), (1, .int p1), (2, .int p2)]) hx hb dX6_choice_27 hl (by decide) rfl (fun ls hl => ?_)
      refine lv_iconst (v := 0) hx hb dX6_choice_29 (by decide) ?_
      refine lv_istore (lv' := [(5, .int (0)), (4, .int (-9)), (3, .int (-9)), (0, .ref (x 0)), (1, .int p1), (2, .int p2)]) hx hb dX6_choice_30 hl (by decide) rfl (fun ls hl => ?_)
      obtain ⟨v12, hM, hNv12⟩ := xbd hM
      have hQv12 := hM
      have Kv12 : ∀ (H : Heap) (locs : List Loc) (ls : Array Slot), va_P D vwCl [((x 0), .inr (6, o6 x u_this)), ((x 3), .inr (4, o4 u_this_yard)), ((x 14), .inl (T.1, 5, .inl u_this_costs)), ((x 21), .inr (4, o4 v12.2.2.2.1)), ((x 22), .inr (0, o0 v12.2.2.2.2))] H → va_D A [((x 0), .inr (6, o6 x u_this)), ((x 3), .inr (4, o4 u_this_yard)), ((x 14), .inl (T.1, 5, .inl u_this_costs)), ((x 21), .inr (4, o4 v12.2.2.2.1)), ((x 22), .inr (0, o0 v12.2.2.2.2))] → va_S A s.heap H locs → lv_has ls 7 [(2, .int p2), (3, .int v12.1), (4, .int v12.2.1)] → W p l e ({ frames := 5, cells := 0, slots := 0, locals := 116 } : Room) s m ([.ref (x 0), .int p1, .int p2] : List Value).toArray below meth c H locs 0 0 (MQ below (va_Qi (fun (r : Int32) (_ : Unit) => r = rv.1) (fun _ => xPost D T [((x 0), .inr (6, o6 x u_this)), ((x 3), .inr (4, o4 u_this_yard)), ((x 14), .inl (T.1, 5, .inl u_this_costs)), ((x 21), .inr (4, o4 rv.2.1)), ((x 22), .inr (0, o0 rv.2.2))] A) A) ([.ref (x 0), .int p1, .int p2] : List Value).toArray s 0 0 A) (F0 m 83 ls []) := by
        intro H locs ls hP hD hS hl
        have hM := hNv12
        refine lv_iload_n hx hb dX6_choice_83 rfl (lv_at hl 0 rfl) ?_
        refine lv_if_ne (tgt := 91) hx hb dX6_choice_84 (by decide) (fun c13 => ?_) (fun c13 => ?_)
        · have hM := xif c13 hM
          refine lv_iload hx hb dX6_choice_91 (lv_at hl 2 rfl) ?_
          obtain rfl := Option.some.inj hM
          exact xreti hx hb hr hlocks hP hK hD hS dX6_choice_93 rfl
        · have hM := xit c13 hM
          refine lv_iload_n hx hb dX6_choice_87 rfl (lv_at hl 1 rfl) ?_
          refine lv_goto (tgt := 93) hx hb dX6_choice_88 (by decide) ?_
          obtain rfl := Option.some.inj hM
          exact xreti hx hb hr hlocks hP hK hD hS dX6_choice_93 rfl
      have Lv3 : ∀ (n : Nat) (v3 : Int32 × Int32 × Int32 × K4 × K0), xlp (s_X6_choice_32 N u_this u_this_yard u_this_costs p1) n v3 = some v12 → ∀ (H : Heap) (locs : List Loc) (ls : Array Slot), va_P D vwCl [((x 0), .inr (6, o6 x u_this)), ((x 3), .inr (4, o4 u_this_yard)), ((x 14), .inl (T.1, 5, .inl u_this_costs)), ((x 21), .inr (4, o4 v3.2.2.2.1)), ((x 22), .inr (0, o0 v3.2.2.2.2))] H → va_D A [((x 0), .inr (6, o6 x u_this)), ((x 3), .inr (4, o4 u_this_yard)), ((x 14), .inl (T.1, 5, .inl u_this_costs)), ((x 21), .inr (4, o4 v3.2.2.2.1)), ((x 22), .inr (0, o0 v3.2.2.2.2))] → va_S A s.heap H locs → lv_has ls 7 [(0, .ref (x 0)), (1, .int p1), (2, .int p2), (3, .int v3.1), (4, .int v3.2.1), (5, .int v3.2.2.1)] → W p l e ({ frames := 5, cells := 0, slots := 0, locals := 116 } : Room) s m ([.ref (x 0), .int p1, .int p2] : List Value).toArray below meth c H locs 0 0 (MQ below (va_Qi (fun (r : Int32) (_ : Unit) => r = rv.1) (fun _ => xPost D T [((x 0), .inr (6, o6 x u_this)), ((x 3), .inr (4, o4 u_this_yard)), ((x 14), .inl (T.1, 5, .inl u_this_costs)), ((x 21), .inr (4, o4 rv.2.1)), ((x 22), .inr (0, o0 rv.2.2))] A) A) ([.ref (x 0), .int p1, .int p2] : List Value).toArray s 0 0 A) (F0 m 32 ls []) := by
        intro n
        induction n with
        | zero => exact fun _ h => (xlp_0 h).elim
        | succ n ih =>
          intro v3 hM H locs ls hP hD hS hl
          obtain ⟨z, hM, hz1, hz2⟩ := xlp_s hM
          unfold s_X6_choice_32 at hM
          refine lv_iload hx hb dX6_choice_32 (lv_at hl 5 rfl) ?_
          refine lv_bipush (v := 32) hx hb dX6_choice_34 (by decide) ?_
          refine lv_icmp_ge (tgt := 83) hx hb dX6_choice_36 (by decide) (fun c4 => ?_) (fun c4 => ?_)
          · have hM := xit c4 hM
            obtain rfl := hz2 _ (Option.some.inj hM).symm
            exact Kv12 _ _ _ hP hD hS (lv_sub hl [2, 3, 4] rfl)
          · have hM := xif c4 hM
            refine lv_aload_n hx hb dX6_choice_39 rfl (lv_at hl 0 rfl) ?_
            refine lv_iload hx hb dX6_choice_40 (lv_at hl 5 rfl) ?_
            obtain ⟨r5, er5, hM⟩ := xbd hM
            refine xafti (rv := r5) (W2 := [((x 0), .inr (6, o6 x u_this)), ((x 3), .inr (4, o4 u_this_yard)), ((x 14), .inl (T.1, 5, .inl u_this_costs)), ((x 21), .inr (4, o4 v3.2.2.2.1)), ((x 22), .inr (0, o0 v3.2.2.2.2))]) (va_runV (As := [.int v3.2.2.1]) (rest := []) ⟨hx, hb, hml, hown, hts⟩ (c_X6_costOf l D T x u_this u_this_costs v3.2.2.1 er5) (cwV 1 hts gX6_choice_X6_costOf rfl rfl rfl (by decide +kernel) ⟨Nat.le_of_ble_eq_true rfl, Nat.le_of_ble_eq_true rfl⟩) (xpvv hP hD hK [0, 2] (by decide) rfl 0 6 rfl rfl (fun _ _ _ => trivial) (fun _ _ _ _ _ _ => trivial)) rfl rfl hl.1 rfl (lv_room (Nat.le_of_ble_eq_true rfl)) dX6_choice_42 ⟨Nat.le_of_ble_eq_true rfl, Nat.le_of_ble_eq_true rfl⟩) hP hD hS hA [0, 2] rfl rfl rfl rfl (fun H locs hP hD hS => ?_)
            refine lv_istore (lv' := [(6, .int r5), (0, .ref (x 0)), (1, .int p1), (2, .int p2), (3, .int v3.1), (4, .int v3.2.1), (5, .int v3.2.2.1)]) hx hb dX6_choice_45 hl (by decide) rfl (fun ls hl => ?_)
            refine lv_iload_n hx hb dX6_choice_47 rfl (lv_at hl 4 rfl) ?_
            refine lv_bipush (v := (-9)) hx hb dX6_choice_48 (by decide) ?_
            refine lv_icmp_eq (tgt := 60) hx hb dX6_choice_50 (by decide) (fun c6 => ?_) (fun c6 => ?_)
            · have hM := xit c6 hM
              refine lv_aload_n hx hb dX6_choice_60 rfl (lv_at hl 1 rfl) ?_
              refine lv_iload hx hb dX6_choice_61 (lv_at hl 6 rfl) ?_
              obtain ⟨r7, er7, hM⟩ := xbd hM
              refine xafti (rv := r7.1) (W2 := [((x 0), .inr (6, o6 x u_this)), ((x 3), .inr (4, o4 u_this_yard)), ((x 14), .inl (T.1, 5, .inl u_this_costs)), ((x 21), .inr (4, o4 r7.2.1)), ((x 22), .inr (0, o0 r7.2.2))]) (va_runV (As := [.int v3.2.2.1]) (rest := []) ⟨hx, hb, hml, hown, hts⟩ (c_X6_cupsBehind l D T x u_this u_this_yard v3.2.2.2.1 v3.2.2.2.2 v3.2.2.1 er7) (cwV 1 hts gX6_choice_X6_cupsBehind rfl rfl rfl (by decide +kernel) ⟨Nat.le_of_ble_eq_true rfl, Nat.le_of_ble_eq_true rfl⟩) (xpvv hP hD hK [0, 1, 3, 4] (by decide) rfl 0 6 rfl rfl (fun _ _ _ => trivial) (fun _ _ _ _ _ _ => trivial)) rfl rfl hl.1 rfl (lv_room (Nat.le_of_ble_eq_true rfl)) dX6_choice_63 ⟨Nat.le_of_ble_eq_true rfl, Nat.le_of_ble_eq_true rfl⟩) hP hD hS hA [0, 1, 3, 4] rfl rfl rfl rfl (fun H locs hP hD hS => ?_)
              refine lv_iload_n hx hb dX6_choice_66 rfl (lv_at hl 2 rfl) ?_
              refine lv_icmp_lt (tgt := 77) hx hb dX6_choice_67 (by decide) (fun c8 => ?_) (fun c8 => ?_)
              · have hM := xit c8 hM
                refine lv_iinc (v := v3.2.2.1 + 1) (lv' := [(5, .int (v3.2.2.1 + 1)), (6, .int r5), (0, .ref (x 0)), (1, .int p1), (2, .int p2), (3, .int v3.1), (4, .int v3.2.1)]) hx hb dX6_choice_77 hl (k := 6) rfl rfl (by decide) rfl (fun ls hl => ?_)
                refine lv_goto (tgt := 32) hx hb dX6_choice_80 (by decide) ?_
                exact ih _ (hz1 _ (Option.some.inj hM).symm) _ _ _ hP hD hS (lv_sub hl [2, 3, 4, 5, 6, 0] rfl)
              · have hM := xif c8 hM
                refine lv_iload hx hb dX6_choice_70 (lv_at hl 6 rfl) ?_
                refine lv_istore_n (lv' := [(3, .int v3.2.2.1), (6, .int r5), (0, .ref (x 0)), (1, .int p1), (2, .int p2), (4, .int v3.2.1), (5, .int v3.2.2.1)]) hx hb dX6_choice_72 rfl hl (by decide) rfl (fun ls hl => ?_)
                refine lv_iload hx hb dX6_choice_73 (lv_at hl 1 rfl) ?_
                refine lv_istore (lv' := [(4, .int r5), (3, .int v3.2.2.1), (6, .int r5), (0, .ref (x 0)), (1, .int p1), (2, .int p2), (5, .int v3.2.2.1)]) hx hb dX6_choice_75 hl (by decide) rfl (fun ls hl => ?_)
                refine lv_iinc (v := v3.2.2.1 + 1) (lv' := [(5, .int (v3.2.2.1 + 1)), (4, .int r5), (3, .int v3.2.2.1), (6, .int r5), (0, .ref (x 0)), (1, .int p1), (2, .int p2)]) hx hb dX6_choice_77 hl (k := 6) rfl rfl (by decide) rfl (fun ls hl => ?_)
                refine lv_goto (tgt := 32) hx hb dX6_choice_80 (by decide) ?_
                exact ih _ (hz1 _ (Option.some.inj hM).symm) _ _ _ hP hD hS (lv_sub hl [4, 5, 6, 2, 1, 0] rfl)
            · have hM := xif c6 hM
              refine lv_iload hx hb dX6_choice_53 (lv_at hl 0 rfl) ?_
              refine lv_iload hx hb dX6_choice_55 (lv_at hl 5 rfl) ?_
              refine lv_icmp_ge (tgt := 77) hx hb dX6_choice_57 (by decide) (fun c9 => ?_) (fun c9 => ?_)
              · have hM := xit c9 hM
                refine lv_iinc (v := v3.2.2.1 + 1) (lv' := [(5, .int (v3.2.2.1 + 1)), (6, .int r5), (0, .ref (x 0)), (1, .int p1), (2, .int p2), (3, .int v3.1), (4, .int v3.2.1)]) hx hb dX6_choice_77 hl (k := 6) rfl rfl (by decide) rfl (fun ls hl => ?_)
                refine lv_goto (tgt := 32) hx hb dX6_choice_80 (by decide) ?_
                exact ih _ (hz1 _ (Option.some.inj hM).symm) _ _ _ hP hD hS (lv_sub hl [2, 3, 4, 5, 6, 0] rfl)
              · have hM := xif c9 hM
                refine lv_aload_n hx hb dX6_choice_60 rfl (lv_at hl 1 rfl) ?_
                refine lv_iload hx hb dX6_choice_61 (lv_at hl 6 rfl) ?_
                obtain ⟨r10, er10, hM⟩ := xbd hM
                refine xafti (rv := r10.1) (W2 := [((x 0), .inr (6, o6 x u_this)), ((x 3), .inr (4, o4 u_this_yard)), ((x 14), .inl (T.1, 5, .inl u_this_costs)), ((x 21), .inr (4, o4 r10.2.1)), ((x 22), .inr (0, o0 r10.2.2))]) (va_runV (As := [.int v3.2.2.1]) (rest := []) ⟨hx, hb, hml, hown, hts⟩ (c_X6_cupsBehind l D T x u_this u_this_yard v3.2.2.2.1 v3.2.2.2.2 v3.2.2.1 er10) (cwV 1 hts gX6_choice_X6_cupsBehind rfl rfl rfl (by decide +kernel) ⟨Nat.le_of_ble_eq_true rfl, Nat.le_of_ble_eq_true rfl⟩) (xpvv hP hD hK [0, 1, 3, 4] (by decide) rfl 0 6 rfl rfl (fun _ _ _ => trivial) (fun _ _ _ _ _ _ => trivial)) rfl rfl hl.1 rfl (lv_room (Nat.le_of_ble_eq_true rfl)) dX6_choice_63 ⟨Nat.le_of_ble_eq_true rfl, Nat.le_of_ble_eq_true rfl⟩) hP hD hS hA [0, 1, 3, 4] rfl rfl rfl rfl (fun H locs hP hD hS => ?_)
                refine lv_iload_n hx hb dX6_choice_66 rfl (lv_at hl 2 rfl) ?_
                refine lv_icmp_lt (tgt := 77) hx hb dX6_choice_67 (by decide) (fun c11 => ?_) (fun c11 => ?_)
                · have hM := xit c11 hM
                  refine lv_iinc (v := v3.2.2.1 + 1) (lv' := [(5, .int (v3.2.2.1 + 1)), (6, .int r5), (0, .ref (x 0)), (1, .int p1), (2, .int p2), (3, .int v3.1), (4, .int v3.2.1)]) hx hb dX6_choice_77 hl (k := 6) rfl rfl (by decide) rfl (fun ls hl => ?_)
                  refine lv_goto (tgt := 32) hx hb dX6_choice_80 (by decide) ?_
                  exact ih _ (hz1 _ (Option.some.inj hM).symm) _ _ _ hP hD hS (lv_sub hl [2, 3, 4, 5, 6, 0] rfl)
                · have hM := xif c11 hM
                  refine lv_iload hx hb dX6_choice_70 (lv_at hl 6 rfl) ?_
                  refine lv_istore_n (lv' := [(3, .int v3.2.2.1), (6, .int r5), (0, .ref (x 0)), (1, .int p1), (2, .int p2), (4, .int v3.2.1), (5, .int v3.2.2.1)]) hx hb dX6_choice_72 rfl hl (by decide) rfl (fun ls hl => ?_)
                  refine lv_iload hx hb dX6_choice_73 (lv_at hl 1 rfl) ?_
                  refine lv_istore (lv' := [(4, .int r5), (3, .int v3.2.2.1), (6, .int r5), (0, .ref (x 0)), (1, .int p1), (2, .int p2), (5, .int v3.2.2.1)]) hx hb dX6_choice_75 hl (by decide) rfl (fun ls hl => ?_)
                  refine lv_iinc (v := v3.2.2.1 + 1) (lv' := [(5, .int (v3.2.2.1 + 1)), (4, .int r5), (3, .int v3.2.2.1), (6, .int r5), (0, .ref (x 0)), (1, .int p1), (2, .int p2)]) hx hb dX6_choice_77 hl (k := 6) rfl rfl (by decide) rfl (fun ls hl => ?_)
                  refine lv_goto (tgt := 32) hx hb dX6_choice_80 (by decide) ?_
                  exact ih _ (hz1 _ (Option.some.inj hM).symm) _ _ _ hP hD hS (lv_sub hl [4, 5, 6, 2, 1, 0] rfl)
      exact Lv3 _ _ hM _ _ _ hP hD hS (lv_sub hl [3, 4, 5, 2, 1, 0] rfl)
    · have hM := xif c2 hM
      refine lv_iconst (v := (-1)) hx hb dX6_choice_20 (by decide) ?_
      obtain rfl := Option.some.inj hM
      exact xreti hx hb hr hlocks hP hK hD hS dX6_choice_21 rfl
def f_X6_sand (u_this : K6) (u_this_sandTried : K1) (u_this_sandTried_paces : (Nat → Int32)) (u_this_sandTried_sandy : (Nat → Int32)) (p1 : Int32) (p2 : Int32) : Option (Int32 × K1 × (Nat → Int32) × (Nat → Int32)) :=
  if (f_X6_outside p1 (1) (200)) = (0) then
   (if (f_X6_outside p2 (0) (1)) = (0) then
     ((f_X1_add u_this_sandTried u_this_sandTried_paces u_this_sandTried_sandy p1 p2).bind fun r3 =>
      some (r3.1, r3.2.1, r3.2.2.1, r3.2.2.2))
    else
     (some ((-1), u_this_sandTried, u_this_sandTried_paces, u_this_sandTried_sandy)))
  else
   (some ((-1), u_this_sandTried, u_this_sandTried_paces, u_this_sandTried_sandy))
set_option maxHeartbeats 4000000 in
set_option maxRecDepth 100000 in
theorem c_X6_sand (l : Launch) (D : va_G) (T : xT) (x : Nat → Nat) {sz : Nat} (u_this : K6) (u_this_sandTried : K1) (u_this_sandTried_paces : (Nat → Int32)) (u_this_sandTried_sandy : (Nat → Int32)) (p1 : Int32) (p2 : Int32) {rv : Int32 × K1 × (Nat → Int32) × (Nat → Int32)} (hM : f_X6_sand u_this u_this_sandTried u_this_sandTried_paces u_this_sandTried_sandy p1 p2 = some rv) : Met l yX6_sand wsX6_sand ({ frames := 1, cells := 0, slots := 0, locals := 22 } : Room) (va_Pc [.ref (x 0), .int p1, .int p2] (xPre D T [((x 0), .inr (6, o6 x u_this)), ((x 15), .inr (1, o1 (x 16) (x 17) u_this_sandTried)), ((x 16), .inl (T.1, 30, .inl u_this_sandTried_paces)), ((x 17), .inl (T.1, 30, .inl u_this_sandTried_sandy))] sz xE0)) (va_Qi (fun (r : Int32) (_ : Unit) => r = rv.1) (fun _ => xPost D T [((x 0), .inr (6, o6 x u_this)), ((x 15), .inr (1, o1 (x 16) (x 17) rv.2.1)), ((x 16), .inl (T.1, 30, .inl rv.2.2.1)), ((x 17), .inl (T.1, 30, .inl rv.2.2.2))] (va_A [((x 0), .inr (6, o6 x u_this)), ((x 15), .inr (1, o1 (x 16) (x 17) u_this_sandTried)), ((x 16), .inl (T.1, 30, .inl u_this_sandTried_paces)), ((x 17), .inl (T.1, 30, .inl u_this_sandTried_sandy))] sz)) (va_A [((x 0), .inr (6, o6 x u_this)), ((x 15), .inr (1, o1 (x 16) (x 17) u_this_sandTried)), ((x 16), .inl (T.1, 30, .inl u_this_sandTried_paces)), ((x 17), .inl (T.1, 30, .inl u_this_sandTried_sandy))] sz)) 0 0 (va_A [((x 0), .inr (6, o6 x u_this)), ((x 15), .inr (1, o1 (x 16) (x 17) u_this_sandTried)), ((x 16), .inl (T.1, 30, .inl u_this_sandTried_paces)), ((x 17), .inl (T.1, 30, .inl u_this_sandTried_sandy))] sz) := by
  refine xMet (av := [.ref (x 0), .int p1, .int p2]) (Wd := [((x 0), .inr (6, o6 x u_this)), ((x 15), .inr (1, o1 (x 16) (x 17) u_this_sandTried)), ((x 16), .inl (T.1, 30, .inl u_this_sandTried_paces)), ((x 17), .inl (T.1, 30, .inl u_this_sandTried_sandy))]) (E := xE0) (Qc := fun A => (va_Qi (fun (r : Int32) (_ : Unit) => r = rv.1) (fun _ => xPost D T [((x 0), .inr (6, o6 x u_this)), ((x 15), .inr (1, o1 (x 16) (x 17) rv.2.1)), ((x 16), .inl (T.1, 30, .inl rv.2.2.1)), ((x 17), .inl (T.1, 30, .inl rv.2.2.2))] A) A)) (cc := cX6_sand) (maxL := 3) (ret := (some .int)) (by decide) rfl (Nat.le_of_ble_eq_true rfl) ?_
  intro p e s m below meth c A ls hx hb hr hml hts hown hlocks hnm hP hK hD hS hA hE hl
  have hown : s.vm.findClass RX6 = some m.cls := hown
  have hl : lv_has ls 3 [(0, .ref (x 0)), (1, .int p1), (2, .int p2)] := hl
  unfold f_X6_sand at hM
  refine lv_iload_n hx hb dX6_sand_0 rfl (lv_at hl 1 rfl) ?_
  refine lv_iconst (v := 1) hx hb dX6_sand_1 (by decide) ?_
  refine lv_sipush (v := 200) hx hb dX6_sand_2 (by decide) ?_
  refine xafti (rv := (f_X6_outside p1 (1) (200))) (W2 := [((x 0), .inr (6, o6 x u_this)), ((x 15), .inr (1, o1 (x 16) (x 17) u_this_sandTried)), ((x 16), .inl (T.1, 30, .inl u_this_sandTried_paces)), ((x 17), .inl (T.1, 30, .inl u_this_sandTried_sandy))]) (va_runS (As := [.int p1, .int (1), .int (200)]) (rest := []) ⟨hx, hb, hml, hown, hts⟩ (c_X6_outside (rv := (f_X6_outside p1 (1) (200))) l D T p1 (1) (200) rfl) (cwS 3 hts gX6_sand_X6_outside rfl rfl rfl (by decide +kernel) ⟨Nat.le_of_ble_eq_true rfl, Nat.le_of_ble_eq_true rfl⟩) (xpvs hP hD hK [] (by decide) rfl (fun _ _ _ => trivial) (fun _ _ _ _ _ _ => trivial)) rfl rfl hl.1 rfl (lv_room (Nat.le_of_ble_eq_true rfl)) dX6_sand_5 ⟨Nat.le_of_ble_eq_true rfl, Nat.le_of_ble_eq_true rfl⟩) hP hD hS hA [] rfl rfl rfl rfl (fun H locs hP hD hS => ?_)
  refine lv_if_ne (tgt := 20) hx hb dX6_sand_8 (by decide) (fun c1 => ?_) (fun c1 => ?_)
  · have hM := xif c1 hM
    refine lv_iconst (v := (-1)) hx hb dX6_sand_20 (by decide) ?_
    obtain rfl := Option.some.inj hM
    exact xreti hx hb hr hlocks hP hK hD hS dX6_sand_21 rfl
  · have hM := xit c1 hM
    refine lv_iload_n hx hb dX6_sand_11 rfl (lv_at hl 2 rfl) ?_
    refine lv_iconst (v := 0) hx hb dX6_sand_12 (by decide) ?_
    refine lv_iconst (v := 1) hx hb dX6_sand_13 (by decide) ?_
    refine xafti (rv := (f_X6_outside p2 (0) (1))) (W2 := [((x 0), .inr (6, o6 x u_this)), ((x 15), .inr (1, o1 (x 16) (x 17) u_this_sandTried)), ((x 16), .inl (T.1, 30, .inl u_this_sandTried_paces)), ((x 17), .inl (T.1, 30, .inl u_this_sandTried_sandy))]) (va_runS (As := [.int p2, .int (0), .int (1)]) (rest := []) ⟨hx, hb, hml, hown, hts⟩ (c_X6_outside (rv := (f_X6_outside p2 (0) (1))) l D T p2 (0) (1) rfl) (cwS 3 hts gX6_sand_X6_outside rfl rfl rfl (by decide +kernel) ⟨Nat.le_of_ble_eq_true rfl, Nat.le_of_ble_eq_true rfl⟩) (xpvs hP hD hK [] (by decide) rfl (fun _ _ _ => trivial) (fun _ _ _ _ _ _ => trivial)) rfl rfl hl.1 rfl (lv_room (Nat.le_of_ble_eq_true rfl)) dX6_sand_14 ⟨Nat.le_of_ble_eq_true rfl, Nat.le_of_ble_eq_true rfl⟩) hP hD hS hA [] rfl rfl rfl rfl (fun H locs hP hD hS => ?_)
    refine lv_if_eq (tgt := 22) hx hb dX6_sand_17 (by decide) (fun c2 => ?_) (fun c2 => ?_)
    · have hM := xit c2 hM
      refine lv_aload_n hx hb dX6_sand_22 rfl (lv_at hl 0 rfl) ?_
      refine va_get (D := D) (ci := 6) (v := .ref (x 15)) (C := RX6) (T := TX6) (N := 16) hx hb hts (fun w h => List.mem_cons_of_mem _ (List.mem_append_left _ (List.mem_append_right _ h))) hown hK hP 0 rfl rfl 8 (by decide) (hts _ (List.mem_of_getElem? (i := 1) rfl)) (fun _ h9 => h9) rfl dX6_sand_23 ?_
      refine lv_iload_n hx hb dX6_sand_26 rfl (lv_at hl 1 rfl) ?_
      refine lv_iload_n hx hb dX6_sand_27 rfl (lv_at hl 2 rfl) ?_
      obtain ⟨r3, er3, hM⟩ := xbd hM
      refine xafti (rv := r3.1) (W2 := [((x 0), .inr (6, o6 x u_this)), ((x 15), .inr (1, o1 (x 16) (x 17) r3.2.1)), ((x 16), .inl (T.1, 30, .inl r3.2.2.1)), ((x 17), .inl (T.1, 30, .inl r3.2.2.2))]) (va_runV (As := [.int p1, .int p2]) (rest := []) ⟨hx, hb, hml, hown, hts⟩ (c_X1_add l D T (x 15) (x 16) (x 17) u_this_sandTried u_this_sandTried_paces u_this_sandTried_sandy p1 p2 er3) (cwV 2 hts gX6_sand_X1_add rfl rfl rfl (by decide +kernel) ⟨Nat.le_of_ble_eq_true rfl, Nat.le_of_ble_eq_true rfl⟩) (xpvv hP hD hK [1, 2, 3] (by decide) rfl 0 1 rfl rfl (fun _ _ _ => trivial) (fun _ _ _ _ _ _ => trivial)) rfl rfl hl.1 rfl (lv_room (Nat.le_of_ble_eq_true rfl)) dX6_sand_28 ⟨Nat.le_of_ble_eq_true rfl, Nat.le_of_ble_eq_true rfl⟩) hP hD hS hA [1, 2, 3] rfl rfl rfl rfl (fun H locs hP hD hS => ?_)
      obtain rfl := Option.some.inj hM
      exact xreti hx hb hr hlocks hP hK hD hS dX6_sand_31 rfl
    · have hM := xif c2 hM
      refine lv_iconst (v := (-1)) hx hb dX6_sand_20 (by decide) ?_
      obtain rfl := Option.some.inj hM
      exact xreti hx hb hr hlocks hP hK hD hS dX6_sand_21 rfl
def f_X6_line (N : Nat) (u_this : K6) (u_this_sandTried : K1) (u_this_sandTried_paces : (Nat → Int32)) (u_this_sandTried_sandy : (Nat → Int32)) (p1 : Int32) : Option (Int32) :=
  if (f_X6_outside p1 (0) (2)) = (0) then
   ((f_X1_greatestClean N u_this_sandTried u_this_sandTried_paces u_this_sandTried_sandy).bind fun r2 =>
    (f_X1_leastSandy N u_this_sandTried u_this_sandTried_paces u_this_sandTried_sandy).bind fun r3 =>
    if p1 = (0) then
     (some r2)
    else
     (if p1 = (1) then
       (some r3)
      else
       (if r2 = (0) then
         (some (1))
        else
         (if r3 = (-9) then
           (some (1))
          else
           (if r3 ≤ r2 then
             (some (0))
            else
             (some (1)))))))
  else
   (some (-1))
set_option maxHeartbeats 4000000 in
set_option maxRecDepth 100000 in
theorem c_X6_line (l : Launch) (D : va_G) (T : xT) (x : Nat → Nat) {sz : Nat} {N : Nat} (u_this : K6) (u_this_sandTried : K1) (u_this_sandTried_paces : (Nat → Int32)) (u_this_sandTried_sandy : (Nat → Int32)) (p1 : Int32) {rv : Int32} (hM : f_X6_line N u_this u_this_sandTried u_this_sandTried_paces u_this_sandTried_sandy p1 = some rv) : Met l yX6_line wsX6_line ({ frames := 2, cells := 0, slots := 0, locals := 35 } : Room) (va_Pc [.ref (x 0), .int p1] (xPre D T [((x 0), .inr (6, o6 x u_this)), ((x 15), .inr (1, o1 (x 16) (x 17) u_this_sandTried)), ((x 16), .inl (T.1, 30, .inl u_this_sandTried_paces)), ((x 17), .inl (T.1, 30, .inl u_this_sandTried_sandy))] sz xE0)) (va_Qi (fun (r : Int32) (_ : Unit) => r = rv) (fun _ => xPost D T [((x 0), .inr (6, o6 x u_this)), ((x 15), .inr (1, o1 (x 16) (x 17) u_this_sandTried)), ((x 16), .inl (T.1, 30, .inl u_this_sandTried_paces)), ((x 17), .inl (T.1, 30, .inl u_this_sandTried_sandy))] (va_A [((x 0), .inr (6, o6 x u_this)), ((x 15), .inr (1, o1 (x 16) (x 17) u_this_sandTried)), ((x 16), .inl (T.1, 30, .inl u_this_sandTried_paces)), ((x 17), .inl (T.1, 30, .inl u_this_sandTried_sandy))] sz)) (va_A [((x 0), .inr (6, o6 x u_this)), ((x 15), .inr (1, o1 (x 16) (x 17) u_this_sandTried)), ((x 16), .inl (T.1, 30, .inl u_this_sandTried_paces)), ((x 17), .inl (T.1, 30, .inl u_this_sandTried_sandy))] sz)) 0 0 (va_A [((x 0), .inr (6, o6 x u_this)), ((x 15), .inr (1, o1 (x 16) (x 17) u_this_sandTried)), ((x 16), .inl (T.1, 30, .inl u_this_sandTried_paces)), ((x 17), .inl (T.1, 30, .inl u_this_sandTried_sandy))] sz) := by
  refine xMet (av := [.ref (x 0), .int p1]) (Wd := [((x 0), .inr (6, o6 x u_this)), ((x 15), .inr (1, o1 (x 16) (x 17) u_this_sandTried)), ((x 16), .inl (T.1, 30, .inl u_this_sandTried_paces)), ((x 17), .inl (T.1, 30, .inl u_this_sandTried_sandy))]) (E := xE0) (Qc := fun A => (va_Qi (fun (r : Int32) (_ : Unit) => r = rv) (fun _ => xPost D T [((x 0), .inr (6, o6 x u_this)), ((x 15), .inr (1, o1 (x 16) (x 17) u_this_sandTried)), ((x 16), .inl (T.1, 30, .inl u_this_sandTried_paces)), ((x 17), .inl (T.1, 30, .inl u_this_sandTried_sandy))] A) A)) (cc := cX6_line) (maxL := 4) (ret := (some .int)) (by decide) rfl (Nat.le_of_ble_eq_true rfl) ?_
  intro p e s m below meth c A ls hx hb hr hml hts hown hlocks hnm hP hK hD hS hA hE hl
  have hown : s.vm.findClass RX6 = some m.cls := hown
  have hl : lv_has ls 4 [(0, .ref (x 0)), (1, .int p1)] := hl
  unfold f_X6_line at hM
  refine lv_iload_n hx hb dX6_line_0 rfl (lv_at hl 1 rfl) ?_
  refine lv_iconst (v := 0) hx hb dX6_line_1 (by decide) ?_
  refine lv_iconst (v := 2) hx hb dX6_line_2 (by decide) ?_
  refine xafti (rv := (f_X6_outside p1 (0) (2))) (W2 := [((x 0), .inr (6, o6 x u_this)), ((x 15), .inr (1, o1 (x 16) (x 17) u_this_sandTried)), ((x 16), .inl (T.1, 30, .inl u_this_sandTried_paces)), ((x 17), .inl (T.1, 30, .inl u_this_sandTried_sandy))]) (va_runS (As := [.int p1, .int (0), .int (2)]) (rest := []) ⟨hx, hb, hml, hown, hts⟩ (c_X6_outside (rv := (f_X6_outside p1 (0) (2))) l D T p1 (0) (2) rfl) (cwS 3 hts gX6_line_X6_outside rfl rfl rfl (by decide +kernel) ⟨Nat.le_of_ble_eq_true rfl, Nat.le_of_ble_eq_true rfl⟩) (xpvs hP hD hK [] (by decide) rfl (fun _ _ _ => trivial) (fun _ _ _ _ _ _ => trivial)) rfl rfl hl.1 rfl (lv_room (Nat.le_of_ble_eq_true rfl)) dX6_line_3 ⟨Nat.le_of_ble_eq_true rfl, Nat.le_of_ble_eq_true rfl⟩) hP hD hS hA [] rfl rfl rfl rfl (fun H locs hP hD hS => ?_)
  refine lv_if_eq (tgt := 11) hx hb dX6_line_6 (by decide) (fun c1 => ?_) (fun c1 => ?_)
  · have hM := xit c1 hM
    refine lv_aload_n hx hb dX6_line_11 rfl (lv_at hl 0 rfl) ?_
    refine va_get (D := D) (ci := 6) (v := .ref (x 15)) (C := RX6) (T := TX6) (N := 16) hx hb hts (fun w h => List.mem_cons_of_mem _ (List.mem_append_left _ (List.mem_append_right _ h))) hown hK hP 0 rfl rfl 8 (by decide) (hts _ (List.mem_of_getElem? (i := 1) rfl)) (fun _ h9 => h9) rfl dX6_line_12 ?_
    obtain ⟨r2, er2, hM⟩ := xbd hM
    refine xafti (rv := r2) (W2 := [((x 0), .inr (6, o6 x u_this)), ((x 15), .inr (1, o1 (x 16) (x 17) u_this_sandTried)), ((x 16), .inl (T.1, 30, .inl u_this_sandTried_paces)), ((x 17), .inl (T.1, 30, .inl u_this_sandTried_sandy))]) (va_runV (As := []) (rest := []) ⟨hx, hb, hml, hown, hts⟩ (c_X1_greatestClean l D T (x 15) (x 16) (x 17) u_this_sandTried u_this_sandTried_paces u_this_sandTried_sandy er2) (cwV 0 hts gX6_line_X1_greatestClean rfl rfl rfl (by decide +kernel) ⟨Nat.le_of_ble_eq_true rfl, Nat.le_of_ble_eq_true rfl⟩) (xpvv hP hD hK [1, 2, 3] (by decide) rfl 0 1 rfl rfl (fun _ _ _ => trivial) (fun _ _ _ _ _ _ => trivial)) rfl rfl hl.1 rfl (lv_room (Nat.le_of_ble_eq_true rfl)) dX6_line_15 ⟨Nat.le_of_ble_eq_true rfl, Nat.le_of_ble_eq_true rfl⟩) hP hD hS hA [1, 2, 3] rfl rfl rfl rfl (fun H locs hP hD hS => ?_)
    refine lv_istore_n (lv' := [(2, .int r2), (0, .ref (x 0)), (1, .int p1)]) hx hb dX6_line_18 rfl hl (by decide) rfl (fun ls hl => ?_)
    refine lv_aload_n hx hb dX6_line_19 rfl (lv_at hl 1 rfl) ?_
    refine va_get (D := D) (ci := 6) (v := .ref (x 15)) (C := RX6) (T := TX6) (N := 16) hx hb hts (fun w h => List.mem_cons_of_mem _ (List.mem_append_left _ (List.mem_append_right _ h))) hown hK hP 0 rfl rfl 8 (by decide) (hts _ (List.mem_of_getElem? (i := 1) rfl)) (fun _ h9 => h9) rfl dX6_line_20 ?_
    obtain ⟨r3, er3, hM⟩ := xbd hM
    refine xafti (rv := r3) (W2 := [((x 0), .inr (6, o6 x u_this)), ((x 15), .inr (1, o1 (x 16) (x 17) u_this_sandTried)), ((x 16), .inl (T.1, 30, .inl u_this_sandTried_paces)), ((x 17), .inl (T.1, 30, .inl u_this_sandTried_sandy))]) (va_runV (As := []) (rest := []) ⟨hx, hb, hml, hown, hts⟩ (c_X1_leastSandy l D T (x 15) (x 16) (x 17) u_this_sandTried u_this_sandTried_paces u_this_sandTried_sandy er3) (cwV 0 hts gX6_line_X1_leastSandy rfl rfl rfl (by decide +kernel) ⟨Nat.le_of_ble_eq_true rfl, Nat.le_of_ble_eq_true rfl⟩) (xpvv hP hD hK [1, 2, 3] (by decide) rfl 0 1 rfl rfl (fun _ _ _ => trivial) (fun _ _ _ _ _ _ => trivial)) rfl rfl hl.1 rfl (lv_room (Nat.le_of_ble_eq_true rfl)) dX6_line_23 ⟨Nat.le_of_ble_eq_true rfl, Nat.le_of_ble_eq_true rfl⟩) hP hD hS hA [1, 2, 3] rfl rfl rfl rfl (fun H locs hP hD hS => ?_)
    refine lv_istore_n (lv' := [(3, .int r3), (2, .int r2), (0, .ref (x 0)), (1, .int p1)]) hx hb dX6_line_26 rfl hl (by decide) rfl (fun ls hl => ?_)
    refine lv_iload_n hx hb dX6_line_27 rfl (lv_at hl 3 rfl) ?_
    refine lv_if_ne (tgt := 33) hx hb dX6_line_28 (by decide) (fun c4 => ?_) (fun c4 => ?_)
    · have hM := xif c4 hM
      refine lv_iload_n hx hb dX6_line_33 rfl (lv_at hl 3 rfl) ?_
      refine lv_iconst (v := 1) hx hb dX6_line_34 (by decide) ?_
      refine lv_icmp_ne (tgt := 40) hx hb dX6_line_35 (by decide) (fun c5 => ?_) (fun c5 => ?_)
      · have hM := xif c5 hM
        refine lv_iload_n hx hb dX6_line_40 rfl (lv_at hl 1 rfl) ?_
        refine lv_if_eq (tgt := 55) hx hb dX6_line_41 (by decide) (fun c6 => ?_) (fun c6 => ?_)
        · have hM := xit c6 hM
          refine lv_iconst (v := 1) hx hb dX6_line_55 (by decide) ?_
          refine lv_goto (tgt := 60) hx hb dX6_line_56 (by decide) ?_
          obtain rfl := Option.some.inj hM
          exact xreti hx hb hr hlocks hP hK hD hS dX6_line_60 rfl
        · have hM := xif c6 hM
          refine lv_iload_n hx hb dX6_line_44 rfl (lv_at hl 0 rfl) ?_
          refine lv_bipush (v := (-9)) hx hb dX6_line_45 (by decide) ?_
          refine lv_icmp_eq (tgt := 55) hx hb dX6_line_47 (by decide) (fun c7 => ?_) (fun c7 => ?_)
          · have hM := xit c7 hM
            refine lv_iconst (v := 1) hx hb dX6_line_55 (by decide) ?_
            refine lv_goto (tgt := 60) hx hb dX6_line_56 (by decide) ?_
            obtain rfl := Option.some.inj hM
            exact xreti hx hb hr hlocks hP hK hD hS dX6_line_60 rfl
          · have hM := xif c7 hM
            refine lv_iload_n hx hb dX6_line_50 rfl (lv_at hl 1 rfl) ?_
            refine lv_iload_n hx hb dX6_line_51 rfl (lv_at hl 0 rfl) ?_
            refine lv_icmp_ge (tgt := 59) hx hb dX6_line_52 (by decide) (fun c8 => ?_) (fun c8 => ?_)
            · have hM := xit c8 hM
              refine lv_iconst (v := 0) hx hb dX6_line_59 (by decide) ?_
              obtain rfl := Option.some.inj hM
              exact xreti hx hb hr hlocks hP hK hD hS dX6_line_60 rfl
            · have hM := xif c8 hM
              refine lv_iconst (v := 1) hx hb dX6_line_55 (by decide) ?_
              refine lv_goto (tgt := 60) hx hb dX6_line_56 (by decide) ?_
              obtain rfl := Option.some.inj hM
              exact xreti hx hb hr hlocks hP hK hD hS dX6_line_60 rfl
      · have hM := xit c5 hM
        refine lv_iload_n hx hb dX6_line_38 rfl (lv_at hl 0 rfl) ?_
        obtain rfl := Option.some.inj hM
        exact xreti hx hb hr hlocks hP hK hD hS dX6_line_39 rfl
    · have hM := xit c4 hM
      refine lv_iload_n hx hb dX6_line_31 rfl (lv_at hl 1 rfl) ?_
      obtain rfl := Option.some.inj hM
      exact xreti hx hb hr hlocks hP hK hD hS dX6_line_32 rfl
  · have hM := xif c1 hM
    refine lv_iconst (v := (-1)) hx hb dX6_line_9 (by decide) ?_
    obtain rfl := Option.some.inj hM
    exact xreti hx hb hr hlocks hP hK hD hS dX6_line_10 rfl
def f_X6_year (u_this : K6) (u_this_years : K5) (u_this_years_springs : (Nat → Int32)) (u_this_years_summers : (Nat → Int32)) (p1 : Int32) (p2 : Int32) : Option (Int32 × K5 × (Nat → Int32) × (Nat → Int32)) :=
  if (f_X6_outside p1 (0) (999)) = (0) then
   (if (f_X6_outside p2 (0) (999)) = (0) then
     ((f_X5_add u_this_years u_this_years_springs u_this_years_summers p1 p2).bind fun r3 =>
      some (r3.1, r3.2.1, r3.2.2.1, r3.2.2.2))
    else
     (some ((-1), u_this_years, u_this_years_springs, u_this_years_summers)))
  else
   (some ((-1), u_this_years, u_this_years_springs, u_this_years_summers))
set_option maxHeartbeats 4000000 in
set_option maxRecDepth 100000 in
theorem c_X6_year (l : Launch) (D : va_G) (T : xT) (x : Nat → Nat) {sz : Nat} (u_this : K6) (u_this_years : K5) (u_this_years_springs : (Nat → Int32)) (u_this_years_summers : (Nat → Int32)) (p1 : Int32) (p2 : Int32) {rv : Int32 × K5 × (Nat → Int32) × (Nat → Int32)} (hM : f_X6_year u_this u_this_years u_this_years_springs u_this_years_summers p1 p2 = some rv) : Met l yX6_year wsX6_year ({ frames := 1, cells := 0, slots := 0, locals := 22 } : Room) (va_Pc [.ref (x 0), .int p1, .int p2] (xPre D T [((x 0), .inr (6, o6 x u_this)), ((x 18), .inr (5, o5 (x 19) (x 20) u_this_years)), ((x 19), .inl (T.1, 20, .inl u_this_years_springs)), ((x 20), .inl (T.1, 20, .inl u_this_years_summers))] sz xE0)) (va_Qi (fun (r : Int32) (_ : Unit) => r = rv.1) (fun _ => xPost D T [((x 0), .inr (6, o6 x u_this)), ((x 18), .inr (5, o5 (x 19) (x 20) rv.2.1)), ((x 19), .inl (T.1, 20, .inl rv.2.2.1)), ((x 20), .inl (T.1, 20, .inl rv.2.2.2))] (va_A [((x 0), .inr (6, o6 x u_this)), ((x 18), .inr (5, o5 (x 19) (x 20) u_this_years)), ((x 19), .inl (T.1, 20, .inl u_this_years_springs)), ((x 20), .inl (T.1, 20, .inl u_this_years_summers))] sz)) (va_A [((x 0), .inr (6, o6 x u_this)), ((x 18), .inr (5, o5 (x 19) (x 20) u_this_years)), ((x 19), .inl (T.1, 20, .inl u_this_years_springs)), ((x 20), .inl (T.1, 20, .inl u_this_years_summers))] sz)) 0 0 (va_A [((x 0), .inr (6, o6 x u_this)), ((x 18), .inr (5, o5 (x 19) (x 20) u_this_years)), ((x 19), .inl (T.1, 20, .inl u_this_years_springs)), ((x 20), .inl (T.1, 20, .inl u_this_years_summers))] sz) := by
  refine xMet (av := [.ref (x 0), .int p1, .int p2]) (Wd := [((x 0), .inr (6, o6 x u_this)), ((x 18), .inr (5, o5 (x 19) (x 20) u_this_years)), ((x 19), .inl (T.1, 20, .inl u_this_years_springs)), ((x 20), .inl (T.1, 20, .inl u_this_years_summers))]) (E := xE0) (Qc := fun A => (va_Qi (fun (r : Int32) (_ : Unit) => r = rv.1) (fun _ => xPost D T [((x 0), .inr (6, o6 x u_this)), ((x 18), .inr (5, o5 (x 19) (x 20) rv.2.1)), ((x 19), .inl (T.1, 20, .inl rv.2.2.1)), ((x 20), .inl (T.1, 20, .inl rv.2.2.2))] A) A)) (cc := cX6_year) (maxL := 3) (ret := (some .int)) (by decide) rfl (Nat.le_of_ble_eq_true rfl) ?_
  intro p e s m below meth c A ls hx hb hr hml hts hown hlocks hnm hP hK hD hS hA hE hl
  have hown : s.vm.findClass RX6 = some m.cls := hown
  have hl : lv_has ls 3 [(0, .ref (x 0)), (1, .int p1), (2, .int p2)] := hl
  unfold f_X6_year at hM
  refine lv_iload_n hx hb dX6_year_0 rfl (lv_at hl 1 rfl) ?_
  refine lv_iconst (v := 0) hx hb dX6_year_1 (by decide) ?_
  refine lv_sipush (v := 999) hx hb dX6_year_2 (by decide) ?_
  refine xafti (rv := (f_X6_outside p1 (0) (999))) (W2 := [((x 0), .inr (6, o6 x u_this)), ((x 18), .inr (5, o5 (x 19) (x 20) u_this_years)), ((x 19), .inl (T.1, 20, .inl u_this_years_springs)), ((x 20), .inl (T.1, 20, .inl u_this_years_summers))]) (va_runS (As := [.int p1, .int (0), .int (999)]) (rest := []) ⟨hx, hb, hml, hown, hts⟩ (c_X6_outside (rv := (f_X6_outside p1 (0) (999))) l D T p1 (0) (999) rfl) (cwS 3 hts gX6_year_X6_outside rfl rfl rfl (by decide +kernel) ⟨Nat.le_of_ble_eq_true rfl, Nat.le_of_ble_eq_true rfl⟩) (xpvs hP hD hK [] (by decide) rfl (fun _ _ _ => trivial) (fun _ _ _ _ _ _ => trivial)) rfl rfl hl.1 rfl (lv_room (Nat.le_of_ble_eq_true rfl)) dX6_year_5 ⟨Nat.le_of_ble_eq_true rfl, Nat.le_of_ble_eq_true rfl⟩) hP hD hS hA [] rfl rfl rfl rfl (fun H locs hP hD hS => ?_)
  refine lv_if_ne (tgt := 22) hx hb dX6_year_8 (by decide) (fun c1 => ?_) (fun c1 => ?_)
  · have hM := xif c1 hM
    refine lv_iconst (v := (-1)) hx hb dX6_year_22 (by decide) ?_
    obtain rfl := Option.some.inj hM
    exact xreti hx hb hr hlocks hP hK hD hS dX6_year_23 rfl
  · have hM := xit c1 hM
    refine lv_iload_n hx hb dX6_year_11 rfl (lv_at hl 2 rfl) ?_
    refine lv_iconst (v := 0) hx hb dX6_year_12 (by decide) ?_
    refine lv_sipush (v := 999) hx hb dX6_year_13 (by decide) ?_
    refine xafti (rv := (f_X6_outside p2 (0) (999))) (W2 := [((x 0), .inr (6, o6 x u_this)), ((x 18), .inr (5, o5 (x 19) (x 20) u_this_years)), ((x 19), .inl (T.1, 20, .inl u_this_years_springs)), ((x 20), .inl (T.1, 20, .inl u_this_years_summers))]) (va_runS (As := [.int p2, .int (0), .int (999)]) (rest := []) ⟨hx, hb, hml, hown, hts⟩ (c_X6_outside (rv := (f_X6_outside p2 (0) (999))) l D T p2 (0) (999) rfl) (cwS 3 hts gX6_year_X6_outside rfl rfl rfl (by decide +kernel) ⟨Nat.le_of_ble_eq_true rfl, Nat.le_of_ble_eq_true rfl⟩) (xpvs hP hD hK [] (by decide) rfl (fun _ _ _ => trivial) (fun _ _ _ _ _ _ => trivial)) rfl rfl hl.1 rfl (lv_room (Nat.le_of_ble_eq_true rfl)) dX6_year_16 ⟨Nat.le_of_ble_eq_true rfl, Nat.le_of_ble_eq_true rfl⟩) hP hD hS hA [] rfl rfl rfl rfl (fun H locs hP hD hS => ?_)
    refine lv_if_eq (tgt := 24) hx hb dX6_year_19 (by decide) (fun c2 => ?_) (fun c2 => ?_)
    · have hM := xit c2 hM
      refine lv_aload_n hx hb dX6_year_24 rfl (lv_at hl 0 rfl) ?_
      refine va_get (D := D) (ci := 6) (v := .ref (x 18)) (C := RX6) (T := TX6) (N := 16) hx hb hts (fun w h => List.mem_cons_of_mem _ (List.mem_append_left _ (List.mem_append_right _ h))) hown hK hP 0 rfl rfl 9 (by decide) (hts _ (List.mem_of_getElem? (i := 1) rfl)) (fun _ h9 => h9) rfl dX6_year_25 ?_
      refine lv_iload_n hx hb dX6_year_28 rfl (lv_at hl 1 rfl) ?_
      refine lv_iload_n hx hb dX6_year_29 rfl (lv_at hl 2 rfl) ?_
      obtain ⟨r3, er3, hM⟩ := xbd hM
      refine xafti (rv := r3.1) (W2 := [((x 0), .inr (6, o6 x u_this)), ((x 18), .inr (5, o5 (x 19) (x 20) r3.2.1)), ((x 19), .inl (T.1, 20, .inl r3.2.2.1)), ((x 20), .inl (T.1, 20, .inl r3.2.2.2))]) (va_runV (As := [.int p1, .int p2]) (rest := []) ⟨hx, hb, hml, hown, hts⟩ (c_X5_add l D T (x 18) (x 19) (x 20) u_this_years u_this_years_springs u_this_years_summers p1 p2 er3) (cwV 2 hts gX6_year_X5_add rfl rfl rfl (by decide +kernel) ⟨Nat.le_of_ble_eq_true rfl, Nat.le_of_ble_eq_true rfl⟩) (xpvv hP hD hK [1, 2, 3] (by decide) rfl 0 5 rfl rfl (fun _ _ _ => trivial) (fun _ _ _ _ _ _ => trivial)) rfl rfl hl.1 rfl (lv_room (Nat.le_of_ble_eq_true rfl)) dX6_year_30 ⟨Nat.le_of_ble_eq_true rfl, Nat.le_of_ble_eq_true rfl⟩) hP hD hS hA [1, 2, 3] rfl rfl rfl rfl (fun H locs hP hD hS => ?_)
      obtain rfl := Option.some.inj hM
      exact xreti hx hb hr hlocks hP hK hD hS dX6_year_33 rfl
    · have hM := xif c2 hM
      refine lv_iconst (v := (-1)) hx hb dX6_year_22 (by decide) ?_
      obtain rfl := Option.some.inj hM
      exact xreti hx hb hr hlocks hP hK hD hS dX6_year_23 rfl
def f_X6_ahead (N : Nat) (u_this : K6) (u_this_years : K5) (u_this_years_springs : (Nat → Int32)) (u_this_years_summers : (Nat → Int32)) (p1 : Int32) (p2 : Int32) : Option (Int64) :=
  if (f_X6_outside p1 (0) (999)) = (0) then
   (if (f_X6_outside p2 (0) (3)) = (0) then
     ((f_X5_look N u_this_years u_this_years_springs u_this_years_summers p1 p2).bind fun r3 =>
      some r3)
    else
     (some (-1000000000000000000)))
  else
   (some (-1000000000000000000))
set_option maxHeartbeats 4000000 in
set_option maxRecDepth 100000 in
theorem c_X6_ahead (l : Launch) (D : va_G) (T : xT) (k : xK) (x : Nat → Nat) {sz : Nat} {N : Nat} (u_this : K6) (u_this_years : K5) (u_this_years_springs : (Nat → Int32)) (u_this_years_summers : (Nat → Int32)) (p1 : Int32) (p2 : Int32) {rv : Int64} (hM : f_X6_ahead N u_this u_this_years u_this_years_springs u_this_years_summers p1 p2 = some rv) : Met l yX6_ahead wsX6_ahead ({ frames := 3, cells := 0, slots := 0, locals := 90 } : Room) (va_Pc [.ref (x 0), .int p1, .int p2] (xPre D T [((x 0), .inr (6, o6 x u_this)), ((x 18), .inr (5, o5 (x 19) (x 20) u_this_years)), ((x 19), .inl (T.1, 20, .inl u_this_years_springs)), ((x 20), .inl (T.1, 20, .inl u_this_years_summers))] sz (xE1 k))) (va_Ql (fun (r : Int64) (_ : Unit) => r = rv) (fun _ => xPost D T [((x 0), .inr (6, o6 x u_this)), ((x 18), .inr (5, o5 (x 19) (x 20) u_this_years)), ((x 19), .inl (T.1, 20, .inl u_this_years_springs)), ((x 20), .inl (T.1, 20, .inl u_this_years_summers))] (va_A [((x 0), .inr (6, o6 x u_this)), ((x 18), .inr (5, o5 (x 19) (x 20) u_this_years)), ((x 19), .inl (T.1, 20, .inl u_this_years_springs)), ((x 20), .inl (T.1, 20, .inl u_this_years_summers))] sz)) (va_A [((x 0), .inr (6, o6 x u_this)), ((x 18), .inr (5, o5 (x 19) (x 20) u_this_years)), ((x 19), .inl (T.1, 20, .inl u_this_years_springs)), ((x 20), .inl (T.1, 20, .inl u_this_years_summers))] sz)) 0 0 (va_A [((x 0), .inr (6, o6 x u_this)), ((x 18), .inr (5, o5 (x 19) (x 20) u_this_years)), ((x 19), .inl (T.1, 20, .inl u_this_years_springs)), ((x 20), .inl (T.1, 20, .inl u_this_years_summers))] sz) := by
  refine xMet (av := [.ref (x 0), .int p1, .int p2]) (Wd := [((x 0), .inr (6, o6 x u_this)), ((x 18), .inr (5, o5 (x 19) (x 20) u_this_years)), ((x 19), .inl (T.1, 20, .inl u_this_years_springs)), ((x 20), .inl (T.1, 20, .inl u_this_years_summers))]) (E := (xE1 k)) (Qc := fun A => (va_Ql (fun (r : Int64) (_ : Unit) => r = rv) (fun _ => xPost D T [((x 0), .inr (6, o6 x u_this)), ((x 18), .inr (5, o5 (x 19) (x 20) u_this_years)), ((x 19), .inl (T.1, 20, .inl u_this_years_springs)), ((x 20), .inl (T.1, 20, .inl u_this_years_summers))] A) A)) (cc := cX6_ahead) (maxL := 3) (ret := (some .long)) (by decide) rfl (Nat.le_of_ble_eq_true rfl) ?_
  intro p e s m below meth c A ls hx hb hr hml hts hown hlocks hnm hP hK hD hS hA hE hl
  have hown : s.vm.findClass RX6 = some m.cls := hown
  have hl : lv_has ls 3 [(0, .ref (x 0)), (1, .int p1), (2, .int p2)] := hl
  unfold f_X6_ahead at hM
  refine lv_iload_n hx hb dX6_ahead_0 rfl (lv_at hl 1 rfl) ?_
  refine lv_iconst (v := 0) hx hb dX6_ahead_1 (by decide) ?_
  refine lv_sipush (v := 999) hx hb dX6_ahead_2 (by decide) ?_
  refine xafti (rv := (f_X6_outside p1 (0) (999))) (W2 := [((x 0), .inr (6, o6 x u_this)), ((x 18), .inr (5, o5 (x 19) (x 20) u_this_years)), ((x 19), .inl (T.1, 20, .inl u_this_years_springs)), ((x 20), .inl (T.1, 20, .inl u_this_years_summers))]) (va_runS (As := [.int p1, .int (0), .int (999)]) (rest := []) ⟨hx, hb, hml, hown, hts⟩ (c_X6_outside (rv := (f_X6_outside p1 (0) (999))) l D T p1 (0) (999) rfl) (cwS 3 hts gX6_ahead_X6_outside rfl rfl rfl (by decide +kernel) ⟨Nat.le_of_ble_eq_true rfl, Nat.le_of_ble_eq_true rfl⟩) (xpvs hP hD hK [] (by decide) rfl (fun _ _ _ => trivial) (fun _ _ _ _ _ _ => trivial)) rfl rfl hl.1 rfl (lv_room (Nat.le_of_ble_eq_true rfl)) dX6_ahead_5 ⟨Nat.le_of_ble_eq_true rfl, Nat.le_of_ble_eq_true rfl⟩) hP hD hS hA [] rfl rfl rfl rfl (fun H locs hP hD hS => ?_)
  refine lv_if_ne (tgt := 20) hx hb dX6_ahead_8 (by decide) (fun c1 => ?_) (fun c1 => ?_)
  · have hM := xif c1 hM
    refine lv_ldc2 (v := (-1000000000000000000)) hx hb hown (hts _ (List.mem_of_getElem? (i := 1) rfl)) dX6_ahead_20 ?_
    obtain rfl := Option.some.inj hM
    exact xretl hx hb hr hlocks hP hK hD hS dX6_ahead_23 rfl
  · have hM := xit c1 hM
    refine lv_iload_n hx hb dX6_ahead_11 rfl (lv_at hl 2 rfl) ?_
    refine lv_iconst (v := 0) hx hb dX6_ahead_12 (by decide) ?_
    refine lv_iconst (v := 3) hx hb dX6_ahead_13 (by decide) ?_
    refine xafti (rv := (f_X6_outside p2 (0) (3))) (W2 := [((x 0), .inr (6, o6 x u_this)), ((x 18), .inr (5, o5 (x 19) (x 20) u_this_years)), ((x 19), .inl (T.1, 20, .inl u_this_years_springs)), ((x 20), .inl (T.1, 20, .inl u_this_years_summers))]) (va_runS (As := [.int p2, .int (0), .int (3)]) (rest := []) ⟨hx, hb, hml, hown, hts⟩ (c_X6_outside (rv := (f_X6_outside p2 (0) (3))) l D T p2 (0) (3) rfl) (cwS 3 hts gX6_ahead_X6_outside rfl rfl rfl (by decide +kernel) ⟨Nat.le_of_ble_eq_true rfl, Nat.le_of_ble_eq_true rfl⟩) (xpvs hP hD hK [] (by decide) rfl (fun _ _ _ => trivial) (fun _ _ _ _ _ _ => trivial)) rfl rfl hl.1 rfl (lv_room (Nat.le_of_ble_eq_true rfl)) dX6_ahead_14 ⟨Nat.le_of_ble_eq_true rfl, Nat.le_of_ble_eq_true rfl⟩) hP hD hS hA [] rfl rfl rfl rfl (fun H locs hP hD hS => ?_)
    refine lv_if_eq (tgt := 24) hx hb dX6_ahead_17 (by decide) (fun c2 => ?_) (fun c2 => ?_)
    · have hM := xit c2 hM
      refine lv_aload_n hx hb dX6_ahead_24 rfl (lv_at hl 0 rfl) ?_
      refine va_get (D := D) (ci := 6) (v := .ref (x 18)) (C := RX6) (T := TX6) (N := 16) hx hb hts (fun w h => List.mem_cons_of_mem _ (List.mem_append_left _ (List.mem_append_right _ h))) hown hK hP 0 rfl rfl 9 (by decide) (hts _ (List.mem_of_getElem? (i := 2) rfl)) (fun _ h9 => h9) rfl dX6_ahead_25 ?_
      refine lv_iload_n hx hb dX6_ahead_28 rfl (lv_at hl 1 rfl) ?_
      refine lv_iload_n hx hb dX6_ahead_29 rfl (lv_at hl 2 rfl) ?_
      obtain ⟨r3, er3, hM⟩ := xbd hM
      refine xaftl (rv := r3) (W2 := [((x 0), .inr (6, o6 x u_this)), ((x 18), .inr (5, o5 (x 19) (x 20) u_this_years)), ((x 19), .inl (T.1, 20, .inl u_this_years_springs)), ((x 20), .inl (T.1, 20, .inl u_this_years_summers))]) (va_runV (As := [.int p1, .int p2]) (rest := []) ⟨hx, hb, hml, hown, hts⟩ (c_X5_look l D T k (x 18) (x 19) (x 20) u_this_years u_this_years_springs u_this_years_summers p1 p2 er3) (cwV 2 hts gX6_ahead_X5_look rfl rfl rfl (by decide +kernel) ⟨Nat.le_of_ble_eq_true rfl, Nat.le_of_ble_eq_true rfl⟩) (xpvv hP hD hK [1, 2, 3] (by decide) rfl 0 5 rfl rfl (fun U hU hW => xE1_at hE hS hU hW (va_free hD hS hA [1, 2, 3] rfl)) xE1_blind) rfl rfl hl.1 rfl (lv_room (Nat.le_of_ble_eq_true rfl)) dX6_ahead_30 ⟨Nat.le_of_ble_eq_true rfl, Nat.le_of_ble_eq_true rfl⟩) hP hD hS hA [1, 2, 3] rfl rfl rfl rfl (fun H locs hP hD hS => ?_)
      obtain rfl := Option.some.inj hM
      exact xretl hx hb hr hlocks hP hK hD hS dX6_ahead_33 rfl
    · have hM := xif c2 hM
      refine lv_ldc2 (v := (-1000000000000000000)) hx hb hown (hts _ (List.mem_of_getElem? (i := 1) rfl)) dX6_ahead_20 ?_
      obtain rfl := Option.some.inj hM
      exact xretl hx hb hr hlocks hP hK hD hS dX6_ahead_23 rfl
def f_X6_markTrouble (u_this : K6) (u_this_chances : (Nat → Int32)) (p1 : Int32) : Option (Int32 × K6) :=
  if xin p1 6 = true then
  (some ((u_this_chances p1.toNatClampNeg), (u_this + (1))))
  else none
set_option maxHeartbeats 4000000 in
set_option maxRecDepth 100000 in
theorem c_X6_markTrouble (l : Launch) (D : va_G) (T : xT) (x : Nat → Nat) {sz : Nat} (u_this : K6) (u_this_chances : (Nat → Int32)) (p1 : Int32) {rv : Int32 × K6} (hM : f_X6_markTrouble u_this u_this_chances p1 = some rv) : Met l yX6_markTrouble wsX6_markTrouble ({ frames := 0, cells := 0, slots := 0, locals := 0 } : Room) (va_Pc [.ref (x 0), .int p1] (xPre D T [((x 0), .inr (6, o6 x u_this)), ((x 13), .inl (T.1, 6, .inl u_this_chances))] sz xE0)) (va_Qi (fun (r : Int32) (_ : Unit) => r = rv.1) (fun _ => xPost D T [((x 0), .inr (6, o6 x rv.2)), ((x 13), .inl (T.1, 6, .inl u_this_chances))] (va_A [((x 0), .inr (6, o6 x u_this)), ((x 13), .inl (T.1, 6, .inl u_this_chances))] sz)) (va_A [((x 0), .inr (6, o6 x u_this)), ((x 13), .inl (T.1, 6, .inl u_this_chances))] sz)) 0 0 (va_A [((x 0), .inr (6, o6 x u_this)), ((x 13), .inl (T.1, 6, .inl u_this_chances))] sz) := by
  refine xMet (av := [.ref (x 0), .int p1]) (Wd := [((x 0), .inr (6, o6 x u_this)), ((x 13), .inl (T.1, 6, .inl u_this_chances))]) (E := xE0) (Qc := fun A => (va_Qi (fun (r : Int32) (_ : Unit) => r = rv.1) (fun _ => xPost D T [((x 0), .inr (6, o6 x rv.2)), ((x 13), .inl (T.1, 6, .inl u_this_chances))] A) A)) (cc := cX6_markTrouble) (maxL := 2) (ret := (some .int)) (by decide) rfl (Nat.le_of_ble_eq_true rfl) ?_
  intro p e s m below meth c A ls hx hb hr hml hts hown hlocks hnm hP hK hD hS hA hE hl
  have hown : s.vm.findClass RX6 = some m.cls := hown
  have hl : lv_has ls 2 [(0, .ref (x 0)), (1, .int p1)] := hl
  unfold f_X6_markTrouble at hM
  refine lv_aload_n hx hb dX6_markTrouble_0 rfl (lv_at hl 0 rfl) ?_
  refine lv_dup hx hb dX6_markTrouble_1 rfl ?_
  refine va_get (D := D) (ci := 6) (v := .long u_this) (C := RX6) (T := TX6) (N := 16) hx hb hts (fun w h => List.mem_cons_of_mem _ (List.mem_append_right _ h)) hown hK hP 0 rfl rfl 10 (by decide) (hts _ (List.mem_of_getElem? (i := 1) rfl)) (fun _ h9 => h9) rfl dX6_markTrouble_2 ?_
  refine lv_lconst (v := 1) hx hb dX6_markTrouble_5 (by decide) ?_
  refine lv_ladd hx hb dX6_markTrouble_6 ?_
  refine va_put (D := D) (ci := 6) (v := .long (u_this + (1))) (C := RX6) (T := TX6) (N := 16) hx hb hts (fun w h => List.mem_cons_of_mem _ (List.mem_append_right _ h)) tyX6 tyX6_ok nmX6 hown hK hP hD hS 0 rfl rfl 10 (by decide) (hts _ (List.mem_of_getElem? (i := 1) rfl)) (fun _ h9 => h9) rfl (tyX6_ok 10 (by decide)) rfl rfl (Nat.le_of_ble_eq_true rfl) dX6_markTrouble_7 (fun H locs hP hD hS => ?_)
  have hP : va_P D vwCl [((x 0), .inr (6, o6 x (u_this + (1)))), ((x 13), .inl (T.1, 6, .inl u_this_chances))] H := hP
  have hD : va_D A [((x 0), .inr (6, o6 x (u_this + (1)))), ((x 13), .inl (T.1, 6, .inl u_this_chances))] := hD
  refine lv_aload_n hx hb dX6_markTrouble_10 rfl (lv_at hl 0 rfl) ?_
  refine va_get (D := D) (ci := 6) (v := .ref (x 13)) (C := RX6) (T := TX6) (N := 16) hx hb hts (fun w h => List.mem_cons_of_mem _ (List.mem_append_right _ h)) hown hK hP 0 rfl rfl 6 (by decide) (hts _ (List.mem_of_getElem? (i := 2) rfl)) (fun _ h9 => h9) rfl dX6_markTrouble_11 ?_
  refine lv_iload_n hx hb dX6_markTrouble_14 rfl (lv_at hl 1 rfl) ?_
  obtain ⟨g1, hM⟩ := xck hM
  refine xald (v := (u_this_chances p1.toNatClampNeg)) hx hb hK hP 1 0 rfl rfl g1 rfl dX6_markTrouble_15 ?_
  obtain rfl := Option.some.inj hM
  exact xreti hx hb hr hlocks hP hK hD hS dX6_markTrouble_16 rfl
def f_X6_markDry (u_this : K6) (u_this_column : K0) (u_this_chances : (Nat → Int32)) (p1 : Int32) : Option (Int32 × K6) :=
  (f_X6_markTrouble (u_this + (10)) u_this_chances p1).bind fun r1 =>
  some ((r1.1 + u_this_column.2.1), r1.2)
set_option maxHeartbeats 4000000 in
set_option maxRecDepth 100000 in
theorem c_X6_markDry (l : Launch) (D : va_G) (T : xT) (x : Nat → Nat) {sz : Nat} (u_this : K6) (u_this_column : K0) (u_this_chances : (Nat → Int32)) (p1 : Int32) {rv : Int32 × K6} (hM : f_X6_markDry u_this u_this_column u_this_chances p1 = some rv) : Met l yX6_markDry wsX6_markDry ({ frames := 1, cells := 0, slots := 0, locals := 21 } : Room) (va_Pc [.ref (x 0), .int p1] (xPre D T [((x 0), .inr (6, o6 x u_this)), ((x 4), .inr (0, o0 u_this_column)), ((x 13), .inl (T.1, 6, .inl u_this_chances))] sz xE0)) (va_Qi (fun (r : Int32) (_ : Unit) => r = rv.1) (fun _ => xPost D T [((x 0), .inr (6, o6 x rv.2)), ((x 4), .inr (0, o0 u_this_column)), ((x 13), .inl (T.1, 6, .inl u_this_chances))] (va_A [((x 0), .inr (6, o6 x u_this)), ((x 4), .inr (0, o0 u_this_column)), ((x 13), .inl (T.1, 6, .inl u_this_chances))] sz)) (va_A [((x 0), .inr (6, o6 x u_this)), ((x 4), .inr (0, o0 u_this_column)), ((x 13), .inl (T.1, 6, .inl u_this_chances))] sz)) 0 0 (va_A [((x 0), .inr (6, o6 x u_this)), ((x 4), .inr (0, o0 u_this_column)), ((x 13), .inl (T.1, 6, .inl u_this_chances))] sz) := by
  refine xMet (av := [.ref (x 0), .int p1]) (Wd := [((x 0), .inr (6, o6 x u_this)), ((x 4), .inr (0, o0 u_this_column)), ((x 13), .inl (T.1, 6, .inl u_this_chances))]) (E := xE0) (Qc := fun A => (va_Qi (fun (r : Int32) (_ : Unit) => r = rv.1) (fun _ => xPost D T [((x 0), .inr (6, o6 x rv.2)), ((x 4), .inr (0, o0 u_this_column)), ((x 13), .inl (T.1, 6, .inl u_this_chances))] A) A)) (cc := cX6_markDry) (maxL := 2) (ret := (some .int)) (by decide) rfl (Nat.le_of_ble_eq_true rfl) ?_
  intro p e s m below meth c A ls hx hb hr hml hts hown hlocks hnm hP hK hD hS hA hE hl
  have hown : s.vm.findClass RX6 = some m.cls := hown
  have hl : lv_has ls 2 [(0, .ref (x 0)), (1, .int p1)] := hl
  unfold f_X6_markDry at hM
  refine lv_aload_n hx hb dX6_markDry_0 rfl (lv_at hl 0 rfl) ?_
  refine lv_dup hx hb dX6_markDry_1 rfl ?_
  refine va_get (D := D) (ci := 6) (v := .long u_this) (C := RX6) (T := TX6) (N := 16) hx hb hts (fun w h => List.mem_cons_of_mem _ (List.mem_append_left _ (List.mem_append_right _ h))) hown hK hP 0 rfl rfl 10 (by decide) (hts _ (List.mem_of_getElem? (i := 1) rfl)) (fun _ h9 => h9) rfl dX6_markDry_2 ?_
  refine lv_ldc2 (v := 10) hx hb hown (hts _ (List.mem_of_getElem? (i := 2) rfl)) dX6_markDry_5 ?_
  refine lv_ladd hx hb dX6_markDry_8 ?_
  refine va_put (D := D) (ci := 6) (v := .long (u_this + (10))) (C := RX6) (T := TX6) (N := 16) hx hb hts (fun w h => List.mem_cons_of_mem _ (List.mem_append_left _ (List.mem_append_right _ h))) tyX6 tyX6_ok nmX6 hown hK hP hD hS 0 rfl rfl 10 (by decide) (hts _ (List.mem_of_getElem? (i := 1) rfl)) (fun _ h9 => h9) rfl (tyX6_ok 10 (by decide)) rfl rfl (Nat.le_of_ble_eq_true rfl) dX6_markDry_9 (fun H locs hP hD hS => ?_)
  have hP : va_P D vwCl [((x 0), .inr (6, o6 x (u_this + (10)))), ((x 4), .inr (0, o0 u_this_column)), ((x 13), .inl (T.1, 6, .inl u_this_chances))] H := hP
  have hD : va_D A [((x 0), .inr (6, o6 x (u_this + (10)))), ((x 4), .inr (0, o0 u_this_column)), ((x 13), .inl (T.1, 6, .inl u_this_chances))] := hD
  refine lv_aload_n hx hb dX6_markDry_12 rfl (lv_at hl 0 rfl) ?_
  refine lv_iload_n hx hb dX6_markDry_13 rfl (lv_at hl 1 rfl) ?_
  obtain ⟨r1, er1, hM⟩ := xbd hM
  refine xafti (rv := r1.1) (W2 := [((x 0), .inr (6, o6 x r1.2)), ((x 4), .inr (0, o0 u_this_column)), ((x 13), .inl (T.1, 6, .inl u_this_chances))]) (va_runV (As := [.int p1]) (rest := []) ⟨hx, hb, hml, hown, hts⟩ (c_X6_markTrouble l D T x (u_this + (10)) u_this_chances p1 er1) (cwV 1 hts gX6_markDry_X6_markTrouble rfl rfl rfl (by decide +kernel) ⟨Nat.le_of_ble_eq_true rfl, Nat.le_of_ble_eq_true rfl⟩) (xpvv hP hD hK [0, 2] (by decide) rfl 0 6 rfl rfl (fun _ _ _ => trivial) (fun _ _ _ _ _ _ => trivial)) rfl rfl hl.1 rfl (lv_room (Nat.le_of_ble_eq_true rfl)) dX6_markDry_14 ⟨Nat.le_of_ble_eq_true rfl, Nat.le_of_ble_eq_true rfl⟩) hP hD hS hA [0, 2] rfl rfl rfl rfl (fun H locs hP hD hS => ?_)
  refine lv_aload_n hx hb dX6_markDry_17 rfl (lv_at hl 0 rfl) ?_
  refine va_get (D := D) (ci := 6) (v := .ref (x 4)) (C := RX6) (T := TX6) (N := 16) hx hb hts (fun w h => List.mem_cons_of_mem _ (List.mem_append_left _ (List.mem_append_right _ h))) hown hK hP 0 rfl rfl 2 (by decide) (hts _ (List.mem_of_getElem? (i := 3) rfl)) (fun _ h9 => h9) rfl dX6_markDry_18 ?_
  refine va_get (D := D) (ci := 0) (v := .int u_this_column.2.1) (C := RX0) (T := TX0) (N := 7) hx hb hts (fun w h => List.mem_cons_of_mem _ (List.mem_append_right _ h)) hown hK hP 1 rfl rfl 1 (by decide) (hts _ (List.mem_of_getElem? (i := 4) rfl)) (fun _ h9 => h9) rfl dX6_markDry_21 ?_
  refine lv_iadd hx hb dX6_markDry_24 ?_
  obtain rfl := Option.some.inj hM
  exact xreti hx hb hr hlocks hP hK hD hS dX6_markDry_25 rfl
def f_X6_markFooted (u_this : K6) (u_this_column : K0) (u_this_chances : (Nat → Int32)) (p1 : Int32) : Option (Int32 × K6) :=
  (f_X6_markTrouble (u_this + (100)) u_this_chances p1).bind fun r1 =>
  some ((r1.1 - u_this_column.1), r1.2)
set_option maxHeartbeats 4000000 in
set_option maxRecDepth 100000 in
theorem c_X6_markFooted (l : Launch) (D : va_G) (T : xT) (x : Nat → Nat) {sz : Nat} (u_this : K6) (u_this_column : K0) (u_this_chances : (Nat → Int32)) (p1 : Int32) {rv : Int32 × K6} (hM : f_X6_markFooted u_this u_this_column u_this_chances p1 = some rv) : Met l yX6_markFooted wsX6_markFooted ({ frames := 1, cells := 0, slots := 0, locals := 21 } : Room) (va_Pc [.ref (x 0), .int p1] (xPre D T [((x 0), .inr (6, o6 x u_this)), ((x 4), .inr (0, o0 u_this_column)), ((x 13), .inl (T.1, 6, .inl u_this_chances))] sz xE0)) (va_Qi (fun (r : Int32) (_ : Unit) => r = rv.1) (fun _ => xPost D T [((x 0), .inr (6, o6 x rv.2)), ((x 4), .inr (0, o0 u_this_column)), ((x 13), .inl (T.1, 6, .inl u_this_chances))] (va_A [((x 0), .inr (6, o6 x u_this)), ((x 4), .inr (0, o0 u_this_column)), ((x 13), .inl (T.1, 6, .inl u_this_chances))] sz)) (va_A [((x 0), .inr (6, o6 x u_this)), ((x 4), .inr (0, o0 u_this_column)), ((x 13), .inl (T.1, 6, .inl u_this_chances))] sz)) 0 0 (va_A [((x 0), .inr (6, o6 x u_this)), ((x 4), .inr (0, o0 u_this_column)), ((x 13), .inl (T.1, 6, .inl u_this_chances))] sz) := by
  refine xMet (av := [.ref (x 0), .int p1]) (Wd := [((x 0), .inr (6, o6 x u_this)), ((x 4), .inr (0, o0 u_this_column)), ((x 13), .inl (T.1, 6, .inl u_this_chances))]) (E := xE0) (Qc := fun A => (va_Qi (fun (r : Int32) (_ : Unit) => r = rv.1) (fun _ => xPost D T [((x 0), .inr (6, o6 x rv.2)), ((x 4), .inr (0, o0 u_this_column)), ((x 13), .inl (T.1, 6, .inl u_this_chances))] A) A)) (cc := cX6_markFooted) (maxL := 2) (ret := (some .int)) (by decide) rfl (Nat.le_of_ble_eq_true rfl) ?_
  intro p e s m below meth c A ls hx hb hr hml hts hown hlocks hnm hP hK hD hS hA hE hl
  have hown : s.vm.findClass RX6 = some m.cls := hown
  have hl : lv_has ls 2 [(0, .ref (x 0)), (1, .int p1)] := hl
  unfold f_X6_markFooted at hM
  refine lv_aload_n hx hb dX6_markFooted_0 rfl (lv_at hl 0 rfl) ?_
  refine lv_dup hx hb dX6_markFooted_1 rfl ?_
  refine va_get (D := D) (ci := 6) (v := .long u_this) (C := RX6) (T := TX6) (N := 16) hx hb hts (fun w h => List.mem_cons_of_mem _ (List.mem_append_left _ (List.mem_append_right _ h))) hown hK hP 0 rfl rfl 10 (by decide) (hts _ (List.mem_of_getElem? (i := 1) rfl)) (fun _ h9 => h9) rfl dX6_markFooted_2 ?_
  refine lv_ldc2 (v := 100) hx hb hown (hts _ (List.mem_of_getElem? (i := 2) rfl)) dX6_markFooted_5 ?_
  refine lv_ladd hx hb dX6_markFooted_8 ?_
  refine va_put (D := D) (ci := 6) (v := .long (u_this + (100))) (C := RX6) (T := TX6) (N := 16) hx hb hts (fun w h => List.mem_cons_of_mem _ (List.mem_append_left _ (List.mem_append_right _ h))) tyX6 tyX6_ok nmX6 hown hK hP hD hS 0 rfl rfl 10 (by decide) (hts _ (List.mem_of_getElem? (i := 1) rfl)) (fun _ h9 => h9) rfl (tyX6_ok 10 (by decide)) rfl rfl (Nat.le_of_ble_eq_true rfl) dX6_markFooted_9 (fun H locs hP hD hS => ?_)
  have hP : va_P D vwCl [((x 0), .inr (6, o6 x (u_this + (100)))), ((x 4), .inr (0, o0 u_this_column)), ((x 13), .inl (T.1, 6, .inl u_this_chances))] H := hP
  have hD : va_D A [((x 0), .inr (6, o6 x (u_this + (100)))), ((x 4), .inr (0, o0 u_this_column)), ((x 13), .inl (T.1, 6, .inl u_this_chances))] := hD
  refine lv_aload_n hx hb dX6_markFooted_12 rfl (lv_at hl 0 rfl) ?_
  refine lv_iload_n hx hb dX6_markFooted_13 rfl (lv_at hl 1 rfl) ?_
  obtain ⟨r1, er1, hM⟩ := xbd hM
  refine xafti (rv := r1.1) (W2 := [((x 0), .inr (6, o6 x r1.2)), ((x 4), .inr (0, o0 u_this_column)), ((x 13), .inl (T.1, 6, .inl u_this_chances))]) (va_runV (As := [.int p1]) (rest := []) ⟨hx, hb, hml, hown, hts⟩ (c_X6_markTrouble l D T x (u_this + (100)) u_this_chances p1 er1) (cwV 1 hts gX6_markFooted_X6_markTrouble rfl rfl rfl (by decide +kernel) ⟨Nat.le_of_ble_eq_true rfl, Nat.le_of_ble_eq_true rfl⟩) (xpvv hP hD hK [0, 2] (by decide) rfl 0 6 rfl rfl (fun _ _ _ => trivial) (fun _ _ _ _ _ _ => trivial)) rfl rfl hl.1 rfl (lv_room (Nat.le_of_ble_eq_true rfl)) dX6_markFooted_14 ⟨Nat.le_of_ble_eq_true rfl, Nat.le_of_ble_eq_true rfl⟩) hP hD hS hA [0, 2] rfl rfl rfl rfl (fun H locs hP hD hS => ?_)
  refine lv_aload_n hx hb dX6_markFooted_17 rfl (lv_at hl 0 rfl) ?_
  refine va_get (D := D) (ci := 6) (v := .ref (x 4)) (C := RX6) (T := TX6) (N := 16) hx hb hts (fun w h => List.mem_cons_of_mem _ (List.mem_append_left _ (List.mem_append_right _ h))) hown hK hP 0 rfl rfl 2 (by decide) (hts _ (List.mem_of_getElem? (i := 3) rfl)) (fun _ h9 => h9) rfl dX6_markFooted_18 ?_
  refine va_get (D := D) (ci := 0) (v := .int u_this_column.1) (C := RX0) (T := TX0) (N := 7) hx hb hts (fun w h => List.mem_cons_of_mem _ (List.mem_append_right _ h)) hown hK hP 1 rfl rfl 0 (by decide) (hts _ (List.mem_of_getElem? (i := 4) rfl)) (fun _ h9 => h9) rfl dX6_markFooted_21 ?_
  refine lv_isub hx hb dX6_markFooted_24 ?_
  obtain rfl := Option.some.inj hM
  exact xreti hx hb hr hlocks hP hK hD hS dX6_markFooted_25 rfl
def f_X6_markAired (u_this : K6) (u_this_column : K0) (u_this_chances : (Nat → Int32)) (p1 : Int32) : Option (Int32 × K6) :=
  (f_X6_markFooted (u_this + (1000)) u_this_column u_this_chances p1).bind fun r1 =>
  some ((r1.1 * (2)), r1.2)
set_option maxHeartbeats 4000000 in
set_option maxRecDepth 100000 in
theorem c_X6_markAired (l : Launch) (D : va_G) (T : xT) (x : Nat → Nat) {sz : Nat} (u_this : K6) (u_this_column : K0) (u_this_chances : (Nat → Int32)) (p1 : Int32) {rv : Int32 × K6} (hM : f_X6_markAired u_this u_this_column u_this_chances p1 = some rv) : Met l yX6_markAired wsX6_markAired ({ frames := 2, cells := 0, slots := 0, locals := 42 } : Room) (va_Pc [.ref (x 0), .int p1] (xPre D T [((x 0), .inr (6, o6 x u_this)), ((x 4), .inr (0, o0 u_this_column)), ((x 13), .inl (T.1, 6, .inl u_this_chances))] sz xE0)) (va_Qi (fun (r : Int32) (_ : Unit) => r = rv.1) (fun _ => xPost D T [((x 0), .inr (6, o6 x rv.2)), ((x 4), .inr (0, o0 u_this_column)), ((x 13), .inl (T.1, 6, .inl u_this_chances))] (va_A [((x 0), .inr (6, o6 x u_this)), ((x 4), .inr (0, o0 u_this_column)), ((x 13), .inl (T.1, 6, .inl u_this_chances))] sz)) (va_A [((x 0), .inr (6, o6 x u_this)), ((x 4), .inr (0, o0 u_this_column)), ((x 13), .inl (T.1, 6, .inl u_this_chances))] sz)) 0 0 (va_A [((x 0), .inr (6, o6 x u_this)), ((x 4), .inr (0, o0 u_this_column)), ((x 13), .inl (T.1, 6, .inl u_this_chances))] sz) := by
  refine xMet (av := [.ref (x 0), .int p1]) (Wd := [((x 0), .inr (6, o6 x u_this)), ((x 4), .inr (0, o0 u_this_column)), ((x 13), .inl (T.1, 6, .inl u_this_chances))]) (E := xE0) (Qc := fun A => (va_Qi (fun (r : Int32) (_ : Unit) => r = rv.1) (fun _ => xPost D T [((x 0), .inr (6, o6 x rv.2)), ((x 4), .inr (0, o0 u_this_column)), ((x 13), .inl (T.1, 6, .inl u_this_chances))] A) A)) (cc := cX6_markAired) (maxL := 2) (ret := (some .int)) (by decide) rfl (Nat.le_of_ble_eq_true rfl) ?_
  intro p e s m below meth c A ls hx hb hr hml hts hown hlocks hnm hP hK hD hS hA hE hl
  have hown : s.vm.findClass RX6 = some m.cls := hown
  have hl : lv_has ls 2 [(0, .ref (x 0)), (1, .int p1)] := hl
  unfold f_X6_markAired at hM
  refine lv_aload_n hx hb dX6_markAired_0 rfl (lv_at hl 0 rfl) ?_
  refine lv_dup hx hb dX6_markAired_1 rfl ?_
  refine va_get (D := D) (ci := 6) (v := .long u_this) (C := RX6) (T := TX6) (N := 16) hx hb hts (fun w h => List.mem_cons_of_mem _ (List.mem_append_left _ (List.mem_append_right _ h))) hown hK hP 0 rfl rfl 10 (by decide) (hts _ (List.mem_of_getElem? (i := 1) rfl)) (fun _ h9 => h9) rfl dX6_markAired_2 ?_
  refine lv_ldc2 (v := 1000) hx hb hown (hts _ (List.mem_of_getElem? (i := 2) rfl)) dX6_markAired_5 ?_
  refine lv_ladd hx hb dX6_markAired_8 ?_
  refine va_put (D := D) (ci := 6) (v := .long (u_this + (1000))) (C := RX6) (T := TX6) (N := 16) hx hb hts (fun w h => List.mem_cons_of_mem _ (List.mem_append_left _ (List.mem_append_right _ h))) tyX6 tyX6_ok nmX6 hown hK hP hD hS 0 rfl rfl 10 (by decide) (hts _ (List.mem_of_getElem? (i := 1) rfl)) (fun _ h9 => h9) rfl (tyX6_ok 10 (by decide)) rfl rfl (Nat.le_of_ble_eq_true rfl) dX6_markAired_9 (fun H locs hP hD hS => ?_)
  have hP : va_P D vwCl [((x 0), .inr (6, o6 x (u_this + (1000)))), ((x 4), .inr (0, o0 u_this_column)), ((x 13), .inl (T.1, 6, .inl u_this_chances))] H := hP
  have hD : va_D A [((x 0), .inr (6, o6 x (u_this + (1000)))), ((x 4), .inr (0, o0 u_this_column)), ((x 13), .inl (T.1, 6, .inl u_this_chances))] := hD
  refine lv_aload_n hx hb dX6_markAired_12 rfl (lv_at hl 0 rfl) ?_
  refine lv_iload_n hx hb dX6_markAired_13 rfl (lv_at hl 1 rfl) ?_
  obtain ⟨r1, er1, hM⟩ := xbd hM
  refine xafti (rv := r1.1) (W2 := [((x 0), .inr (6, o6 x r1.2)), ((x 4), .inr (0, o0 u_this_column)), ((x 13), .inl (T.1, 6, .inl u_this_chances))]) (va_runV (As := [.int p1]) (rest := []) ⟨hx, hb, hml, hown, hts⟩ (c_X6_markFooted l D T x (u_this + (1000)) u_this_column u_this_chances p1 er1) (cwV 1 hts gX6_markAired_X6_markFooted rfl rfl rfl (by decide +kernel) ⟨Nat.le_of_ble_eq_true rfl, Nat.le_of_ble_eq_true rfl⟩) (xpvv hP hD hK [0, 1, 2] (by decide) rfl 0 6 rfl rfl (fun _ _ _ => trivial) (fun _ _ _ _ _ _ => trivial)) rfl rfl hl.1 rfl (lv_room (Nat.le_of_ble_eq_true rfl)) dX6_markAired_14 ⟨Nat.le_of_ble_eq_true rfl, Nat.le_of_ble_eq_true rfl⟩) hP hD hS hA [0, 1, 2] rfl rfl rfl rfl (fun H locs hP hD hS => ?_)
  refine lv_iconst (v := 2) hx hb dX6_markAired_17 (by decide) ?_
  refine lv_imul hx hb dX6_markAired_18 ?_
  obtain rfl := Option.some.inj hM
  exact xreti hx hb hr hlocks hP hK hD hS dX6_markAired_19 rfl
def f_X6_markChoked (u_this : K6) (u_this_column : K0) (u_this_chances : (Nat → Int32)) (p1 : Int32) : Option (Int32 × K6) :=
  (f_X6_markDry (u_this + (10000)) u_this_column u_this_chances p1).bind fun r1 =>
  some ((r1.1 + p1), r1.2)
set_option maxHeartbeats 4000000 in
set_option maxRecDepth 100000 in
theorem c_X6_markChoked (l : Launch) (D : va_G) (T : xT) (x : Nat → Nat) {sz : Nat} (u_this : K6) (u_this_column : K0) (u_this_chances : (Nat → Int32)) (p1 : Int32) {rv : Int32 × K6} (hM : f_X6_markChoked u_this u_this_column u_this_chances p1 = some rv) : Met l yX6_markChoked wsX6_markChoked ({ frames := 2, cells := 0, slots := 0, locals := 42 } : Room) (va_Pc [.ref (x 0), .int p1] (xPre D T [((x 0), .inr (6, o6 x u_this)), ((x 4), .inr (0, o0 u_this_column)), ((x 13), .inl (T.1, 6, .inl u_this_chances))] sz xE0)) (va_Qi (fun (r : Int32) (_ : Unit) => r = rv.1) (fun _ => xPost D T [((x 0), .inr (6, o6 x rv.2)), ((x 4), .inr (0, o0 u_this_column)), ((x 13), .inl (T.1, 6, .inl u_this_chances))] (va_A [((x 0), .inr (6, o6 x u_this)), ((x 4), .inr (0, o0 u_this_column)), ((x 13), .inl (T.1, 6, .inl u_this_chances))] sz)) (va_A [((x 0), .inr (6, o6 x u_this)), ((x 4), .inr (0, o0 u_this_column)), ((x 13), .inl (T.1, 6, .inl u_this_chances))] sz)) 0 0 (va_A [((x 0), .inr (6, o6 x u_this)), ((x 4), .inr (0, o0 u_this_column)), ((x 13), .inl (T.1, 6, .inl u_this_chances))] sz) := by
  refine xMet (av := [.ref (x 0), .int p1]) (Wd := [((x 0), .inr (6, o6 x u_this)), ((x 4), .inr (0, o0 u_this_column)), ((x 13), .inl (T.1, 6, .inl u_this_chances))]) (E := xE0) (Qc := fun A => (va_Qi (fun (r : Int32) (_ : Unit) => r = rv.1) (fun _ => xPost D T [((x 0), .inr (6, o6 x rv.2)), ((x 4), .inr (0, o0 u_this_column)), ((x 13), .inl (T.1, 6, .inl u_this_chances))] A) A)) (cc := cX6_markChoked) (maxL := 2) (ret := (some .int)) (by decide) rfl (Nat.le_of_ble_eq_true rfl) ?_
  intro p e s m below meth c A ls hx hb hr hml hts hown hlocks hnm hP hK hD hS hA hE hl
  have hown : s.vm.findClass RX6 = some m.cls := hown
  have hl : lv_has ls 2 [(0, .ref (x 0)), (1, .int p1)] := hl
  unfold f_X6_markChoked at hM
  refine lv_aload_n hx hb dX6_markChoked_0 rfl (lv_at hl 0 rfl) ?_
  refine lv_dup hx hb dX6_markChoked_1 rfl ?_
  refine va_get (D := D) (ci := 6) (v := .long u_this) (C := RX6) (T := TX6) (N := 16) hx hb hts (fun w h => List.mem_cons_of_mem _ (List.mem_append_left _ (List.mem_append_right _ h))) hown hK hP 0 rfl rfl 10 (by decide) (hts _ (List.mem_of_getElem? (i := 1) rfl)) (fun _ h9 => h9) rfl dX6_markChoked_2 ?_
  refine lv_ldc2 (v := 10000) hx hb hown (hts _ (List.mem_of_getElem? (i := 2) rfl)) dX6_markChoked_5 ?_
  refine lv_ladd hx hb dX6_markChoked_8 ?_
  refine va_put (D := D) (ci := 6) (v := .long (u_this + (10000))) (C := RX6) (T := TX6) (N := 16) hx hb hts (fun w h => List.mem_cons_of_mem _ (List.mem_append_left _ (List.mem_append_right _ h))) tyX6 tyX6_ok nmX6 hown hK hP hD hS 0 rfl rfl 10 (by decide) (hts _ (List.mem_of_getElem? (i := 1) rfl)) (fun _ h9 => h9) rfl (tyX6_ok 10 (by decide)) rfl rfl (Nat.le_of_ble_eq_true rfl) dX6_markChoked_9 (fun H locs hP hD hS => ?_)
  have hP : va_P D vwCl [((x 0), .inr (6, o6 x (u_this + (10000)))), ((x 4), .inr (0, o0 u_this_column)), ((x 13), .inl (T.1, 6, .inl u_this_chances))] H := hP
  have hD : va_D A [((x 0), .inr (6, o6 x (u_this + (10000)))), ((x 4), .inr (0, o0 u_this_column)), ((x 13), .inl (T.1, 6, .inl u_this_chances))] := hD
  refine lv_aload_n hx hb dX6_markChoked_12 rfl (lv_at hl 0 rfl) ?_
  refine lv_iload_n hx hb dX6_markChoked_13 rfl (lv_at hl 1 rfl) ?_
  obtain ⟨r1, er1, hM⟩ := xbd hM
  refine xafti (rv := r1.1) (W2 := [((x 0), .inr (6, o6 x r1.2)), ((x 4), .inr (0, o0 u_this_column)), ((x 13), .inl (T.1, 6, .inl u_this_chances))]) (va_runV (As := [.int p1]) (rest := []) ⟨hx, hb, hml, hown, hts⟩ (c_X6_markDry l D T x (u_this + (10000)) u_this_column u_this_chances p1 er1) (cwV 1 hts gX6_markChoked_X6_markDry rfl rfl rfl (by decide +kernel) ⟨Nat.le_of_ble_eq_true rfl, Nat.le_of_ble_eq_true rfl⟩) (xpvv hP hD hK [0, 1, 2] (by decide) rfl 0 6 rfl rfl (fun _ _ _ => trivial) (fun _ _ _ _ _ _ => trivial)) rfl rfl hl.1 rfl (lv_room (Nat.le_of_ble_eq_true rfl)) dX6_markChoked_14 ⟨Nat.le_of_ble_eq_true rfl, Nat.le_of_ble_eq_true rfl⟩) hP hD hS hA [0, 1, 2] rfl rfl rfl rfl (fun H locs hP hD hS => ?_)
  refine lv_iload_n hx hb dX6_markChoked_17 rfl (lv_at hl 1 rfl) ?_
  refine lv_iadd hx hb dX6_markChoked_18 ?_
  obtain rfl := Option.some.inj hM
  exact xreti hx hb hr hlocks hP hK hD hS dX6_markChoked_19 rfl
def f_X6_markDeep (u_this : K6) (u_this_yard : K4) (u_this_column : K0) (u_this_chances : (Nat → Int32)) (p1 : Int32) : Option (Int32 × K6) :=
  (f_X6_markTrouble (u_this + (100000)) u_this_chances p1).bind fun r1 =>
  (f_X4_depth u_this_yard u_this_column.2.2.1).bind fun r2 =>
  some ((r1.1 + r2), r1.2)
set_option maxHeartbeats 4000000 in
set_option maxRecDepth 100000 in
theorem c_X6_markDeep (l : Launch) (D : va_G) (T : xT) (x : Nat → Nat) {sz : Nat} (u_this : K6) (u_this_yard : K4) (u_this_column : K0) (u_this_chances : (Nat → Int32)) (p1 : Int32) {rv : Int32 × K6} (hM : f_X6_markDeep u_this u_this_yard u_this_column u_this_chances p1 = some rv) : Met l yX6_markDeep wsX6_markDeep ({ frames := 1, cells := 0, slots := 0, locals := 22 } : Room) (va_Pc [.ref (x 0), .int p1] (xPre D T [((x 0), .inr (6, o6 x u_this)), ((x 3), .inr (4, o4 u_this_yard)), ((x 4), .inr (0, o0 u_this_column)), ((x 13), .inl (T.1, 6, .inl u_this_chances))] sz xE0)) (va_Qi (fun (r : Int32) (_ : Unit) => r = rv.1) (fun _ => xPost D T [((x 0), .inr (6, o6 x rv.2)), ((x 3), .inr (4, o4 u_this_yard)), ((x 4), .inr (0, o0 u_this_column)), ((x 13), .inl (T.1, 6, .inl u_this_chances))] (va_A [((x 0), .inr (6, o6 x u_this)), ((x 3), .inr (4, o4 u_this_yard)), ((x 4), .inr (0, o0 u_this_column)), ((x 13), .inl (T.1, 6, .inl u_this_chances))] sz)) (va_A [((x 0), .inr (6, o6 x u_this)), ((x 3), .inr (4, o4 u_this_yard)), ((x 4), .inr (0, o0 u_this_column)), ((x 13), .inl (T.1, 6, .inl u_this_chances))] sz)) 0 0 (va_A [((x 0), .inr (6, o6 x u_this)), ((x 3), .inr (4, o4 u_this_yard)), ((x 4), .inr (0, o0 u_this_column)), ((x 13), .inl (T.1, 6, .inl u_this_chances))] sz) := by
  refine xMet (av := [.ref (x 0), .int p1]) (Wd := [((x 0), .inr (6, o6 x u_this)), ((x 3), .inr (4, o4 u_this_yard)), ((x 4), .inr (0, o0 u_this_column)), ((x 13), .inl (T.1, 6, .inl u_this_chances))]) (E := xE0) (Qc := fun A => (va_Qi (fun (r : Int32) (_ : Unit) => r = rv.1) (fun _ => xPost D T [((x 0), .inr (6, o6 x rv.2)), ((x 3), .inr (4, o4 u_this_yard)), ((x 4), .inr (0, o0 u_this_column)), ((x 13), .inl (T.1, 6, .inl u_this_chances))] A) A)) (cc := cX6_markDeep) (maxL := 2) (ret := (some .int)) (by decide) rfl (Nat.le_of_ble_eq_true rfl) ?_
  intro p e s m below meth c A ls hx hb hr hml hts hown hlocks hnm hP hK hD hS hA hE hl
  have hown : s.vm.findClass RX6 = some m.cls := hown
  have hl : lv_has ls 2 [(0, .ref (x 0)), (1, .int p1)] := hl
  unfold f_X6_markDeep at hM
  refine lv_aload_n hx hb dX6_markDeep_0 rfl (lv_at hl 0 rfl) ?_
  refine lv_dup hx hb dX6_markDeep_1 rfl ?_
  refine va_get (D := D) (ci := 6) (v := .long u_this) (C := RX6) (T := TX6) (N := 16) hx hb hts (fun w h => List.mem_cons_of_mem _ (List.mem_append_left _ (List.mem_append_left _ (List.mem_append_right _ h)))) hown hK hP 0 rfl rfl 10 (by decide) (hts _ (List.mem_of_getElem? (i := 1) rfl)) (fun _ h9 => h9) rfl dX6_markDeep_2 ?_
  refine lv_ldc2 (v := 100000) hx hb hown (hts _ (List.mem_of_getElem? (i := 2) rfl)) dX6_markDeep_5 ?_
  refine lv_ladd hx hb dX6_markDeep_8 ?_
  refine va_put (D := D) (ci := 6) (v := .long (u_this + (100000))) (C := RX6) (T := TX6) (N := 16) hx hb hts (fun w h => List.mem_cons_of_mem _ (List.mem_append_left _ (List.mem_append_left _ (List.mem_append_right _ h)))) tyX6 tyX6_ok nmX6 hown hK hP hD hS 0 rfl rfl 10 (by decide) (hts _ (List.mem_of_getElem? (i := 1) rfl)) (fun _ h9 => h9) rfl (tyX6_ok 10 (by decide)) rfl rfl (Nat.le_of_ble_eq_true rfl) dX6_markDeep_9 (fun H locs hP hD hS => ?_)
  have hP : va_P D vwCl [((x 0), .inr (6, o6 x (u_this + (100000)))), ((x 3), .inr (4, o4 u_this_yard)), ((x 4), .inr (0, o0 u_this_column)), ((x 13), .inl (T.1, 6, .inl u_this_chances))] H := hP
  have hD : va_D A [((x 0), .inr (6, o6 x (u_this + (100000)))), ((x 3), .inr (4, o4 u_this_yard)), ((x 4), .inr (0, o0 u_this_column)), ((x 13), .inl (T.1, 6, .inl u_this_chances))] := hD
  refine lv_aload_n hx hb dX6_markDeep_12 rfl (lv_at hl 0 rfl) ?_
  refine lv_iload_n hx hb dX6_markDeep_13 rfl (lv_at hl 1 rfl) ?_
  obtain ⟨w9, hw9⟩ : ∃ w9 : K6, u_this + (100000) = w9 := ⟨_, rfl⟩
  rw [hw9] at hP hD hM
  obtain ⟨r1, er1, hM⟩ := xbd hM
  refine xafti (rv := r1.1) (W2 := [((x 0), .inr (6, o6 x r1.2)), ((x 3), .inr (4, o4 u_this_yard)), ((x 4), .inr (0, o0 u_this_column)), ((x 13), .inl (T.1, 6, .inl u_this_chances))]) (va_runV (As := [.int p1]) (rest := []) ⟨hx, hb, hml, hown, hts⟩ (c_X6_markTrouble l D T x (w9) u_this_chances p1 er1) (cwV 1 hts gX6_markDeep_X6_markTrouble rfl rfl rfl (by decide +kernel) ⟨Nat.le_of_ble_eq_true rfl, Nat.le_of_ble_eq_true rfl⟩) (xpvv hP hD hK [0, 3] (by decide) rfl 0 6 rfl rfl (fun _ _ _ => trivial) (fun _ _ _ _ _ _ => trivial)) rfl rfl hl.1 rfl (lv_room (Nat.le_of_ble_eq_true rfl)) dX6_markDeep_14 ⟨Nat.le_of_ble_eq_true rfl, Nat.le_of_ble_eq_true rfl⟩) hP hD hS hA [0, 3] rfl rfl rfl rfl (fun H locs hP hD hS => ?_)
  refine lv_aload_n hx hb dX6_markDeep_17 rfl (lv_at hl 0 rfl) ?_
  refine va_get (D := D) (ci := 6) (v := .ref (x 3)) (C := RX6) (T := TX6) (N := 16) hx hb hts (fun w h => List.mem_cons_of_mem _ (List.mem_append_left _ (List.mem_append_left _ (List.mem_append_right _ h)))) hown hK hP 0 rfl rfl 1 (by decide) (hts _ (List.mem_of_getElem? (i := 3) rfl)) (fun _ h9 => h9) rfl dX6_markDeep_18 ?_
  refine lv_aload_n hx hb dX6_markDeep_21 rfl (lv_at hl 0 rfl) ?_
  refine va_get (D := D) (ci := 6) (v := .ref (x 4)) (C := RX6) (T := TX6) (N := 16) hx hb hts (fun w h => List.mem_cons_of_mem _ (List.mem_append_left _ (List.mem_append_left _ (List.mem_append_right _ h)))) hown hK hP 0 rfl rfl 2 (by decide) (hts _ (List.mem_of_getElem? (i := 4) rfl)) (fun _ h9 => h9) rfl dX6_markDeep_22 ?_
  refine va_get (D := D) (ci := 0) (v := .int u_this_column.2.2.1) (C := RX0) (T := TX0) (N := 7) hx hb hts (fun w h => List.mem_cons_of_mem _ (List.mem_append_left _ (List.mem_append_right _ h))) hown hK hP 2 rfl rfl 2 (by decide) (hts _ (List.mem_of_getElem? (i := 5) rfl)) (fun _ h9 => h9) rfl dX6_markDeep_25 ?_
  obtain ⟨r2, er2, hM⟩ := xbd hM
  refine xafti (rv := r2) (W2 := [((x 0), .inr (6, o6 x r1.2)), ((x 3), .inr (4, o4 u_this_yard)), ((x 4), .inr (0, o0 u_this_column)), ((x 13), .inl (T.1, 6, .inl u_this_chances))]) (va_runV (As := [.int u_this_column.2.2.1]) (rest := [.int r1.1]) ⟨hx, hb, hml, hown, hts⟩ (c_X4_depth l D T (x 3) u_this_yard u_this_column.2.2.1 er2) (cwV 1 hts gX6_markDeep_X4_depth rfl rfl rfl (by decide +kernel) ⟨Nat.le_of_ble_eq_true rfl, Nat.le_of_ble_eq_true rfl⟩) (xpvv hP hD hK [1] (by decide) rfl 0 4 rfl rfl (fun _ _ _ => trivial) (fun _ _ _ _ _ _ => trivial)) rfl rfl hl.1 rfl (lv_room (Nat.le_of_ble_eq_true rfl)) dX6_markDeep_28 ⟨Nat.le_of_ble_eq_true rfl, Nat.le_of_ble_eq_true rfl⟩) hP hD hS hA [1] rfl rfl rfl rfl (fun H locs hP hD hS => ?_)
  refine lv_iadd hx hb dX6_markDeep_31 ?_
  obtain rfl := Option.some.inj hM
  exact xreti hx hb hr hlocks hP hK hD hS dX6_markDeep_32 rfl
def f_X6_mark (u_this : K6) (u_this_yard : K4) (u_this_column : K0) (u_this_chances : (Nat → Int32)) (p1 : Int32) (p2 : Int32) : Option (Int32 × K6) :=
  if (f_X6_outside p2 (0) (5)) = (0) then
   (if p1 = 0 then
     ((f_X6_markTrouble u_this u_this_chances p2).bind fun r3 =>
      some (r3.1, r3.2))
    else if p1 = 1 then
     ((f_X6_markDry u_this u_this_column u_this_chances p2).bind fun r5 =>
      some (r5.1, r5.2))
    else if p1 = 2 then
     ((f_X6_markFooted u_this u_this_column u_this_chances p2).bind fun r7 =>
      some (r7.1, r7.2))
    else if p1 = 3 then
     ((f_X6_markAired u_this u_this_column u_this_chances p2).bind fun r9 =>
      some (r9.1, r9.2))
    else if p1 = 4 then
     ((f_X6_markChoked u_this u_this_column u_this_chances p2).bind fun r11 =>
      some (r11.1, r11.2))
    else if p1 = 5 then
     ((f_X6_markDeep u_this u_this_yard u_this_column u_this_chances p2).bind fun r13 =>
      some (r13.1, r13.2))
    else 
     (some ((-1000000), u_this)))
  else
   (some ((-1000000), u_this))
set_option maxHeartbeats 4000000 in
set_option maxRecDepth 100000 in
theorem c_X6_mark (l : Launch) (D : va_G) (T : xT) (x : Nat → Nat) {sz : Nat} (u_this : K6) (u_this_yard : K4) (u_this_column : K0) (u_this_chances : (Nat → Int32)) (p1 : Int32) (p2 : Int32) {rv : Int32 × K6} (hM : f_X6_mark u_this u_this_yard u_this_column u_this_chances p1 p2 = some rv) : Met l yX6_mark wsX6_mark ({ frames := 3, cells := 0, slots := 0, locals := 63 } : Room) (va_Pc [.ref (x 0), .int p1, .int p2] (xPre D T [((x 0), .inr (6, o6 x u_this)), ((x 3), .inr (4, o4 u_this_yard)), ((x 4), .inr (0, o0 u_this_column)), ((x 13), .inl (T.1, 6, .inl u_this_chances))] sz xE0)) (va_Qi (fun (r : Int32) (_ : Unit) => r = rv.1) (fun _ => xPost D T [((x 0), .inr (6, o6 x rv.2)), ((x 3), .inr (4, o4 u_this_yard)), ((x 4), .inr (0, o0 u_this_column)), ((x 13), .inl (T.1, 6, .inl u_this_chances))] (va_A [((x 0), .inr (6, o6 x u_this)), ((x 3), .inr (4, o4 u_this_yard)), ((x 4), .inr (0, o0 u_this_column)), ((x 13), .inl (T.1, 6, .inl u_this_chances))] sz)) (va_A [((x 0), .inr (6, o6 x u_this)), ((x 3), .inr (4, o4 u_this_yard)), ((x 4), .inr (0, o0 u_this_column)), ((x 13), .inl (T.1, 6, .inl u_this_chances))] sz)) 0 0 (va_A [((x 0), .inr (6, o6 x u_this)), ((x 3), .inr (4, o4 u_this_yard)), ((x 4), .inr (0, o0 u_this_column)), ((x 13), .inl (T.1, 6, .inl u_this_chances))] sz) := by
  refine xMet (av := [.ref (x 0), .int p1, .int p2]) (Wd := [((x 0), .inr (6, o6 x u_this)), ((x 3), .inr (4, o4 u_this_yard)), ((x 4), .inr (0, o0 u_this_column)), ((x 13), .inl (T.1, 6, .inl u_this_chances))]) (E := xE0) (Qc := fun A => (va_Qi (fun (r : Int32) (_ : Unit) => r = rv.1) (fun _ => xPost D T [((x 0), .inr (6, o6 x rv.2)), ((x 3), .inr (4, o4 u_this_yard)), ((x 4), .inr (0, o0 u_this_column)), ((x 13), .inl (T.1, 6, .inl u_this_chances))] A) A)) (cc := cX6_mark) (maxL := 3) (ret := (some .int)) (by decide) rfl (Nat.le_of_ble_eq_true rfl) ?_
  intro p e s m below meth c A ls hx hb hr hml hts hown hlocks hnm hP hK hD hS hA hE hl
  have hown : s.vm.findClass RX6 = some m.cls := hown
  have hl : lv_has ls 3 [(0, .ref (x 0)), (1, .int p1), (2, .int p2)] := hl
  unfold f_X6_mark at hM
  refine lv_iload_n hx hb dX6_mark_0 rfl (lv_at hl 2 rfl) ?_
  refine lv_iconst (v := 0) hx hb dX6_mark_1 (by decide) ?_
  refine lv_iconst (v := 5) hx hb dX6_mark_2 (by decide) ?_
  refine xafti (rv := (f_X6_outside p2 (0) (5))) (W2 := [((x 0), .inr (6, o6 x u_this)), ((x 3), .inr (4, o4 u_this_yard)), ((x 4), .inr (0, o0 u_this_column)), ((x 13), .inl (T.1, 6, .inl u_this_chances))]) (va_runS (As := [.int p2, .int (0), .int (5)]) (rest := []) ⟨hx, hb, hml, hown, hts⟩ (c_X6_outside (rv := (f_X6_outside p2 (0) (5))) l D T p2 (0) (5) rfl) (cwS 3 hts gX6_mark_X6_outside rfl rfl rfl (by decide +kernel) ⟨Nat.le_of_ble_eq_true rfl, Nat.le_of_ble_eq_true rfl⟩) (xpvs hP hD hK [] (by decide) rfl (fun _ _ _ => trivial) (fun _ _ _ _ _ _ => trivial)) rfl rfl hl.1 rfl (lv_room (Nat.le_of_ble_eq_true rfl)) dX6_mark_3 ⟨Nat.le_of_ble_eq_true rfl, Nat.le_of_ble_eq_true rfl⟩) hP hD hS hA [] rfl rfl rfl rfl (fun H locs hP hD hS => ?_)
  refine lv_if_eq (tgt := 12) hx hb dX6_mark_6 (by decide) (fun c1 => ?_) (fun c1 => ?_)
  · have hM := xit c1 hM
    refine lv_iload_n hx hb dX6_mark_12 rfl (lv_at hl 1 rfl) ?_
    by_cases c2 : p1 = 0
    · have hM := xit c2 hM
      refine lv_tableIn (off := 39) (tgt := 52) hx hb dX6_mark_13 (by rw [c2]; decide) (by rw [c2]; decide) (by rw [c2]; rfl) (by decide) ?_
      refine lv_aload_n hx hb dX6_mark_52 rfl (lv_at hl 0 rfl) ?_
      refine lv_iload_n hx hb dX6_mark_53 rfl (lv_at hl 2 rfl) ?_
      obtain ⟨r3, er3, hM⟩ := xbd hM
      refine xafti (rv := r3.1) (W2 := [((x 0), .inr (6, o6 x r3.2)), ((x 3), .inr (4, o4 u_this_yard)), ((x 4), .inr (0, o0 u_this_column)), ((x 13), .inl (T.1, 6, .inl u_this_chances))]) (va_runV (As := [.int p2]) (rest := []) ⟨hx, hb, hml, hown, hts⟩ (c_X6_markTrouble l D T x u_this u_this_chances p2 er3) (cwV 1 hts gX6_mark_X6_markTrouble rfl rfl rfl (by decide +kernel) ⟨Nat.le_of_ble_eq_true rfl, Nat.le_of_ble_eq_true rfl⟩) (xpvv hP hD hK [0, 3] (by decide) rfl 0 6 rfl rfl (fun _ _ _ => trivial) (fun _ _ _ _ _ _ => trivial)) rfl rfl hl.1 rfl (lv_room (Nat.le_of_ble_eq_true rfl)) dX6_mark_54 ⟨Nat.le_of_ble_eq_true rfl, Nat.le_of_ble_eq_true rfl⟩) hP hD hS hA [0, 3] rfl rfl rfl rfl (fun H locs hP hD hS => ?_)
      obtain rfl := Option.some.inj hM
      exact xreti hx hb hr hlocks hP hK hD hS dX6_mark_57 rfl
    · have hM := xif c2 hM
      by_cases c4 : p1 = 1
      · have hM := xit c4 hM
        refine lv_tableIn (off := 45) (tgt := 58) hx hb dX6_mark_13 (by rw [c4]; decide) (by rw [c4]; decide) (by rw [c4]; rfl) (by decide) ?_
        refine lv_aload_n hx hb dX6_mark_58 rfl (lv_at hl 0 rfl) ?_
        refine lv_iload_n hx hb dX6_mark_59 rfl (lv_at hl 2 rfl) ?_
        obtain ⟨r5, er5, hM⟩ := xbd hM
        refine xafti (rv := r5.1) (W2 := [((x 0), .inr (6, o6 x r5.2)), ((x 3), .inr (4, o4 u_this_yard)), ((x 4), .inr (0, o0 u_this_column)), ((x 13), .inl (T.1, 6, .inl u_this_chances))]) (va_runV (As := [.int p2]) (rest := []) ⟨hx, hb, hml, hown, hts⟩ (c_X6_markDry l D T x u_this u_this_column u_this_chances p2 er5) (cwV 1 hts gX6_mark_X6_markDry rfl rfl rfl (by decide +kernel) ⟨Nat.le_of_ble_eq_true rfl, Nat.le_of_ble_eq_true rfl⟩) (xpvv hP hD hK [0, 2, 3] (by decide) rfl 0 6 rfl rfl (fun _ _ _ => trivial) (fun _ _ _ _ _ _ => trivial)) rfl rfl hl.1 rfl (lv_room (Nat.le_of_ble_eq_true rfl)) dX6_mark_60 ⟨Nat.le_of_ble_eq_true rfl, Nat.le_of_ble_eq_true rfl⟩) hP hD hS hA [0, 2, 3] rfl rfl rfl rfl (fun H locs hP hD hS => ?_)
        obtain rfl := Option.some.inj hM
        exact xreti hx hb hr hlocks hP hK hD hS dX6_mark_63 rfl
      · have hM := xif c4 hM
        by_cases c6 : p1 = 2
        · have hM := xit c6 hM
          refine lv_tableIn (off := 51) (tgt := 64) hx hb dX6_mark_13 (by rw [c6]; decide) (by rw [c6]; decide) (by rw [c6]; rfl) (by decide) ?_
          refine lv_aload_n hx hb dX6_mark_64 rfl (lv_at hl 0 rfl) ?_
          refine lv_iload_n hx hb dX6_mark_65 rfl (lv_at hl 2 rfl) ?_
          obtain ⟨r7, er7, hM⟩ := xbd hM
          refine xafti (rv := r7.1) (W2 := [((x 0), .inr (6, o6 x r7.2)), ((x 3), .inr (4, o4 u_this_yard)), ((x 4), .inr (0, o0 u_this_column)), ((x 13), .inl (T.1, 6, .inl u_this_chances))]) (va_runV (As := [.int p2]) (rest := []) ⟨hx, hb, hml, hown, hts⟩ (c_X6_markFooted l D T x u_this u_this_column u_this_chances p2 er7) (cwV 1 hts gX6_mark_X6_markFooted rfl rfl rfl (by decide +kernel) ⟨Nat.le_of_ble_eq_true rfl, Nat.le_of_ble_eq_true rfl⟩) (xpvv hP hD hK [0, 2, 3] (by decide) rfl 0 6 rfl rfl (fun _ _ _ => trivial) (fun _ _ _ _ _ _ => trivial)) rfl rfl hl.1 rfl (lv_room (Nat.le_of_ble_eq_true rfl)) dX6_mark_66 ⟨Nat.le_of_ble_eq_true rfl, Nat.le_of_ble_eq_true rfl⟩) hP hD hS hA [0, 2, 3] rfl rfl rfl rfl (fun H locs hP hD hS => ?_)
          obtain rfl := Option.some.inj hM
          exact xreti hx hb hr hlocks hP hK hD hS dX6_mark_69 rfl
        · have hM := xif c6 hM
          by_cases c8 : p1 = 3
          · have hM := xit c8 hM
            refine lv_tableIn (off := 57) (tgt := 70) hx hb dX6_mark_13 (by rw [c8]; decide) (by rw [c8]; decide) (by rw [c8]; rfl) (by decide) ?_
            refine lv_aload_n hx hb dX6_mark_70 rfl (lv_at hl 0 rfl) ?_
            refine lv_iload_n hx hb dX6_mark_71 rfl (lv_at hl 2 rfl) ?_
            obtain ⟨r9, er9, hM⟩ := xbd hM
            refine xafti (rv := r9.1) (W2 := [((x 0), .inr (6, o6 x r9.2)), ((x 3), .inr (4, o4 u_this_yard)), ((x 4), .inr (0, o0 u_this_column)), ((x 13), .inl (T.1, 6, .inl u_this_chances))]) (va_runV (As := [.int p2]) (rest := []) ⟨hx, hb, hml, hown, hts⟩ (c_X6_markAired l D T x u_this u_this_column u_this_chances p2 er9) (cwV 1 hts gX6_mark_X6_markAired rfl rfl rfl (by decide +kernel) ⟨Nat.le_of_ble_eq_true rfl, Nat.le_of_ble_eq_true rfl⟩) (xpvv hP hD hK [0, 2, 3] (by decide) rfl 0 6 rfl rfl (fun _ _ _ => trivial) (fun _ _ _ _ _ _ => trivial)) rfl rfl hl.1 rfl (lv_room (Nat.le_of_ble_eq_true rfl)) dX6_mark_72 ⟨Nat.le_of_ble_eq_true rfl, Nat.le_of_ble_eq_true rfl⟩) hP hD hS hA [0, 2, 3] rfl rfl rfl rfl (fun H locs hP hD hS => ?_)
            obtain rfl := Option.some.inj hM
            exact xreti hx hb hr hlocks hP hK hD hS dX6_mark_75 rfl
          · have hM := xif c8 hM
            by_cases c10 : p1 = 4
            · have hM := xit c10 hM
              refine lv_tableIn (off := 63) (tgt := 76) hx hb dX6_mark_13 (by rw [c10]; decide) (by rw [c10]; decide) (by rw [c10]; rfl) (by decide) ?_
              refine lv_aload_n hx hb dX6_mark_76 rfl (lv_at hl 0 rfl) ?_
              refine lv_iload_n hx hb dX6_mark_77 rfl (lv_at hl 2 rfl) ?_
              obtain ⟨r11, er11, hM⟩ := xbd hM
              refine xafti (rv := r11.1) (W2 := [((x 0), .inr (6, o6 x r11.2)), ((x 3), .inr (4, o4 u_this_yard)), ((x 4), .inr (0, o0 u_this_column)), ((x 13), .inl (T.1, 6, .inl u_this_chances))]) (va_runV (As := [.int p2]) (rest := []) ⟨hx, hb, hml, hown, hts⟩ (c_X6_markChoked l D T x u_this u_this_column u_this_chances p2 er11) (cwV 1 hts gX6_mark_X6_markChoked rfl rfl rfl (by decide +kernel) ⟨Nat.le_of_ble_eq_true rfl, Nat.le_of_ble_eq_true rfl⟩) (xpvv hP hD hK [0, 2, 3] (by decide) rfl 0 6 rfl rfl (fun _ _ _ => trivial) (fun _ _ _ _ _ _ => trivial)) rfl rfl hl.1 rfl (lv_room (Nat.le_of_ble_eq_true rfl)) dX6_mark_78 ⟨Nat.le_of_ble_eq_true rfl, Nat.le_of_ble_eq_true rfl⟩) hP hD hS hA [0, 2, 3] rfl rfl rfl rfl (fun H locs hP hD hS => ?_)
              obtain rfl := Option.some.inj hM
              exact xreti hx hb hr hlocks hP hK hD hS dX6_mark_81 rfl
            · have hM := xif c10 hM
              by_cases c12 : p1 = 5
              · have hM := xit c12 hM
                refine lv_tableIn (off := 69) (tgt := 82) hx hb dX6_mark_13 (by rw [c12]; decide) (by rw [c12]; decide) (by rw [c12]; rfl) (by decide) ?_
                refine lv_aload_n hx hb dX6_mark_82 rfl (lv_at hl 0 rfl) ?_
                refine lv_iload_n hx hb dX6_mark_83 rfl (lv_at hl 2 rfl) ?_
                obtain ⟨r13, er13, hM⟩ := xbd hM
                refine xafti (rv := r13.1) (W2 := [((x 0), .inr (6, o6 x r13.2)), ((x 3), .inr (4, o4 u_this_yard)), ((x 4), .inr (0, o0 u_this_column)), ((x 13), .inl (T.1, 6, .inl u_this_chances))]) (va_runV (As := [.int p2]) (rest := []) ⟨hx, hb, hml, hown, hts⟩ (c_X6_markDeep l D T x u_this u_this_yard u_this_column u_this_chances p2 er13) (cwV 1 hts gX6_mark_X6_markDeep rfl rfl rfl (by decide +kernel) ⟨Nat.le_of_ble_eq_true rfl, Nat.le_of_ble_eq_true rfl⟩) (xpvv hP hD hK [0, 1, 2, 3] (by decide) rfl 0 6 rfl rfl (fun _ _ _ => trivial) (fun _ _ _ _ _ _ => trivial)) rfl rfl hl.1 rfl (lv_room (Nat.le_of_ble_eq_true rfl)) dX6_mark_84 ⟨Nat.le_of_ble_eq_true rfl, Nat.le_of_ble_eq_true rfl⟩) hP hD hS hA [0, 1, 2, 3] rfl rfl rfl rfl (fun H locs hP hD hS => ?_)
                obtain rfl := Option.some.inj hM
                exact xreti hx hb hr hlocks hP hK hD hS dX6_mark_87 rfl
              · have hM := xif c12 hM
                refine lv_tableOut (tgt := 88) hx hb dX6_mark_13 (by have q0 := xsw c2 (show (0 : Int32).toInt = 0 by decide); have q1 := xsw c4 (show (1 : Int32).toInt = 1 by decide); have q2 := xsw c6 (show (2 : Int32).toInt = 2 by decide); have q3 := xsw c8 (show (3 : Int32).toInt = 3 by decide); have q4 := xsw c10 (show (4 : Int32).toInt = 4 by decide); have q5 := xsw c12 (show (5 : Int32).toInt = 5 by decide); omega) (by decide) ?_
                refine lv_ldc (v := (-1000000)) hx hb hown (hts _ (List.mem_of_getElem? (i := 1) rfl)) dX6_mark_88 ?_
                obtain rfl := Option.some.inj hM
                exact xreti hx hb hr hlocks hP hK hD hS dX6_mark_90 rfl
  · have hM := xif c1 hM
    refine lv_ldc (v := (-1000000)) hx hb hown (hts _ (List.mem_of_getElem? (i := 1) rfl)) dX6_mark_9 ?_
    obtain rfl := Option.some.inj hM
    exact xreti hx hb hr hlocks hP hK hD hS dX6_mark_11 rfl
