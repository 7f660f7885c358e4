/-! laid by wip/whole/gen.py out of the decode rows: functional readings and contracts -/
def s_X6_tells_6 (N : Nat) (u_this : K6) (u_this_yard : K4) (u_this_chances : (Nat → Int32)) (v1 : Int32 × Int32 × Int32 × K4 × K0 × (Nat → Int32)) : Option ((Int32 × Int32 × Int32 × K4 × K0 × (Nat → Int32)) ⊕ (Int32 × Int32 × Int32 × K4 × K0 × (Nat → Int32))) :=
  if (2) < v1.2.2.1 then
   (some (.inr (v1.1, v1.2.1, v1.2.2.1, v1.2.2.2.1, v1.2.2.2.2.1, v1.2.2.2.2.2)))
  else
   ((f_X6_worthOf N u_this u_this_yard u_this_chances v1.2.2.2.1 v1.2.2.2.2.1 v1.2.2.2.2.2 v1.2.2.1).bind fun r3 =>
    if r3.1 ≤ v1.2.1 then
     (some (.inl (v1.1, v1.2.1, v1.2.2.1 + 1, r3.2.1, r3.2.2.1, r3.2.2.2)))
    else
     (some (.inl (v1.2.2.1, r3.1, v1.2.2.1 + 1, r3.2.1, r3.2.2.1, r3.2.2.2))))
def f_X6_tells (N : Nat) (u_this : K6) (u_this_yard : K4) (u_this_chances : (Nat → Int32)) (u_this_other : K4) (u_this_shade : K0) (u_this_answers : (Nat → Int32)) : Option (Int32 × K4 × K0 × (Nat → Int32)) :=
  (xlp (s_X6_tells_6 N u_this u_this_yard u_this_chances) N (0, (-1), 0, u_this_other, u_this_shade, u_this_answers)).bind fun v5 =>
  some (v5.1, v5.2.2.2.1, v5.2.2.2.2.1, v5.2.2.2.2.2)
set_option maxHeartbeats 4000000 in
set_option maxRecDepth 100000 in
theorem c_X6_tells (l : Launch) (D : va_G) (T : xT) (x : Nat → Nat) {sz : Nat} {N : Nat} (u_this : K6) (u_this_yard : K4) (u_this_chances : (Nat → Int32)) (u_this_other : K4) (u_this_shade : K0) (u_this_answers : (Nat → Int32)) {rv : Int32 × K4 × K0 × (Nat → Int32)} (hM : f_X6_tells N u_this u_this_yard u_this_chances u_this_other u_this_shade u_this_answers = some rv) : Met l yX6_tells wsX6_tells ({ frames := 5, cells := 0, slots := 0, locals := 112 } : Room) (va_Pc [.ref (x 0)] (xPre D T [((x 0), .inr (6, o6 x u_this)), ((x 3), .inr (4, o4 u_this_yard)), ((x 13), .inl (T.1, 6, .inl u_this_chances)), ((x 21), .inr (4, o4 u_this_other)), ((x 22), .inr (0, o0 u_this_shade)), ((x 23), .inl (T.1, 54, .inl u_this_answers))] sz xE0)) (va_Qi (fun (r : Int32) (_ : Unit) => r = rv.1) (fun _ => xPost D T [((x 0), .inr (6, o6 x u_this)), ((x 3), .inr (4, o4 u_this_yard)), ((x 13), .inl (T.1, 6, .inl u_this_chances)), ((x 21), .inr (4, o4 rv.2.1)), ((x 22), .inr (0, o0 rv.2.2.1)), ((x 23), .inl (T.1, 54, .inl rv.2.2.2))] (va_A [((x 0), .inr (6, o6 x u_this)), ((x 3), .inr (4, o4 u_this_yard)), ((x 13), .inl (T.1, 6, .inl u_this_chances)), ((x 21), .inr (4, o4 u_this_other)), ((x 22), .inr (0, o0 u_this_shade)), ((x 23), .inl (T.1, 54, .inl u_this_answers))] sz)) (va_A [((x 0), .inr (6, o6 x u_this)), ((x 3), .inr (4, o4 u_this_yard)), ((x 13), .inl (T.1, 6, .inl u_this_chances)), ((x 21), .inr (4, o4 u_this_other)), ((x 22), .inr (0, o0 u_this_shade)), ((x 23), .inl (T.1, 54, .inl u_this_answers))] sz)) 0 0 (va_A [((x 0), .inr (6, o6 x u_this)), ((x 3), .inr (4, o4 u_this_yard)), ((x 13), .inl (T.1, 6, .inl u_this_chances)), ((x 21), .inr (4, o4 u_this_other)), ((x 22), .inr (0, o0 u_this_shade)), ((x 23), .inl (T.1, 54, .inl u_this_answers))] sz) := by
  refine xMet (av := [.ref (x 0)]) (Wd := [((x 0), .inr (6, o6 x u_this)), ((x 3), .inr (4, o4 u_this_yard)), ((x 13), .inl (T.1, 6, .inl u_this_chances)), ((x 21), .inr (4, o4 u_this_other)), ((x 22), .inr (0, o0 u_this_shade)), ((x 23), .inl (T.1, 54, .inl u_this_answers))]) (E := xE0) (Qc := fun A => (va_Qi (fun (r : Int32) (_ : Unit) => r = rv.1) (fun _ => xPost D T [((x 0), .inr (6, o6 x u_this)), ((x 3), .inr (4, o4 u_this_yard)), ((x 13), .inl (T.1, 6, .inl u_this_chances)), ((x 21), .inr (4, o4 rv.2.1)), ((x 22), .inr (0, o0 rv.2.2.1)), ((x 23), .inl (T.1, 54, .inl rv.2.2.2))] A) A)) (cc := cX6_tells) (maxL := 5) (ret := (some .int)) (by decide) rfl (Nat.le_of_ble_eq_true rfl) ?_
  intro p e s m below meth c A ls hx hb hr hml hts hown hlocks hnm hP hK hD hS hA hE hl
  have hown : s.vm.findClass RX6 = some m.cls := hown
  have hl : lv_has ls 5 [(0, .ref (x 0))] := hl
  unfold f_X6_tells at hM
  refine lv_iconst (v := 0) hx hb dX6_tells_0 (by decide) ?_
  refine lv_istore_n (lv' := [(1, .int (0)), (0, .ref (x 0))]) hx hb dX6_tells_1 rfl hl (by decide) rfl (fun ls hl => ?_)
  refine lv_iconst (v := (-1)) hx hb dX6_tells_2 (by decide) ?_
  refine lv_istore_n (lv' := [(2, .int (-1)), (1, .int (0)), (0, .ref (x 0))]) hx hb dX6_tells_3 rfl hl (by decide) rfl (fun ls hl => ?_)
  refine lv_iconst (v := 0) hx hb dX6_tells_4 (by decide) ?_
  refine lv_istore_n (lv' := [(3, .int (0)), (2, .int (-1)), (1, .int (0)), (0, .ref (x 0))]) hx hb dX6_tells_5 rfl hl (by decide) rfl (fun ls hl => ?_)
  obtain ⟨v5, hM, hNv5⟩ := xbd hM
  have hQv5 := hM
  have Kv5 : ∀ (H : Heap) (locs : List Loc) (ls : Array Slot), va_P D vwCl [((x 0), .inr (6, o6 x u_this)), ((x 3), .inr (4, o4 u_this_yard)), ((x 13), .inl (T.1, 6, .inl u_this_chances)), ((x 21), .inr (4, o4 v5.2.2.2.1)), ((x 22), .inr (0, o0 v5.2.2.2.2.1)), ((x 23), .inl (T.1, 54, .inl v5.2.2.2.2.2))] H → va_D A [((x 0), .inr (6, o6 x u_this)), ((x 3), .inr (4, o4 u_this_yard)), ((x 13), .inl (T.1, 6, .inl u_this_chances)), ((x 21), .inr (4, o4 v5.2.2.2.1)), ((x 22), .inr (0, o0 v5.2.2.2.2.1)), ((x 23), .inl (T.1, 54, .inl v5.2.2.2.2.2))] → va_S A s.heap H locs → lv_has ls 5 [(1, .int v5.1)] → W p l e ({ frames := 5, cells := 0, slots := 0, locals := 112 } : Room) s m ([.ref (x 0)] : List Value).toArray below meth c H locs 0 0 (MQ below (va_Qi (fun (r : Int32) (_ : Unit) => r = rv.1) (fun _ => xPost D T [((x 0), .inr (6, o6 x u_this)), ((x 3), .inr (4, o4 u_this_yard)), ((x 13), .inl (T.1, 6, .inl u_this_chances)), ((x 21), .inr (4, o4 rv.2.1)), ((x 22), .inr (0, o0 rv.2.2.1)), ((x 23), .inl (T.1, 54, .inl rv.2.2.2))] A) A) ([.ref (x 0)] : List Value).toArray s 0 0 A) (F0 m 35 ls []) := by
    intro H locs ls hP hD hS hl
    have hM := hNv5
    refine lv_iload_n hx hb dX6_tells_35 rfl (lv_at hl 0 rfl) ?_
    obtain rfl := Option.some.inj hM
    exact xreti hx hb hr hlocks hP hK hD hS dX6_tells_36 rfl
  have Lv1 : ∀ (n : Nat) (v1 : Int32 × Int32 × Int32 × K4 × K0 × (Nat → Int32)), xlp (s_X6_tells_6 N u_this u_this_yard u_this_chances) n v1 = some v5 → ∀ (H : Heap) (locs : List Loc) (ls : Array Slot), va_P D vwCl [((x 0), .inr (6, o6 x u_this)), ((x 3), .inr (4, o4 u_this_yard)), ((x 13), .inl (T.1, 6, .inl u_this_chances)), ((x 21), .inr (4, o4 v1.2.2.2.1)), ((x 22), .inr (0, o0 v1.2.2.2.2.1)), ((x 23), .inl (T.1, 54, .inl v1.2.2.2.2.2))] H → va_D A [((x 0), .inr (6, o6 x u_this)), ((x 3), .inr (4, o4 u_this_yard)), ((x 13), .inl (T.1, 6, .inl u_this_chances)), ((x 21), .inr (4, o4 v1.2.2.2.1)), ((x 22), .inr (0, o0 v1.2.2.2.2.1)), ((x 23), .inl (T.1, 54, .inl v1.2.2.2.2.2))] → va_S A s.heap H locs → lv_has ls 5 [(0, .ref (x 0)), (1, .int v1.1), (2, .int v1.2.1), (3, .int v1.2.2.1)] → W p l e ({ frames := 5, cells := 0, slots := 0, locals := 112 } : Room) s m ([.ref (x 0)] : List Value).toArray below meth c H locs 0 0 (MQ below (va_Qi (fun (r : Int32) (_ : Unit) => r = rv.1) (fun _ => xPost D T [((x 0), .inr (6, o6 x u_this)), ((x 3), .inr (4, o4 u_this_yard)), ((x 13), .inl (T.1, 6, .inl u_this_chances)), ((x 21), .inr (4, o4 rv.2.1)), ((x 22), .inr (0, o0 rv.2.2.1)), ((x 23), .inl (T.1, 54, .inl rv.2.2.2))] A) A) ([.ref (x 0)] : List Value).toArray s 0 0 A) (F0 m 6 ls []) := by
    intro n
    induction n with
    | zero => exact fun _ h => (xlp_0 h).elim
    | succ n ih =>
      intro v1 hM H locs ls hP hD hS hl
      obtain ⟨z, hM, hz1, hz2⟩ := xlp_s hM
      unfold s_X6_tells_6 at hM
      refine lv_iload_n hx hb dX6_tells_6 rfl (lv_at hl 3 rfl) ?_
      refine lv_iconst (v := 2) hx hb dX6_tells_7 (by decide) ?_
      refine lv_icmp_gt (tgt := 35) hx hb dX6_tells_8 (by decide) (fun c2 => ?_) (fun c2 => ?_)
      · have hM := xit c2 hM
        obtain rfl := hz2 _ (Option.some.inj hM).symm
        exact Kv5 _ _ _ hP hD hS (lv_sub hl [1] rfl)
      · have hM := xif c2 hM
        refine lv_aload_n hx hb dX6_tells_11 rfl (lv_at hl 0 rfl) ?_
        refine lv_iload_n hx hb dX6_tells_12 rfl (lv_at hl 3 rfl) ?_
        obtain ⟨r3, er3, hM⟩ := xbd hM
        refine xafti (rv := r3.1) (W2 := [((x 0), .inr (6, o6 x u_this)), ((x 3), .inr (4, o4 u_this_yard)), ((x 13), .inl (T.1, 6, .inl u_this_chances)), ((x 21), .inr (4, o4 r3.2.1)), ((x 22), .inr (0, o0 r3.2.2.1)), ((x 23), .inl (T.1, 54, .inl r3.2.2.2))]) (va_runV (As := [.int v1.2.2.1]) (rest := []) ⟨hx, hb, hml, hown, hts⟩ (c_X6_worthOf l D T x u_this u_this_yard u_this_chances v1.2.2.2.1 v1.2.2.2.2.1 v1.2.2.2.2.2 v1.2.2.1 er3) (cwV 1 hts gX6_tells_X6_worthOf rfl rfl rfl (by decide +kernel) ⟨Nat.le_of_ble_eq_true rfl, Nat.le_of_ble_eq_true rfl⟩) (xpvv hP hD hK [0, 1, 2, 3, 4, 5] (by decide) rfl 0 6 rfl rfl (fun _ _ _ => trivial) (fun _ _ _ _ _ _ => trivial)) rfl rfl hl.1 rfl (lv_room (Nat.le_of_ble_eq_true rfl)) dX6_tells_13 ⟨Nat.le_of_ble_eq_true rfl, Nat.le_of_ble_eq_true rfl⟩) hP hD hS hA [0, 1, 2, 3, 4, 5] rfl rfl rfl rfl (fun H locs hP hD hS => ?_)
        refine lv_istore (lv' := [(4, .int r3.1), (0, .ref (x 0)), (1, .int v1.1), (2, .int v1.2.1), (3, .int v1.2.2.1)]) hx hb dX6_tells_16 hl (by decide) rfl (fun ls hl => ?_)
        refine lv_iload hx hb dX6_tells_18 (lv_at hl 0 rfl) ?_
        refine lv_iload_n hx hb dX6_tells_20 rfl (lv_at hl 3 rfl) ?_
        refine lv_icmp_le (tgt := 29) hx hb dX6_tells_21 (by decide) (fun c4 => ?_) (fun c4 => ?_)
        · have hM := xit c4 hM
          refine lv_iinc (v := v1.2.2.1 + 1) (lv' := [(3, .int (v1.2.2.1 + 1)), (4, .int r3.1), (0, .ref (x 0)), (1, .int v1.1), (2, .int v1.2.1)]) hx hb dX6_tells_29 hl (k := 4) rfl rfl (by decide) rfl (fun ls hl => ?_)
          refine lv_goto (tgt := 6) hx hb dX6_tells_32 (by decide) ?_
          exact ih _ (hz1 _ (Option.some.inj hM).symm) _ _ _ hP hD hS (lv_sub hl [2, 3, 4, 0] rfl)
        · have hM := xif c4 hM
          refine lv_iload hx hb dX6_tells_24 (lv_at hl 0 rfl) ?_
          refine lv_istore_n (lv' := [(2, .int r3.1), (4, .int r3.1), (0, .ref (x 0)), (1, .int v1.1), (3, .int v1.2.2.1)]) hx hb dX6_tells_26 rfl hl (by decide) rfl (fun ls hl => ?_)
          refine lv_iload_n hx hb dX6_tells_27 rfl (lv_at hl 4 rfl) ?_
          refine lv_istore_n (lv' := [(1, .int v1.2.2.1), (2, .int r3.1), (4, .int r3.1), (0, .ref (x 0)), (3, .int v1.2.2.1)]) hx hb dX6_tells_28 rfl hl (by decide) rfl (fun ls hl => ?_)
          refine lv_iinc (v := v1.2.2.1 + 1) (lv' := [(3, .int (v1.2.2.1 + 1)), (1, .int v1.2.2.1), (2, .int r3.1), (4, .int r3.1), (0, .ref (x 0))]) hx hb dX6_tells_29 hl (k := 4) rfl rfl (by decide) rfl (fun ls hl => ?_)
          refine lv_goto (tgt := 6) hx hb dX6_tells_32 (by decide) ?_
          exact ih _ (hz1 _ (Option.some.inj hM).symm) _ _ _ hP hD hS (lv_sub hl [4, 1, 2, 0] rfl)
  exact Lv1 _ _ hM _ _ _ hP hD hS (lv_sub hl [3, 2, 1, 0] rfl)
def s_X6_where_39 (N : Nat) (u_this : K6) (p1 : Int32) (p2 : Int32) (r3 : K4) (v4 : Int32 × Int32 × Int32 × K0) : Option ((Int32 × Int32 × Int32 × K0) ⊕ (Int32 × K4 × K0)) :=
  if (99) < v4.2.1 then
   (some (.inr (v4.1, (r3.1, r3.2.1, r3.2.2.1, r3.2.2.2.1, r3.2.2.2.2.1, r3.2.2.2.2.2.1, v4.2.2.1, r3.2.2.2.2.2.2.2.1, r3.2.2.2.2.2.2.2.2.1, r3.2.2.2.2.2.2.2.2.2.1, r3.2.2.2.2.2.2.2.2.2.2), v4.2.2.2)))
  else
   ((f_X6_answer N u_this (r3.1, r3.2.1, r3.2.2.1, r3.2.2.2.1, r3.2.2.2.2.1, r3.2.2.2.2.2.1, v4.2.1, r3.2.2.2.2.2.2.2.1, r3.2.2.2.2.2.2.2.2.1, r3.2.2.2.2.2.2.2.2.2.1, r3.2.2.2.2.2.2.2.2.2.2) v4.2.2.2 (0) (0)).bind fun r6 =>
    if r6.1 = p1 then
     (if p2 = (0) then
       (some (.inr (v4.2.1, (r3.1, r3.2.1, r3.2.2.1, r3.2.2.2.1, r3.2.2.2.2.1, r3.2.2.2.2.2.1, v4.2.1, r3.2.2.2.2.2.2.2.1, r3.2.2.2.2.2.2.2.2.1, r3.2.2.2.2.2.2.2.2.2.1, r3.2.2.2.2.2.2.2.2.2.2), r6.2)))
      else
       (some (.inl (v4.2.1, v4.2.1 + 1, v4.2.1, r6.2))))
    else
     (some (.inl (v4.1, v4.2.1 + 1, v4.2.1, r6.2))))
def f_X6_where (N : Nat) (u_this : K6) (u_this_yard : K4) (u_this_other : K4) (u_this_shade : K0) (p1 : Int32) (p2 : Int32) : Option (Int32 × K4 × K0) :=
  if (f_X6_outside p1 (0) (200)) = (0) then
   (if (f_X6_outside p2 (0) (1)) = (0) then
     ((f_X4_beLike N u_this_other u_this_yard).bind fun r3 =>
      xlp (s_X6_where_39 N u_this p1 p2 r3) N ((-9), 1, r3.2.2.2.2.2.2.1, u_this_shade))
    else
     (some ((-1), u_this_other, u_this_shade)))
  else
   (some ((-1), u_this_other, u_this_shade))
set_option maxHeartbeats 4000000 in
set_option maxRecDepth 100000 in
theorem c_X6_where (l : Launch) (D : va_G) (T : xT) (x : Nat → Nat) {sz : Nat} {N : Nat} (u_this : K6) (u_this_yard : K4) (u_this_other : K4) (u_this_shade : K0) (p1 : Int32) (p2 : Int32) {rv : Int32 × K4 × K0} (hM : f_X6_where N u_this u_this_yard u_this_other u_this_shade p1 p2 = some rv) : Met l yX6_where wsX6_where ({ frames := 4, cells := 0, slots := 0, locals := 89 } : Room) (va_Pc [.ref (x 0), .int p1, .int p2] (xPre D T [((x 0), .inr (6, o6 x u_this)), ((x 3), .inr (4, o4 u_this_yard)), ((x 21), .inr (4, o4 u_this_other)), ((x 22), .inr (0, o0 u_this_shade))] sz xE0)) (va_Qi (fun (r : Int32) (_ : Unit) => r = rv.1) (fun _ => xPost D T [((x 0), .inr (6, o6 x u_this)), ((x 3), .inr (4, o4 u_this_yard)), ((x 21), .inr (4, o4 rv.2.1)), ((x 22), .inr (0, o0 rv.2.2))] (va_A [((x 0), .inr (6, o6 x u_this)), ((x 3), .inr (4, o4 u_this_yard)), ((x 21), .inr (4, o4 u_this_other)), ((x 22), .inr (0, o0 u_this_shade))] sz)) (va_A [((x 0), .inr (6, o6 x u_this)), ((x 3), .inr (4, o4 u_this_yard)), ((x 21), .inr (4, o4 u_this_other)), ((x 22), .inr (0, o0 u_this_shade))] sz)) 0 0 (va_A [((x 0), .inr (6, o6 x u_this)), ((x 3), .inr (4, o4 u_this_yard)), ((x 21), .inr (4, o4 u_this_other)), ((x 22), .inr (0, o0 u_this_shade))] sz) := by
  refine xMet (av := [.ref (x 0), .int p1, .int p2]) (Wd := [((x 0), .inr (6, o6 x u_this)), ((x 3), .inr (4, o4 u_this_yard)), ((x 21), .inr (4, o4 u_this_other)), ((x 22), .inr (0, o0 u_this_shade))]) (E := xE0) (Qc := fun A => (va_Qi (fun (r : Int32) (_ : Unit) => r = rv.1) (fun _ => xPost D T [((x 0), .inr (6, o6 x u_this)), ((x 3), .inr (4, o4 u_this_yard)), ((x 21), .inr (4, o4 rv.2.1)), ((x 22), .inr (0, o0 rv.2.2))] A) A)) (cc := cX6_where) (maxL := 5) (ret := (some .int)) (by decide) rfl (Nat.le_of_ble_eq_true rfl) ?_
  intro p e s m below meth c A ls hx hb hr hml hts hown hlocks hnm hP hK hD hS hA hE hl
  have hown : s.vm.findClass RX6 = some m.cls := hown
  have hl : lv_has ls 5 [(0, .ref (x 0)), (1, .int p1), (2, .int p2)] := hl
  unfold f_X6_where at hM
  refine lv_iload_n hx hb dX6_where_0 rfl (lv_at hl 1 rfl) ?_
  refine lv_iconst (v := 0) hx hb dX6_where_1 (by decide) ?_
  refine lv_sipush (v := 200) hx hb dX6_where_2 (by decide) ?_
  refine xafti (rv := (f_X6_outside p1 (0) (200))) (W2 := [((x 0), .inr (6, o6 x u_this)), ((x 3), .inr (4, o4 u_this_yard)), ((x 21), .inr (4, o4 u_this_other)), ((x 22), .inr (0, o0 u_this_shade))]) (va_runS (As := [.int p1, .int (0), .int (200)]) (rest := []) ⟨hx, hb, hml, hown, hts⟩ (c_X6_outside (rv := (f_X6_outside p1 (0) (200))) l D T p1 (0) (200) rfl) (cwS 3 hts gX6_where_X6_outside rfl rfl rfl (by decide +kernel) ⟨Nat.le_of_ble_eq_true rfl, Nat.le_of_ble_eq_true rfl⟩) (xpvs hP hD hK [] (by decide) rfl (fun _ _ _ => trivial) (fun _ _ _ _ _ _ => trivial)) rfl rfl hl.1 rfl (lv_room (Nat.le_of_ble_eq_true rfl)) dX6_where_5 ⟨Nat.le_of_ble_eq_true rfl, Nat.le_of_ble_eq_true rfl⟩) hP hD hS hA [] rfl rfl rfl rfl (fun H locs hP hD hS => ?_)
  refine lv_if_ne (tgt := 20) hx hb dX6_where_8 (by decide) (fun c1 => ?_) (fun c1 => ?_)
  · have hM := xif c1 hM
    refine lv_iconst (v := (-1)) hx hb dX6_where_20 (by decide) ?_
    obtain rfl := Option.some.inj hM
    exact xreti hx hb hr hlocks hP hK hD hS dX6_where_21 rfl
  · have hM := xit c1 hM
    refine lv_iload_n hx hb dX6_where_11 rfl (lv_at hl 2 rfl) ?_
    refine lv_iconst (v := 0) hx hb dX6_where_12 (by decide) ?_
    refine lv_iconst (v := 1) hx hb dX6_where_13 (by decide) ?_
    refine xafti (rv := (f_X6_outside p2 (0) (1))) (W2 := [((x 0), .inr (6, o6 x u_this)), ((x 3), .inr (4, o4 u_this_yard)), ((x 21), .inr (4, o4 u_this_other)), ((x 22), .inr (0, o0 u_this_shade))]) (va_runS (As := [.int p2, .int (0), .int (1)]) (rest := []) ⟨hx, hb, hml, hown, hts⟩ (c_X6_outside (rv := (f_X6_outside p2 (0) (1))) l D T p2 (0) (1) rfl) (cwS 3 hts gX6_where_X6_outside rfl rfl rfl (by decide +kernel) ⟨Nat.le_of_ble_eq_true rfl, Nat.le_of_ble_eq_true rfl⟩) (xpvs hP hD hK [] (by decide) rfl (fun _ _ _ => trivial) (fun _ _ _ _ _ _ => trivial)) rfl rfl hl.1 rfl (lv_room (Nat.le_of_ble_eq_true rfl)) dX6_where_14 ⟨Nat.le_of_ble_eq_true rfl, Nat.le_of_ble_eq_true rfl⟩) hP hD hS hA [] rfl rfl rfl rfl (fun H locs hP hD hS => ?_)
    refine lv_if_eq (tgt := 22) hx hb dX6_where_17 (by decide) (fun c2 => ?_) (fun c2 => ?_)
    · have hM := xit c2 hM
      refine lv_bipush (v := (-9)) hx hb dX6_where_22 (by decide) ?_
      refine lv_istore_n (lv' := [(3, .int (-9)), (0, .ref (x 0)), (1, .int p1), (2, .int p2)]) hx hb dX6_where_24 rfl hl (by decide) rfl (fun ls hl => ?_)
      refine lv_aload_n hx hb dX6_where_25 rfl (lv_at hl 1 rfl) ?_
      refine va_get (D := D) (ci := 6) (v := .ref (x 21)) (C := RX6) (T := TX6) (N := 16) hx hb hts (fun w h => List.mem_cons_of_mem _ (List.mem_append_left _ (List.mem_append_left _ (List.mem_append_right _ h)))) hown hK hP 0 rfl rfl 11 (by decide) (hts _ (List.mem_of_getElem? (i := 1) rfl)) (fun _ h9 => h9) rfl dX6_where_26 ?_
      refine lv_aload_n hx hb dX6_where_29 rfl (lv_at hl 1 rfl) ?_
      refine va_get (D := D) (ci := 6) (v := .ref (x 3)) (C := RX6) (T := TX6) (N := 16) hx hb hts (fun w h => List.mem_cons_of_mem _ (List.mem_append_left _ (List.mem_append_left _ (List.mem_append_right _ h)))) hown hK hP 0 rfl rfl 1 (by decide) (hts _ (List.mem_of_getElem? (i := 2) rfl)) (fun _ h9 => h9) rfl dX6_where_30 ?_
      obtain ⟨r3, er3, hM⟩ := xbd hM
      refine xaftv (W2 := [((x 0), .inr (6, o6 x u_this)), ((x 3), .inr (4, o4 u_this_yard)), ((x 21), .inr (4, o4 r3)), ((x 22), .inr (0, o0 u_this_shade))]) (va_runV (As := [.ref (x 3)]) (rest := []) ⟨hx, hb, hml, hown, hts⟩ (c_X4_beLike l D T (x 21) (x 3) u_this_other u_this_yard er3) (cwV 1 hts gX6_where_X4_beLike rfl rfl rfl (by decide +kernel) ⟨Nat.le_of_ble_eq_true rfl, Nat.le_of_ble_eq_true rfl⟩) (xpvv hP hD hK [2, 1] (by decide) rfl 0 4 rfl rfl (fun _ _ _ => trivial) (fun _ _ _ _ _ _ => trivial)) rfl rfl hl.1 rfl (lv_room (Nat.le_of_ble_eq_true rfl)) dX6_where_33 ⟨Nat.le_of_ble_eq_true rfl, Nat.le_of_ble_eq_true rfl⟩) hP hD hS hA [2, 1] rfl rfl rfl rfl (fun H locs hP hD hS => ?_)
      refine lv_iconst (v := 1) hx hb dX6_where_36 (by decide) ?_
      refine lv_istore (lv' := [(4, .int (1)), (3, .int (-9)), (0, .ref (x 0)), (1, .int p1), (2, .int p2)]) hx hb dX6_where_37 hl (by decide) rfl (fun ls hl => ?_)
      have Lv4 : ∀ (n : Nat) (v4 : Int32 × Int32 × Int32 × K0), xlp (s_X6_where_39 N u_this p1 p2 r3) n v4 = some rv → ∀ (H : Heap) (locs : List Loc) (ls : Array Slot), va_P D vwCl [((x 0), .inr (6, o6 x u_this)), ((x 3), .inr (4, o4 u_this_yard)), ((x 21), .inr (4, o4 (r3.1, r3.2.1, r3.2.2.1, r3.2.2.2.1, r3.2.2.2.2.1, r3.2.2.2.2.2.1, v4.2.2.1, r3.2.2.2.2.2.2.2.1, r3.2.2.2.2.2.2.2.2.1, r3.2.2.2.2.2.2.2.2.2.1, r3.2.2.2.2.2.2.2.2.2.2))), ((x 22), .inr (0, o0 v4.2.2.2))] H → va_D A [((x 0), .inr (6, o6 x u_this)), ((x 3), .inr (4, o4 u_this_yard)), ((x 21), .inr (4, o4 (r3.1, r3.2.1, r3.2.2.1, r3.2.2.2.1, r3.2.2.2.2.1, r3.2.2.2.2.2.1, v4.2.2.1, r3.2.2.2.2.2.2.2.1, r3.2.2.2.2.2.2.2.2.1, r3.2.2.2.2.2.2.2.2.2.1, r3.2.2.2.2.2.2.2.2.2.2))), ((x 22), .inr (0, o0 v4.2.2.2))] → va_S A s.heap H locs → lv_has ls 5 [(0, .ref (x 0)), (1, .int p1), (2, .int p2), (3, .int v4.1), (4, .int v4.2.1)] → W p l e ({ frames := 4, cells := 0, slots := 0, locals := 89 } : Room) s m ([.ref (x 0), .int p1, .int p2] : List Value).toArray below meth c H locs 0 0 (MQ below (va_Qi (fun (r : Int32) (_ : Unit) => r = rv.1) (fun _ => xPost D T [((x 0), .inr (6, o6 x u_this)), ((x 3), .inr (4, o4 u_this_yard)), ((x 21), .inr (4, o4 rv.2.1)), ((x 22), .inr (0, o0 rv.2.2))] A) A) ([.ref (x 0), .int p1, .int p2] : List Value).toArray s 0 0 A) (F0 m 39 ls []) := by
        intro n
        induction n with
        | zero => exact fun _ h => (xlp_0 h).elim
        | succ n ih =>
          intro v4 hM H locs ls hP hD hS hl
          obtain ⟨z, hM, hz1, hz2⟩ := xlp_s hM
          unfold s_X6_where_39 at hM
          refine lv_iload hx hb dX6_where_39 (lv_at hl 4 rfl) ?_
          refine lv_bipush (v := 99) hx hb dX6_where_41 (by decide) ?_
          refine lv_icmp_gt (tgt := 80) hx hb dX6_where_43 (by decide) (fun c5 => ?_) (fun c5 => ?_)
          · have hM := xit c5 hM
            refine lv_iload_n hx hb dX6_where_80 rfl (lv_at hl 3 rfl) ?_
            obtain rfl := hz2 _ (Option.some.inj hM).symm
            exact xreti hx hb hr hlocks hP hK hD hS dX6_where_81 rfl
          · have hM := xif c5 hM
            refine lv_aload_n hx hb dX6_where_46 rfl (lv_at hl 0 rfl) ?_
            refine va_get (D := D) (ci := 6) (v := .ref (x 21)) (C := RX6) (T := TX6) (N := 16) hx hb hts (fun w h => List.mem_cons_of_mem _ (List.mem_append_left _ (List.mem_append_left _ (List.mem_append_right _ h)))) hown hK hP 0 rfl rfl 11 (by decide) (hts _ (List.mem_of_getElem? (i := 1) rfl)) (fun _ h9 => h9) rfl dX6_where_47 ?_
            refine lv_iload hx hb dX6_where_50 (lv_at hl 4 rfl) ?_
            refine va_put (D := D) (ci := 4) (v := .int v4.2.1) (C := RX4) (T := TX4) (N := 11) hx hb hts (fun w h => List.mem_cons_of_mem _ (List.mem_append_left _ (List.mem_append_right _ h))) tyX4 tyX4_ok nmX4 hown hK hP hD hS 2 rfl rfl 6 (by decide) (hts _ (List.mem_of_getElem? (i := 3) rfl)) (fun _ h9 => h9) rfl (tyX4_ok 6 (by decide)) rfl rfl (Nat.le_of_ble_eq_true rfl) dX6_where_52 (fun H locs hP hD hS => ?_)
            have hP : va_P D vwCl [((x 0), .inr (6, o6 x u_this)), ((x 3), .inr (4, o4 u_this_yard)), ((x 21), .inr (4, o4 (r3.1, r3.2.1, r3.2.2.1, r3.2.2.2.1, r3.2.2.2.2.1, r3.2.2.2.2.2.1, v4.2.1, r3.2.2.2.2.2.2.2.1, r3.2.2.2.2.2.2.2.2.1, r3.2.2.2.2.2.2.2.2.2.1, r3.2.2.2.2.2.2.2.2.2.2))), ((x 22), .inr (0, o0 v4.2.2.2))] H := hP
            have hD : va_D A [((x 0), .inr (6, o6 x u_this)), ((x 3), .inr (4, o4 u_this_yard)), ((x 21), .inr (4, o4 (r3.1, r3.2.1, r3.2.2.1, r3.2.2.2.1, r3.2.2.2.2.1, r3.2.2.2.2.2.1, v4.2.1, r3.2.2.2.2.2.2.2.1, r3.2.2.2.2.2.2.2.2.1, r3.2.2.2.2.2.2.2.2.2.1, r3.2.2.2.2.2.2.2.2.2.2))), ((x 22), .inr (0, o0 v4.2.2.2))] := hD
            refine lv_aload_n hx hb dX6_where_55 rfl (lv_at hl 0 rfl) ?_
            refine lv_iconst (v := 0) hx hb dX6_where_56 (by decide) ?_
            refine lv_iconst (v := 0) hx hb dX6_where_57 (by decide) ?_
            obtain ⟨r6, er6, hM⟩ := xbd hM
            refine xafti (rv := r6.1) (W2 := [((x 0), .inr (6, o6 x u_this)), ((x 3), .inr (4, o4 u_this_yard)), ((x 21), .inr (4, o4 (r3.1, r3.2.1, r3.2.2.1, r3.2.2.2.1, r3.2.2.2.2.1, r3.2.2.2.2.2.1, v4.2.1, r3.2.2.2.2.2.2.2.1, r3.2.2.2.2.2.2.2.2.1, r3.2.2.2.2.2.2.2.2.2.1, r3.2.2.2.2.2.2.2.2.2.2))), ((x 22), .inr (0, o0 r6.2))]) (va_runV (As := [.int (0), .int (0)]) (rest := []) ⟨hx, hb, hml, hown, hts⟩ (c_X6_answer l D T x u_this (r3.1, r3.2.1, r3.2.2.1, r3.2.2.2.1, r3.2.2.2.2.1, r3.2.2.2.2.2.1, v4.2.1, r3.2.2.2.2.2.2.2.1, r3.2.2.2.2.2.2.2.2.1, r3.2.2.2.2.2.2.2.2.2.1, r3.2.2.2.2.2.2.2.2.2.2) v4.2.2.2 (0) (0) er6) (cwV 2 hts gX6_where_X6_answer rfl rfl rfl (by decide +kernel) ⟨Nat.le_of_ble_eq_true rfl, Nat.le_of_ble_eq_true rfl⟩) (xpvv hP hD hK [0, 2, 3] (by decide) rfl 0 6 rfl rfl (fun _ _ _ => trivial) (fun _ _ _ _ _ _ => trivial)) rfl rfl hl.1 rfl (lv_room (Nat.le_of_ble_eq_true rfl)) dX6_where_58 ⟨Nat.le_of_ble_eq_true rfl, Nat.le_of_ble_eq_true rfl⟩) hP hD hS hA [0, 2, 3] rfl rfl rfl rfl (fun H locs hP hD hS => ?_)
            refine lv_iload_n hx hb dX6_where_61 rfl (lv_at hl 1 rfl) ?_
            refine lv_icmp_ne (tgt := 74) hx hb dX6_where_62 (by decide) (fun c7 => ?_) (fun c7 => ?_)
            · have hM := xif c7 hM
              refine lv_iinc (v := v4.2.1 + 1) (lv' := [(4, .int (v4.2.1 + 1)), (0, .ref (x 0)), (1, .int p1), (2, .int p2), (3, .int v4.1)]) hx hb dX6_where_74 hl (k := 4) rfl rfl (by decide) rfl (fun ls hl => ?_)
              refine lv_goto (tgt := 39) hx hb dX6_where_77 (by decide) ?_
              exact ih _ (hz1 _ (Option.some.inj hM).symm) _ _ _ hP hD hS (lv_sub hl [1, 2, 3, 4, 0] rfl)
            · have hM := xit c7 hM
              refine lv_iload hx hb dX6_where_65 (lv_at hl 4 rfl) ?_
              refine lv_istore_n (lv' := [(3, .int v4.2.1), (0, .ref (x 0)), (1, .int p1), (2, .int p2), (4, .int v4.2.1)]) hx hb dX6_where_67 rfl hl (by decide) rfl (fun ls hl => ?_)
              refine lv_iload_n hx hb dX6_where_68 rfl (lv_at hl 3 rfl) ?_
              refine lv_if_ne (tgt := 74) hx hb dX6_where_69 (by decide) (fun c8 => ?_) (fun c8 => ?_)
              · have hM := xif c8 hM
                refine lv_iinc (v := v4.2.1 + 1) (lv' := [(4, .int (v4.2.1 + 1)), (3, .int v4.2.1), (0, .ref (x 0)), (1, .int p1), (2, .int p2)]) hx hb dX6_where_74 hl (k := 4) rfl rfl (by decide) rfl (fun ls hl => ?_)
                refine lv_goto (tgt := 39) hx hb dX6_where_77 (by decide) ?_
                exact ih _ (hz1 _ (Option.some.inj hM).symm) _ _ _ hP hD hS (lv_sub hl [2, 3, 4, 1, 0] rfl)
              · have hM := xit c8 hM
                refine lv_iload_n hx hb dX6_where_72 rfl (lv_at hl 0 rfl) ?_
                obtain rfl := hz2 _ (Option.some.inj hM).symm
                exact xreti hx hb hr hlocks hP hK hD hS dX6_where_73 rfl
      exact Lv4 _ _ hM _ _ _ hP hD hS (lv_sub hl [2, 3, 4, 1, 0] rfl)
    · have hM := xif c2 hM
      refine lv_iconst (v := (-1)) hx hb dX6_where_20 (by decide) ?_
      obtain rfl := Option.some.inj hM
      exact xreti hx hb hr hlocks hP hK hD hS dX6_where_21 rfl
def s_X6_dayCups_9 (N : Nat) (u_this_yard : K4) (p1 : Int32) (p2 : Int32) (v2 : Int32 × K0) : Option ((Int32 × K0) ⊕ (Int32 × K0)) :=
  if p2 ≤ v2.1 then
   (some (.inr (v2.1, v2.2)))
  else
   ((f_X0_pull N v2.2 u_this_yard p1).bind fun r4 =>
    (f_X0_stand N r4.2 u_this_yard (1)).bind fun r5 =>
    some (.inl (v2.1 + 1, r5.2)))
def f_X6_dayCups (N : Nat) (u_this : K6) (u_this_yard : K4) (u_this_shade : K0) (p1 : Int32) (p2 : Int32) : Option (Int32 × K0) :=
  (some (f_X0_startFull u_this_shade) : Option (K0)).bind fun r1 =>
  (xlp (s_X6_dayCups_9 N u_this_yard p1 p2) N (0, r1)).bind fun v6 =>
  some (v6.2.2.2.2.1, v6.2)
set_option maxHeartbeats 4000000 in
set_option maxRecDepth 100000 in
theorem c_X6_dayCups (l : Launch) (D : va_G) (T : xT) (x : Nat → Nat) {sz : Nat} {N : Nat} (u_this : K6) (u_this_yard : K4) (u_this_shade : K0) (p1 : Int32) (p2 : Int32) {rv : Int32 × K0} (hM : f_X6_dayCups N u_this u_this_yard u_this_shade p1 p2 = some rv) : Met l yX6_dayCups wsX6_dayCups ({ frames := 4, cells := 0, slots := 0, locals := 94 } : Room) (va_Pc [.ref (x 0), .int p1, .int p2] (xPre D T [((x 0), .inr (6, o6 x u_this)), ((x 3), .inr (4, o4 u_this_yard)), ((x 22), .inr (0, o0 u_this_shade))] sz xE0)) (va_Qi (fun (r : Int32) (_ : Unit) => r = rv.1) (fun _ => xPost D T [((x 0), .inr (6, o6 x u_this)), ((x 3), .inr (4, o4 u_this_yard)), ((x 22), .inr (0, o0 rv.2))] (va_A [((x 0), .inr (6, o6 x u_this)), ((x 3), .inr (4, o4 u_this_yard)), ((x 22), .inr (0, o0 u_this_shade))] sz)) (va_A [((x 0), .inr (6, o6 x u_this)), ((x 3), .inr (4, o4 u_this_yard)), ((x 22), .inr (0, o0 u_this_shade))] sz)) 0 0 (va_A [((x 0), .inr (6, o6 x u_this)), ((x 3), .inr (4, o4 u_this_yard)), ((x 22), .inr (0, o0 u_this_shade))] sz) := by
  refine xMet (av := [.ref (x 0), .int p1, .int p2]) (Wd := [((x 0), .inr (6, o6 x u_this)), ((x 3), .inr (4, o4 u_this_yard)), ((x 22), .inr (0, o0 u_this_shade))]) (E := xE0) (Qc := fun A => (va_Qi (fun (r : Int32) (_ : Unit) => r = rv.1) (fun _ => xPost D T [((x 0), .inr (6, o6 x u_this)), ((x 3), .inr (4, o4 u_this_yard)), ((x 22), .inr (0, o0 rv.2))] A) A)) (cc := cX6_dayCups) (maxL := 4) (ret := (some .int)) (by decide) rfl (Nat.le_of_ble_eq_true rfl) ?_
  intro p e s m below meth c A ls hx hb hr hml hts hown hlocks hnm hP hK hD hS hA hE hl
  have hown : s.vm.findClass RX6 = some m.cls := hown
  have hl : lv_has ls 4 [(0, .ref (x 0)), (1, .int p1), (2, .int p2)] := hl
  unfold f_X6_dayCups at hM
  refine lv_aload_n hx hb dX6_dayCups_0 rfl (lv_at hl 0 rfl) ?_
  refine va_get (D := D) (ci := 6) (v := .ref (x 22)) (C := RX6) (T := TX6) (N := 16) hx hb hts (fun w h => List.mem_cons_of_mem _ (List.mem_append_left _ (List.mem_append_left _ (List.mem_append_right _ h)))) hown hK hP 0 rfl rfl 12 (by decide) (hts _ (List.mem_of_getElem? (i := 1) rfl)) (fun _ h9 => h9) rfl dX6_dayCups_1 ?_
  obtain ⟨r1, er1, hM⟩ := xbd hM
  refine xaftv (W2 := [((x 0), .inr (6, o6 x u_this)), ((x 3), .inr (4, o4 u_this_yard)), ((x 22), .inr (0, o0 r1))]) (va_runV (As := []) (rest := []) ⟨hx, hb, hml, hown, hts⟩ (c_X0_startFull l D T (x 22) u_this_shade (Option.some.inj er1)) (cwV 0 hts gX6_dayCups_X0_startFull rfl rfl rfl (by decide +kernel) ⟨Nat.le_of_ble_eq_true rfl, Nat.le_of_ble_eq_true rfl⟩) (xpvv hP hD hK [2] (by decide) rfl 0 0 rfl rfl (fun _ _ _ => trivial) (fun _ _ _ _ _ _ => trivial)) rfl rfl hl.1 rfl (lv_room (Nat.le_of_ble_eq_true rfl)) dX6_dayCups_4 ⟨Nat.le_of_ble_eq_true rfl, Nat.le_of_ble_eq_true rfl⟩) hP hD hS hA [2] rfl rfl rfl rfl (fun H locs hP hD hS => ?_)
  refine lv_iconst (v := 0) hx hb dX6_dayCups_7 (by decide) ?_
  refine lv_istore_n (lv' := [(3, .int (0)), (0, .ref (x 0)), (1, .int p1), (2, .int p2)]) hx hb dX6_dayCups_8 rfl hl (by decide) rfl (fun ls hl => ?_)
  obtain ⟨v6, hM, hNv6⟩ := xbd hM
  have hQv6 := hM
  have Kv6 : ∀ (H : Heap) (locs : List Loc) (ls : Array Slot), va_P D vwCl [((x 0), .inr (6, o6 x u_this)), ((x 3), .inr (4, o4 u_this_yard)), ((x 22), .inr (0, o0 v6.2))] H → va_D A [((x 0), .inr (6, o6 x u_this)), ((x 3), .inr (4, o4 u_this_yard)), ((x 22), .inr (0, o0 v6.2))] → va_S A s.heap H locs → lv_has ls 4 [(0, .ref (x 0))] → W p l e ({ frames := 4, cells := 0, slots := 0, locals := 94 } : Room) s m ([.ref (x 0), .int p1, .int p2] : List Value).toArray below meth c H locs 0 0 (MQ below (va_Qi (fun (r : Int32) (_ : Unit) => r = rv.1) (fun _ => xPost D T [((x 0), .inr (6, o6 x u_this)), ((x 3), .inr (4, o4 u_this_yard)), ((x 22), .inr (0, o0 rv.2))] A) A) ([.ref (x 0), .int p1, .int p2] : List Value).toArray s 0 0 A) (F0 m 46 ls []) := by
    intro H locs ls hP hD hS hl
    have hM := hNv6
    refine lv_aload_n hx hb dX6_dayCups_46 rfl (lv_at hl 0 rfl) ?_
    refine va_get (D := D) (ci := 6) (v := .ref (x 22)) (C := RX6) (T := TX6) (N := 16) hx hb hts (fun w h => List.mem_cons_of_mem _ (List.mem_append_left _ (List.mem_append_left _ (List.mem_append_right _ h)))) hown hK hP 0 rfl rfl 12 (by decide) (hts _ (List.mem_of_getElem? (i := 1) rfl)) (fun _ h9 => h9) rfl dX6_dayCups_47 ?_
    refine va_get (D := D) (ci := 0) (v := .int v6.2.2.2.2.1) (C := RX0) (T := TX0) (N := 7) hx hb hts (fun w h => List.mem_cons_of_mem _ (List.mem_append_left _ (List.mem_append_right _ h))) hown hK hP 2 rfl rfl 3 (by decide) (hts _ (List.mem_of_getElem? (i := 3) rfl)) (fun _ h9 => h9) rfl dX6_dayCups_50 ?_
    obtain rfl := Option.some.inj hM
    exact xreti hx hb hr hlocks hP hK hD hS dX6_dayCups_53 rfl
  have Lv2 : ∀ (n : Nat) (v2 : Int32 × K0), xlp (s_X6_dayCups_9 N u_this_yard p1 p2) n v2 = some v6 → ∀ (H : Heap) (locs : List Loc) (ls : Array Slot), va_P D vwCl [((x 0), .inr (6, o6 x u_this)), ((x 3), .inr (4, o4 u_this_yard)), ((x 22), .inr (0, o0 v2.2))] H → va_D A [((x 0), .inr (6, o6 x u_this)), ((x 3), .inr (4, o4 u_this_yard)), ((x 22), .inr (0, o0 v2.2))] → va_S A s.heap H locs → lv_has ls 4 [(0, .ref (x 0)), (1, .int p1), (2, .int p2), (3, .int v2.1)] → W p l e ({ frames := 4, cells := 0, slots := 0, locals := 94 } : Room) s m ([.ref (x 0), .int p1, .int p2] : List Value).toArray below meth c H locs 0 0 (MQ below (va_Qi (fun (r : Int32) (_ : Unit) => r = rv.1) (fun _ => xPost D T [((x 0), .inr (6, o6 x u_this)), ((x 3), .inr (4, o4 u_this_yard)), ((x 22), .inr (0, o0 rv.2))] A) A) ([.ref (x 0), .int p1, .int p2] : List Value).toArray s 0 0 A) (F0 m 9 ls []) := by
    intro n
    induction n with
    | zero => exact fun _ h => (xlp_0 h).elim
    | succ n ih =>
      intro v2 hM H locs ls hP hD hS hl
      obtain ⟨z, hM, hz1, hz2⟩ := xlp_s hM
      unfold s_X6_dayCups_9 at hM
      refine lv_iload_n hx hb dX6_dayCups_9 rfl (lv_at hl 3 rfl) ?_
      refine lv_iload_n hx hb dX6_dayCups_10 rfl (lv_at hl 2 rfl) ?_
      refine lv_icmp_ge (tgt := 46) hx hb dX6_dayCups_11 (by decide) (fun c3 => ?_) (fun c3 => ?_)
      · have hM := xit c3 hM
        obtain rfl := hz2 _ (Option.some.inj hM).symm
        exact Kv6 _ _ _ hP hD hS (lv_sub hl [0] rfl)
      · have hM := xif c3 hM
        refine lv_aload_n hx hb dX6_dayCups_14 rfl (lv_at hl 0 rfl) ?_
        refine va_get (D := D) (ci := 6) (v := .ref (x 22)) (C := RX6) (T := TX6) (N := 16) hx hb hts (fun w h => List.mem_cons_of_mem _ (List.mem_append_left _ (List.mem_append_left _ (List.mem_append_right _ h)))) hown hK hP 0 rfl rfl 12 (by decide) (hts _ (List.mem_of_getElem? (i := 1) rfl)) (fun _ h9 => h9) rfl dX6_dayCups_15 ?_
        refine lv_aload_n hx hb dX6_dayCups_18 rfl (lv_at hl 0 rfl) ?_
        refine va_get (D := D) (ci := 6) (v := .ref (x 3)) (C := RX6) (T := TX6) (N := 16) hx hb hts (fun w h => List.mem_cons_of_mem _ (List.mem_append_left _ (List.mem_append_left _ (List.mem_append_right _ h)))) hown hK hP 0 rfl rfl 1 (by decide) (hts _ (List.mem_of_getElem? (i := 2) rfl)) (fun _ h9 => h9) rfl dX6_dayCups_19 ?_
        refine lv_iload_n hx hb dX6_dayCups_22 rfl (lv_at hl 1 rfl) ?_
        obtain ⟨r4, er4, hM⟩ := xbd hM
        refine xafti (rv := r4.1) (W2 := [((x 0), .inr (6, o6 x u_this)), ((x 3), .inr (4, o4 u_this_yard)), ((x 22), .inr (0, o0 r4.2))]) (va_runV (As := [.ref (x 3), .int p1]) (rest := []) ⟨hx, hb, hml, hown, hts⟩ (c_X0_pull l D T (x 22) (x 3) v2.2 u_this_yard p1 er4) (cwV 2 hts gX6_dayCups_X0_pull rfl rfl rfl (by decide +kernel) ⟨Nat.le_of_ble_eq_true rfl, Nat.le_of_ble_eq_true rfl⟩) (xpvv hP hD hK [2, 1] (by decide) rfl 0 0 rfl rfl (fun _ _ _ => trivial) (fun _ _ _ _ _ _ => trivial)) rfl rfl hl.1 rfl (lv_room (Nat.le_of_ble_eq_true rfl)) dX6_dayCups_23 ⟨Nat.le_of_ble_eq_true rfl, Nat.le_of_ble_eq_true rfl⟩) hP hD hS hA [2, 1] rfl rfl rfl rfl (fun H locs hP hD hS => ?_)
        refine lv_pop hx hb dX6_dayCups_26 rfl ?_
        refine lv_aload_n hx hb dX6_dayCups_27 rfl (lv_at hl 0 rfl) ?_
        refine va_get (D := D) (ci := 6) (v := .ref (x 22)) (C := RX6) (T := TX6) (N := 16) hx hb hts (fun w h => List.mem_cons_of_mem _ (List.mem_append_left _ (List.mem_append_left _ (List.mem_append_right _ h)))) hown hK hP 0 rfl rfl 12 (by decide) (hts _ (List.mem_of_getElem? (i := 1) rfl)) (fun _ h9 => h9) rfl dX6_dayCups_28 ?_
        refine lv_aload_n hx hb dX6_dayCups_31 rfl (lv_at hl 0 rfl) ?_
        refine va_get (D := D) (ci := 6) (v := .ref (x 3)) (C := RX6) (T := TX6) (N := 16) hx hb hts (fun w h => List.mem_cons_of_mem _ (List.mem_append_left _ (List.mem_append_left _ (List.mem_append_right _ h)))) hown hK hP 0 rfl rfl 1 (by decide) (hts _ (List.mem_of_getElem? (i := 2) rfl)) (fun _ h9 => h9) rfl dX6_dayCups_32 ?_
        refine lv_iconst (v := 1) hx hb dX6_dayCups_35 (by decide) ?_
        obtain ⟨r5, er5, hM⟩ := xbd hM
        refine xafti (rv := r5.1) (W2 := [((x 0), .inr (6, o6 x u_this)), ((x 3), .inr (4, o4 u_this_yard)), ((x 22), .inr (0, o0 r5.2))]) (va_runV (As := [.ref (x 3), .int (1)]) (rest := []) ⟨hx, hb, hml, hown, hts⟩ (c_X0_stand l D T (x 22) (x 3) r4.2 u_this_yard (1) er5) (cwV 2 hts gX6_dayCups_X0_stand rfl rfl rfl (by decide +kernel) ⟨Nat.le_of_ble_eq_true rfl, Nat.le_of_ble_eq_true rfl⟩) (xpvv hP hD hK [2, 1] (by decide) rfl 0 0 rfl rfl (fun _ _ _ => trivial) (fun _ _ _ _ _ _ => trivial)) rfl rfl hl.1 rfl (lv_room (Nat.le_of_ble_eq_true rfl)) dX6_dayCups_36 ⟨Nat.le_of_ble_eq_true rfl, Nat.le_of_ble_eq_true rfl⟩) hP hD hS hA [2, 1] rfl rfl rfl rfl (fun H locs hP hD hS => ?_)
        refine lv_pop hx hb dX6_dayCups_39 rfl ?_
        refine lv_iinc (v := v2.1 + 1) (lv' := [(3, .int (v2.1 + 1)), (0, .ref (x 0)), (1, .int p1), (2, .int p2)]) hx hb dX6_dayCups_40 hl (k := 3) rfl rfl (by decide) rfl (fun ls hl => ?_)
        refine lv_goto (tgt := 9) hx hb dX6_dayCups_43 (by decide) ?_
        exact ih _ (hz1 _ (Option.some.inj hM).symm) _ _ _ hP hD hS (lv_sub hl [1, 2, 3, 0] rfl)
  exact Lv2 _ _ hM _ _ _ hP hD hS (lv_sub hl [1, 2, 3, 0] rfl)
def f_X6_day (N : Nat) (u_this : K6) (u_this_yard : K4) (u_this_shade : K0) (p1 : Int32) (p2 : Int32) : Option (Int32 × K0) :=
  if (f_X6_outside p1 (1) (200)) = (0) then
   (if (f_X6_outside p2 (1) (24)) = (0) then
     ((f_X6_dayCups N u_this u_this_yard u_this_shade p1 p2).bind fun r3 =>
      some (r3.1, r3.2))
    else
     (some ((-1), u_this_shade)))
  else
   (some ((-1), u_this_shade))
set_option maxHeartbeats 4000000 in
set_option maxRecDepth 100000 in
theorem c_X6_day (l : Launch) (D : va_G) (T : xT) (x : Nat → Nat) {sz : Nat} {N : Nat} (u_this : K6) (u_this_yard : K4) (u_this_shade : K0) (p1 : Int32) (p2 : Int32) {rv : Int32 × K0} (hM : f_X6_day N u_this u_this_yard u_this_shade p1 p2 = some rv) : Met l yX6_day wsX6_day ({ frames := 5, cells := 0, slots := 0, locals := 117 } : Room) (va_Pc [.ref (x 0), .int p1, .int p2] (xPre D T [((x 0), .inr (6, o6 x u_this)), ((x 3), .inr (4, o4 u_this_yard)), ((x 22), .inr (0, o0 u_this_shade))] sz xE0)) (va_Qi (fun (r : Int32) (_ : Unit) => r = rv.1) (fun _ => xPost D T [((x 0), .inr (6, o6 x u_this)), ((x 3), .inr (4, o4 u_this_yard)), ((x 22), .inr (0, o0 rv.2))] (va_A [((x 0), .inr (6, o6 x u_this)), ((x 3), .inr (4, o4 u_this_yard)), ((x 22), .inr (0, o0 u_this_shade))] sz)) (va_A [((x 0), .inr (6, o6 x u_this)), ((x 3), .inr (4, o4 u_this_yard)), ((x 22), .inr (0, o0 u_this_shade))] sz)) 0 0 (va_A [((x 0), .inr (6, o6 x u_this)), ((x 3), .inr (4, o4 u_this_yard)), ((x 22), .inr (0, o0 u_this_shade))] sz) := by
  refine xMet (av := [.ref (x 0), .int p1, .int p2]) (Wd := [((x 0), .inr (6, o6 x u_this)), ((x 3), .inr (4, o4 u_this_yard)), ((x 22), .inr (0, o0 u_this_shade))]) (E := xE0) (Qc := fun A => (va_Qi (fun (r : Int32) (_ : Unit) => r = rv.1) (fun _ => xPost D T [((x 0), .inr (6, o6 x u_this)), ((x 3), .inr (4, o4 u_this_yard)), ((x 22), .inr (0, o0 rv.2))] A) A)) (cc := cX6_day) (maxL := 3) (ret := (some .int)) (by decide) rfl (Nat.le_of_ble_eq_true rfl) ?_
  intro p e s m below meth c A ls hx hb hr hml hts hown hlocks hnm hP hK hD hS hA hE hl
  have hown : s.vm.findClass RX6 = some m.cls := hown
  have hl : lv_has ls 3 [(0, .ref (x 0)), (1, .int p1), (2, .int p2)] := hl
  unfold f_X6_day at hM
  refine lv_iload_n hx hb dX6_day_0 rfl (lv_at hl 1 rfl) ?_
  refine lv_iconst (v := 1) hx hb dX6_day_1 (by decide) ?_
  refine lv_sipush (v := 200) hx hb dX6_day_2 (by decide) ?_
  refine xafti (rv := (f_X6_outside p1 (1) (200))) (W2 := [((x 0), .inr (6, o6 x u_this)), ((x 3), .inr (4, o4 u_this_yard)), ((x 22), .inr (0, o0 u_this_shade))]) (va_runS (As := [.int p1, .int (1), .int (200)]) (rest := []) ⟨hx, hb, hml, hown, hts⟩ (c_X6_outside (rv := (f_X6_outside p1 (1) (200))) l D T p1 (1) (200) rfl) (cwS 3 hts gX6_day_X6_outside rfl rfl rfl (by decide +kernel) ⟨Nat.le_of_ble_eq_true rfl, Nat.le_of_ble_eq_true rfl⟩) (xpvs hP hD hK [] (by decide) rfl (fun _ _ _ => trivial) (fun _ _ _ _ _ _ => trivial)) rfl rfl hl.1 rfl (lv_room (Nat.le_of_ble_eq_true rfl)) dX6_day_5 ⟨Nat.le_of_ble_eq_true rfl, Nat.le_of_ble_eq_true rfl⟩) hP hD hS hA [] rfl rfl rfl rfl (fun H locs hP hD hS => ?_)
  refine lv_if_ne (tgt := 21) hx hb dX6_day_8 (by decide) (fun c1 => ?_) (fun c1 => ?_)
  · have hM := xif c1 hM
    refine lv_iconst (v := (-1)) hx hb dX6_day_21 (by decide) ?_
    obtain rfl := Option.some.inj hM
    exact xreti hx hb hr hlocks hP hK hD hS dX6_day_22 rfl
  · have hM := xit c1 hM
    refine lv_iload_n hx hb dX6_day_11 rfl (lv_at hl 2 rfl) ?_
    refine lv_iconst (v := 1) hx hb dX6_day_12 (by decide) ?_
    refine lv_bipush (v := 24) hx hb dX6_day_13 (by decide) ?_
    refine xafti (rv := (f_X6_outside p2 (1) (24))) (W2 := [((x 0), .inr (6, o6 x u_this)), ((x 3), .inr (4, o4 u_this_yard)), ((x 22), .inr (0, o0 u_this_shade))]) (va_runS (As := [.int p2, .int (1), .int (24)]) (rest := []) ⟨hx, hb, hml, hown, hts⟩ (c_X6_outside (rv := (f_X6_outside p2 (1) (24))) l D T p2 (1) (24) rfl) (cwS 3 hts gX6_day_X6_outside rfl rfl rfl (by decide +kernel) ⟨Nat.le_of_ble_eq_true rfl, Nat.le_of_ble_eq_true rfl⟩) (xpvs hP hD hK [] (by decide) rfl (fun _ _ _ => trivial) (fun _ _ _ _ _ _ => trivial)) rfl rfl hl.1 rfl (lv_room (Nat.le_of_ble_eq_true rfl)) dX6_day_15 ⟨Nat.le_of_ble_eq_true rfl, Nat.le_of_ble_eq_true rfl⟩) hP hD hS hA [] rfl rfl rfl rfl (fun H locs hP hD hS => ?_)
    refine lv_if_eq (tgt := 23) hx hb dX6_day_18 (by decide) (fun c2 => ?_) (fun c2 => ?_)
    · have hM := xit c2 hM
      refine lv_aload_n hx hb dX6_day_23 rfl (lv_at hl 0 rfl) ?_
      refine lv_iload_n hx hb dX6_day_24 rfl (lv_at hl 1 rfl) ?_
      refine lv_iload_n hx hb dX6_day_25 rfl (lv_at hl 2 rfl) ?_
      obtain ⟨r3, er3, hM⟩ := xbd hM
      refine xafti (rv := r3.1) (W2 := [((x 0), .inr (6, o6 x u_this)), ((x 3), .inr (4, o4 u_this_yard)), ((x 22), .inr (0, o0 r3.2))]) (va_runV (As := [.int p1, .int p2]) (rest := []) ⟨hx, hb, hml, hown, hts⟩ (c_X6_dayCups l D T x u_this u_this_yard u_this_shade p1 p2 er3) (cwV 2 hts gX6_day_X6_dayCups rfl rfl rfl (by decide +kernel) ⟨Nat.le_of_ble_eq_true rfl, Nat.le_of_ble_eq_true rfl⟩) (xpvv hP hD hK [0, 1, 2] (by decide) rfl 0 6 rfl rfl (fun _ _ _ => trivial) (fun _ _ _ _ _ _ => trivial)) rfl rfl hl.1 rfl (lv_room (Nat.le_of_ble_eq_true rfl)) dX6_day_26 ⟨Nat.le_of_ble_eq_true rfl, Nat.le_of_ble_eq_true rfl⟩) hP hD hS hA [0, 1, 2] rfl rfl rfl rfl (fun H locs hP hD hS => ?_)
      obtain rfl := Option.some.inj hM
      exact xreti hx hb hr hlocks hP hK hD hS dX6_day_29 rfl
    · have hM := xif c2 hM
      refine lv_iconst (v := (-1)) hx hb dX6_day_21 (by decide) ?_
      obtain rfl := Option.some.inj hM
      exact xreti hx hb hr hlocks hP hK hD hS dX6_day_22 rfl
def s_X6_pace_19 (N : Nat) (u_this : K6) (u_this_yard : K4) (p1 : Int32) (v2 : Int32 × Int32 × Int32 × K0) : Option ((Int32 × Int32 × Int32 × K0) ⊕ (Int32 × Int32 × Int32 × K0)) :=
  if (200) < v2.2.2.1 then
   (some (.inr (v2.1, v2.2.1, v2.2.2.1, v2.2.2.2)))
  else
   ((f_X6_dayCups N u_this u_this_yard v2.2.2.2 v2.2.2.1 p1).bind fun r4 =>
    if r4.1 ≤ v2.2.1 then
     (some (.inl (v2.1, v2.2.1, v2.2.2.1 + 1, r4.2)))
    else
     (some (.inl (v2.2.2.1, r4.1, v2.2.2.1 + 1, r4.2))))
def f_X6_pace (N : Nat) (u_this : K6) (u_this_yard : K4) (u_this_shade : K0) (p1 : Int32) : Option (Int32 × K0) :=
  if (f_X6_outside p1 (1) (24)) = (0) then
   ((xlp (s_X6_pace_19 N u_this u_this_yard p1) N (1, (-1), 1, u_this_shade)).bind fun v6 =>
    some (v6.1, v6.2.2.2))
  else
   (some ((-1), u_this_shade))
set_option maxHeartbeats 4000000 in
set_option maxRecDepth 100000 in
theorem c_X6_pace (l : Launch) (D : va_G) (T : xT) (x : Nat → Nat) {sz : Nat} {N : Nat} (u_this : K6) (u_this_yard : K4) (u_this_shade : K0) (p1 : Int32) {rv : Int32 × K0} (hM : f_X6_pace N u_this u_this_yard u_this_shade p1 = some rv) : Met l yX6_pace wsX6_pace ({ frames := 5, cells := 0, slots := 0, locals := 117 } : Room) (va_Pc [.ref (x 0), .int p1] (xPre D T [((x 0), .inr (6, o6 x u_this)), ((x 3), .inr (4, o4 u_this_yard)), ((x 22), .inr (0, o0 u_this_shade))] sz xE0)) (va_Qi (fun (r : Int32) (_ : Unit) => r = rv.1) (fun _ => xPost D T [((x 0), .inr (6, o6 x u_this)), ((x 3), .inr (4, o4 u_this_yard)), ((x 22), .inr (0, o0 rv.2))] (va_A [((x 0), .inr (6, o6 x u_this)), ((x 3), .inr (4, o4 u_this_yard)), ((x 22), .inr (0, o0 u_this_shade))] sz)) (va_A [((x 0), .inr (6, o6 x u_this)), ((x 3), .inr (4, o4 u_this_yard)), ((x 22), .inr (0, o0 u_this_shade))] sz)) 0 0 (va_A [((x 0), .inr (6, o6 x u_this)), ((x 3), .inr (4, o4 u_this_yard)), ((x 22), .inr (0, o0 u_this_shade))] sz) := by
  refine xMet (av := [.ref (x 0), .int p1]) (Wd := [((x 0), .inr (6, o6 x u_this)), ((x 3), .inr (4, o4 u_this_yard)), ((x 22), .inr (0, o0 u_this_shade))]) (E := xE0) (Qc := fun A => (va_Qi (fun (r : Int32) (_ : Unit) => r = rv.1) (fun _ => xPost D T [((x 0), .inr (6, o6 x u_this)), ((x 3), .inr (4, o4 u_this_yard)), ((x 22), .inr (0, o0 rv.2))] A) A)) (cc := cX6_pace) (maxL := 6) (ret := (some .int)) (by decide) rfl (Nat.le_of_ble_eq_true rfl) ?_
  intro p e s m below meth c A ls hx hb hr hml hts hown hlocks hnm hP hK hD hS hA hE hl
  have hown : s.vm.findClass RX6 = some m.cls := hown
  have hl : lv_has ls 6 [(0, .ref (x 0)), (1, .int p1)] := hl
  unfold f_X6_pace at hM
  refine lv_iload_n hx hb dX6_pace_0 rfl (lv_at hl 1 rfl) ?_
  refine lv_iconst (v := 1) hx hb dX6_pace_1 (by decide) ?_
  refine lv_bipush (v := 24) hx hb dX6_pace_2 (by decide) ?_
  refine xafti (rv := (f_X6_outside p1 (1) (24))) (W2 := [((x 0), .inr (6, o6 x u_this)), ((x 3), .inr (4, o4 u_this_yard)), ((x 22), .inr (0, o0 u_this_shade))]) (va_runS (As := [.int p1, .int (1), .int (24)]) (rest := []) ⟨hx, hb, hml, hown, hts⟩ (c_X6_outside (rv := (f_X6_outside p1 (1) (24))) l D T p1 (1) (24) rfl) (cwS 3 hts gX6_pace_X6_outside rfl rfl rfl (by decide +kernel) ⟨Nat.le_of_ble_eq_true rfl, Nat.le_of_ble_eq_true rfl⟩) (xpvs hP hD hK [] (by decide) rfl (fun _ _ _ => trivial) (fun _ _ _ _ _ _ => trivial)) rfl rfl hl.1 rfl (lv_room (Nat.le_of_ble_eq_true rfl)) dX6_pace_4 ⟨Nat.le_of_ble_eq_true rfl, Nat.le_of_ble_eq_true rfl⟩) hP hD hS hA [] rfl rfl rfl rfl (fun H locs hP hD hS => ?_)
  refine lv_if_eq (tgt := 12) hx hb dX6_pace_7 (by decide) (fun c1 => ?_) (fun c1 => ?_)
  · have hM := xit c1 hM
    refine lv_iconst (v := 1) hx hb dX6_pace_12 (by decide) ?_
    refine lv_istore_n (lv' := [(2, .int (1)), (0, .ref (x 0)), (1, .int p1)]) hx hb dX6_pace_13 rfl hl (by decide) rfl (fun ls hl => ?_)
    refine lv_iconst (v := (-1)) hx hb dX6_pace_14 (by decide) ?_
    refine lv_istore_n (lv' := [(3, .int (-1)), (2, .int (1)), (0, .ref (x 0)), (1, .int p1)]) hx hb dX6_pace_15 rfl hl (by decide) rfl (fun ls hl => ?_)
    refine lv_iconst (v := 1) hx hb dX6_pace_16 (by decide) ?_
    refine lv_istore (lv' := [(4, .int (1)), (3, .int (-1)), (2, .int (1)), (0, .ref (x 0)), (1, .int p1)]) hx hb dX6_pace_17 hl (by decide) rfl (fun ls hl => ?_)
    obtain ⟨v6, hM, hNv6⟩ := xbd hM
    have hQv6 := hM
    have Kv6 : ∀ (H : Heap) (locs : List Loc) (ls : Array Slot), va_P D vwCl [((x 0), .inr (6, o6 x u_this)), ((x 3), .inr (4, o4 u_this_yard)), ((x 22), .inr (0, o0 v6.2.2.2))] H → va_D A [((x 0), .inr (6, o6 x u_this)), ((x 3), .inr (4, o4 u_this_yard)), ((x 22), .inr (0, o0 v6.2.2.2))] → va_S A s.heap H locs → lv_has ls 6 [(2, .int v6.1)] → W p l e ({ frames := 5, cells := 0, slots := 0, locals := 117 } : Room) s m ([.ref (x 0), .int p1] : List Value).toArray below meth c H locs 0 0 (MQ below (va_Qi (fun (r : Int32) (_ : Unit) => r = rv.1) (fun _ => xPost D T [((x 0), .inr (6, o6 x u_this)), ((x 3), .inr (4, o4 u_this_yard)), ((x 22), .inr (0, o0 rv.2))] A) A) ([.ref (x 0), .int p1] : List Value).toArray s 0 0 A) (F0 m 54 ls []) := by
      intro H locs ls hP hD hS hl
      have hM := hNv6
      refine lv_iload_n hx hb dX6_pace_54 rfl (lv_at hl 0 rfl) ?_
      obtain rfl := Option.some.inj hM
      exact xreti hx hb hr hlocks hP hK hD hS dX6_pace_55 rfl
    have Lv2 : ∀ (n : Nat) (v2 : Int32 × Int32 × Int32 × K0), xlp (s_X6_pace_19 N u_this u_this_yard p1) n v2 = some v6 → ∀ (H : Heap) (locs : List Loc) (ls : Array Slot), va_P D vwCl [((x 0), .inr (6, o6 x u_this)), ((x 3), .inr (4, o4 u_this_yard)), ((x 22), .inr (0, o0 v2.2.2.2))] H → va_D A [((x 0), .inr (6, o6 x u_this)), ((x 3), .inr (4, o4 u_this_yard)), ((x 22), .inr (0, o0 v2.2.2.2))] → va_S A s.heap H locs → lv_has ls 6 [(0, .ref (x 0)), (1, .int p1), (2, .int v2.1), (3, .int v2.2.1), (4, .int v2.2.2.1)] → W p l e ({ frames := 5, cells := 0, slots := 0, locals := 117 } : Room) s m ([.ref (x 0), .int p1] : List Value).toArray below meth c H locs 0 0 (MQ below (va_Qi (fun (r : Int32) (_ : Unit) => r = rv.1) (fun _ => xPost D T [((x 0), .inr (6, o6 x u_this)), ((x 3), .inr (4, o4 u_this_yard)), ((x 22), .inr (0, o0 rv.2))] A) A) ([.ref (x 0), .int p1] : List Value).toArray s 0 0 A) (F0 m 19 ls []) := by
      intro n
      induction n with
      | zero => exact fun _ h => (xlp_0 h).elim
      | succ n ih =>
        intro v2 hM H locs ls hP hD hS hl
        obtain ⟨z, hM, hz1, hz2⟩ := xlp_s hM
        unfold s_X6_pace_19 at hM
        refine lv_iload hx hb dX6_pace_19 (lv_at hl 4 rfl) ?_
        refine lv_sipush (v := 200) hx hb dX6_pace_21 (by decide) ?_
        refine lv_icmp_gt (tgt := 54) hx hb dX6_pace_24 (by decide) (fun c3 => ?_) (fun c3 => ?_)
        · have hM := xit c3 hM
          obtain rfl := hz2 _ (Option.some.inj hM).symm
          exact Kv6 _ _ _ hP hD hS (lv_sub hl [2] rfl)
        · have hM := xif c3 hM
          refine lv_aload_n hx hb dX6_pace_27 rfl (lv_at hl 0 rfl) ?_
          refine lv_iload hx hb dX6_pace_28 (lv_at hl 4 rfl) ?_
          refine lv_iload_n hx hb dX6_pace_30 rfl (lv_at hl 1 rfl) ?_
          obtain ⟨r4, er4, hM⟩ := xbd hM
          refine xafti (rv := r4.1) (W2 := [((x 0), .inr (6, o6 x u_this)), ((x 3), .inr (4, o4 u_this_yard)), ((x 22), .inr (0, o0 r4.2))]) (va_runV (As := [.int v2.2.2.1, .int p1]) (rest := []) ⟨hx, hb, hml, hown, hts⟩ (c_X6_dayCups l D T x u_this u_this_yard v2.2.2.2 v2.2.2.1 p1 er4) (cwV 2 hts gX6_pace_X6_dayCups rfl rfl rfl (by decide +kernel) ⟨Nat.le_of_ble_eq_true rfl, Nat.le_of_ble_eq_true rfl⟩) (xpvv hP hD hK [0, 1, 2] (by decide) rfl 0 6 rfl rfl (fun _ _ _ => trivial) (fun _ _ _ _ _ _ => trivial)) rfl rfl hl.1 rfl (lv_room (Nat.le_of_ble_eq_true rfl)) dX6_pace_31 ⟨Nat.le_of_ble_eq_true rfl, Nat.le_of_ble_eq_true rfl⟩) hP hD hS hA [0, 1, 2] rfl rfl rfl rfl (fun H locs hP hD hS => ?_)
          refine lv_istore (lv' := [(5, .int r4.1), (0, .ref (x 0)), (1, .int p1), (2, .int v2.1), (3, .int v2.2.1), (4, .int v2.2.2.1)]) hx hb dX6_pace_34 hl (by decide) rfl (fun ls hl => ?_)
          refine lv_iload hx hb dX6_pace_36 (lv_at hl 0 rfl) ?_
          refine lv_iload_n hx hb dX6_pace_38 rfl (lv_at hl 4 rfl) ?_
          refine lv_icmp_le (tgt := 48) hx hb dX6_pace_39 (by decide) (fun c5 => ?_) (fun c5 => ?_)
          · have hM := xit c5 hM
            refine lv_iinc (v := v2.2.2.1 + 1) (lv' := [(4, .int (v2.2.2.1 + 1)), (5, .int r4.1), (0, .ref (x 0)), (1, .int p1), (2, .int v2.1), (3, .int v2.2.1)]) hx hb dX6_pace_48 hl (k := 5) rfl rfl (by decide) rfl (fun ls hl => ?_)
            refine lv_goto (tgt := 19) hx hb dX6_pace_51 (by decide) ?_
            exact ih _ (hz1 _ (Option.some.inj hM).symm) _ _ _ hP hD hS (lv_sub hl [2, 3, 4, 5, 0] rfl)
          · have hM := xif c5 hM
            refine lv_iload hx hb dX6_pace_42 (lv_at hl 0 rfl) ?_
            refine lv_istore_n (lv' := [(3, .int r4.1), (5, .int r4.1), (0, .ref (x 0)), (1, .int p1), (2, .int v2.1), (4, .int v2.2.2.1)]) hx hb dX6_pace_44 rfl hl (by decide) rfl (fun ls hl => ?_)
            refine lv_iload hx hb dX6_pace_45 (lv_at hl 5 rfl) ?_
            refine lv_istore_n (lv' := [(2, .int v2.2.2.1), (3, .int r4.1), (5, .int r4.1), (0, .ref (x 0)), (1, .int p1), (4, .int v2.2.2.1)]) hx hb dX6_pace_47 rfl hl (by decide) rfl (fun ls hl => ?_)
            refine lv_iinc (v := v2.2.2.1 + 1) (lv' := [(4, .int (v2.2.2.1 + 1)), (2, .int v2.2.2.1), (3, .int r4.1), (5, .int r4.1), (0, .ref (x 0)), (1, .int p1)]) hx hb dX6_pace_48 hl (k := 5) rfl rfl (by decide) rfl (fun ls hl => ?_)
            refine lv_goto (tgt := 19) hx hb dX6_pace_51 (by decide) ?_
            exact ih _ (hz1 _ (Option.some.inj hM).symm) _ _ _ hP hD hS (lv_sub hl [4, 5, 1, 2, 0] rfl)
    exact Lv2 _ _ hM _ _ _ hP hD hS (lv_sub hl [3, 4, 2, 1, 0] rfl)
  · have hM := xif c1 hM
    refine lv_iconst (v := (-1)) hx hb dX6_pace_10 (by decide) ?_
    obtain rfl := Option.some.inj hM
    exact xreti hx hb hr hlocks hP hK hD hS dX6_pace_11 rfl
def s_X6_firstOfTwo_13 (N : Nat) (u_this_yard : K4) (p1 : Int32) (p2 : Int32) (p3 : Int32) (v2 : Int32 × Int32 × K0) : Option ((Int32 × Int32 × K0) ⊕ (Int32 × Int32 × K0)) :=
  if p3 ≤ v2.2.1 then
   (some (.inr (v2.1, v2.2.1, v2.2.2)))
  else
   ((f_X0_pull N v2.2.2 u_this_yard ((10) * p1)).bind fun r4 =>
    (f_X0_pull N r4.2 u_this_yard ((10) * p2)).bind fun r5 =>
    (f_X0_stand N r5.2 u_this_yard (1)).bind fun r6 =>
    some (.inl ((v2.1 + r4.1), v2.2.1 + 1, r6.2)))
def f_X6_firstOfTwo (N : Nat) (u_this : K6) (u_this_yard : K4) (u_this_shade : K0) (p1 : Int32) (p2 : Int32) (p3 : Int32) : Option (Int32 × K0) :=
  (some (f_X0_startFull u_this_shade) : Option (K0)).bind fun r1 =>
  (xlp (s_X6_firstOfTwo_13 N u_this_yard p1 p2 p3) N (0, 0, r1)).bind fun v7 =>
  some (v7.1, v7.2.2)
set_option maxHeartbeats 4000000 in
set_option maxRecDepth 100000 in
theorem c_X6_firstOfTwo (l : Launch) (D : va_G) (T : xT) (x : Nat → Nat) {sz : Nat} {N : Nat} (u_this : K6) (u_this_yard : K4) (u_this_shade : K0) (p1 : Int32) (p2 : Int32) (p3 : Int32) {rv : Int32 × K0} (hM : f_X6_firstOfTwo N u_this u_this_yard u_this_shade p1 p2 p3 = some rv) : Met l yX6_firstOfTwo wsX6_firstOfTwo ({ frames := 4, cells := 0, slots := 0, locals := 94 } : Room) (va_Pc [.ref (x 0), .int p1, .int p2, .int p3] (xPre D T [((x 0), .inr (6, o6 x u_this)), ((x 3), .inr (4, o4 u_this_yard)), ((x 22), .inr (0, o0 u_this_shade))] sz xE0)) (va_Qi (fun (r : Int32) (_ : Unit) => r = rv.1) (fun _ => xPost D T [((x 0), .inr (6, o6 x u_this)), ((x 3), .inr (4, o4 u_this_yard)), ((x 22), .inr (0, o0 rv.2))] (va_A [((x 0), .inr (6, o6 x u_this)), ((x 3), .inr (4, o4 u_this_yard)), ((x 22), .inr (0, o0 u_this_shade))] sz)) (va_A [((x 0), .inr (6, o6 x u_this)), ((x 3), .inr (4, o4 u_this_yard)), ((x 22), .inr (0, o0 u_this_shade))] sz)) 0 0 (va_A [((x 0), .inr (6, o6 x u_this)), ((x 3), .inr (4, o4 u_this_yard)), ((x 22), .inr (0, o0 u_this_shade))] sz) := by
  refine xMet (av := [.ref (x 0), .int p1, .int p2, .int p3]) (Wd := [((x 0), .inr (6, o6 x u_this)), ((x 3), .inr (4, o4 u_this_yard)), ((x 22), .inr (0, o0 u_this_shade))]) (E := xE0) (Qc := fun A => (va_Qi (fun (r : Int32) (_ : Unit) => r = rv.1) (fun _ => xPost D T [((x 0), .inr (6, o6 x u_this)), ((x 3), .inr (4, o4 u_this_yard)), ((x 22), .inr (0, o0 rv.2))] A) A)) (cc := cX6_firstOfTwo) (maxL := 6) (ret := (some .int)) (by decide) rfl (Nat.le_of_ble_eq_true rfl) ?_
  intro p e s m below meth c A ls hx hb hr hml hts hown hlocks hnm hP hK hD hS hA hE hl
  have hown : s.vm.findClass RX6 = some m.cls := hown
  have hl : lv_has ls 6 [(0, .ref (x 0)), (1, .int p1), (2, .int p2), (3, .int p3)] := hl
  unfold f_X6_firstOfTwo at hM
  refine lv_iconst (v := 0) hx hb dX6_firstOfTwo_0 (by decide) ?_
  refine lv_istore (lv' := [(4, .int (0)), (0, .ref (x 0)), (1, .int p1), (2, .int p2), (3, .int p3)]) hx hb dX6_firstOfTwo_1 hl (by decide) rfl (fun ls hl => ?_)
  refine lv_aload_n hx hb dX6_firstOfTwo_3 rfl (lv_at hl 1 rfl) ?_
  refine va_get (D := D) (ci := 6) (v := .ref (x 22)) (C := RX6) (T := TX6) (N := 16) hx hb hts (fun w h => List.mem_cons_of_mem _ (List.mem_append_left _ (List.mem_append_left _ (List.mem_append_right _ h)))) hown hK hP 0 rfl rfl 12 (by decide) (hts _ (List.mem_of_getElem? (i := 1) rfl)) (fun _ h9 => h9) rfl dX6_firstOfTwo_4 ?_
  obtain ⟨r1, er1, hM⟩ := xbd hM
  refine xaftv (W2 := [((x 0), .inr (6, o6 x u_this)), ((x 3), .inr (4, o4 u_this_yard)), ((x 22), .inr (0, o0 r1))]) (va_runV (As := []) (rest := []) ⟨hx, hb, hml, hown, hts⟩ (c_X0_startFull l D T (x 22) u_this_shade (Option.some.inj er1)) (cwV 0 hts gX6_firstOfTwo_X0_startFull rfl rfl rfl (by decide +kernel) ⟨Nat.le_of_ble_eq_true rfl, Nat.le_of_ble_eq_true rfl⟩) (xpvv hP hD hK [2] (by decide) rfl 0 0 rfl rfl (fun _ _ _ => trivial) (fun _ _ _ _ _ _ => trivial)) rfl rfl hl.1 rfl (lv_room (Nat.le_of_ble_eq_true rfl)) dX6_firstOfTwo_7 ⟨Nat.le_of_ble_eq_true rfl, Nat.le_of_ble_eq_true rfl⟩) hP hD hS hA [2] rfl rfl rfl rfl (fun H locs hP hD hS => ?_)
  refine lv_iconst (v := 0) hx hb dX6_firstOfTwo_10 (by decide) ?_
  refine lv_istore (lv' := [(5, .int (0)), (4, .int (0)), (0, .ref (x 0)), (1, .int p1), (2, .int p2), (3, .int p3)]) hx hb dX6_firstOfTwo_11 hl (by decide) rfl (fun ls hl => ?_)
  obtain ⟨v7, hM, hNv7⟩ := xbd hM
  have hQv7 := hM
  have Kv7 : ∀ (H : Heap) (locs : List Loc) (ls : Array Slot), va_P D vwCl [((x 0), .inr (6, o6 x u_this)), ((x 3), .inr (4, o4 u_this_yard)), ((x 22), .inr (0, o0 v7.2.2))] H → va_D A [((x 0), .inr (6, o6 x u_this)), ((x 3), .inr (4, o4 u_this_yard)), ((x 22), .inr (0, o0 v7.2.2))] → va_S A s.heap H locs → lv_has ls 6 [(4, .int v7.1)] → W p l e ({ frames := 4, cells := 0, slots := 0, locals := 94 } : Room) s m ([.ref (x 0), .int p1, .int p2, .int p3] : List Value).toArray below meth c H locs 0 0 (MQ below (va_Qi (fun (r : Int32) (_ : Unit) => r = rv.1) (fun _ => xPost D T [((x 0), .inr (6, o6 x u_this)), ((x 3), .inr (4, o4 u_this_yard)), ((x 22), .inr (0, o0 rv.2))] A) A) ([.ref (x 0), .int p1, .int p2, .int p3] : List Value).toArray s 0 0 A) (F0 m 74 ls []) := by
    intro H locs ls hP hD hS hl
    have hM := hNv7
    refine lv_iload hx hb dX6_firstOfTwo_74 (lv_at hl 0 rfl) ?_
    obtain rfl := Option.some.inj hM
    exact xreti hx hb hr hlocks hP hK hD hS dX6_firstOfTwo_76 rfl
  have Lv2 : ∀ (n : Nat) (v2 : Int32 × Int32 × K0), xlp (s_X6_firstOfTwo_13 N u_this_yard p1 p2 p3) n v2 = some v7 → ∀ (H : Heap) (locs : List Loc) (ls : Array Slot), va_P D vwCl [((x 0), .inr (6, o6 x u_this)), ((x 3), .inr (4, o4 u_this_yard)), ((x 22), .inr (0, o0 v2.2.2))] H → va_D A [((x 0), .inr (6, o6 x u_this)), ((x 3), .inr (4, o4 u_this_yard)), ((x 22), .inr (0, o0 v2.2.2))] → va_S A s.heap H locs → lv_has ls 6 [(0, .ref (x 0)), (1, .int p1), (2, .int p2), (3, .int p3), (4, .int v2.1), (5, .int v2.2.1)] → W p l e ({ frames := 4, cells := 0, slots := 0, locals := 94 } : Room) s m ([.ref (x 0), .int p1, .int p2, .int p3] : List Value).toArray below meth c H locs 0 0 (MQ below (va_Qi (fun (r : Int32) (_ : Unit) => r = rv.1) (fun _ => xPost D T [((x 0), .inr (6, o6 x u_this)), ((x 3), .inr (4, o4 u_this_yard)), ((x 22), .inr (0, o0 rv.2))] A) A) ([.ref (x 0), .int p1, .int p2, .int p3] : List Value).toArray s 0 0 A) (F0 m 13 ls []) := by
    intro n
    induction n with
    | zero => exact fun _ h => (xlp_0 h).elim
    | succ n ih =>
      intro v2 hM H locs ls hP hD hS hl
      obtain ⟨z, hM, hz1, hz2⟩ := xlp_s hM
      unfold s_X6_firstOfTwo_13 at hM
      refine lv_iload hx hb dX6_firstOfTwo_13 (lv_at hl 5 rfl) ?_
      refine lv_iload_n hx hb dX6_firstOfTwo_15 rfl (lv_at hl 3 rfl) ?_
      refine lv_icmp_ge (tgt := 74) hx hb dX6_firstOfTwo_16 (by decide) (fun c3 => ?_) (fun c3 => ?_)
      · have hM := xit c3 hM
        obtain rfl := hz2 _ (Option.some.inj hM).symm
        exact Kv7 _ _ _ hP hD hS (lv_sub hl [4] rfl)
      · have hM := xif c3 hM
        refine lv_iload hx hb dX6_firstOfTwo_19 (lv_at hl 4 rfl) ?_
        refine lv_aload_n hx hb dX6_firstOfTwo_21 rfl (lv_at hl 0 rfl) ?_
        refine va_get (D := D) (ci := 6) (v := .ref (x 22)) (C := RX6) (T := TX6) (N := 16) hx hb hts (fun w h => List.mem_cons_of_mem _ (List.mem_append_left _ (List.mem_append_left _ (List.mem_append_right _ h)))) hown hK hP 0 rfl rfl 12 (by decide) (hts _ (List.mem_of_getElem? (i := 1) rfl)) (fun _ h9 => h9) rfl dX6_firstOfTwo_22 ?_
        refine lv_aload_n hx hb dX6_firstOfTwo_25 rfl (lv_at hl 0 rfl) ?_
        refine va_get (D := D) (ci := 6) (v := .ref (x 3)) (C := RX6) (T := TX6) (N := 16) hx hb hts (fun w h => List.mem_cons_of_mem _ (List.mem_append_left _ (List.mem_append_left _ (List.mem_append_right _ h)))) hown hK hP 0 rfl rfl 1 (by decide) (hts _ (List.mem_of_getElem? (i := 2) rfl)) (fun _ h9 => h9) rfl dX6_firstOfTwo_26 ?_
        refine lv_bipush (v := 10) hx hb dX6_firstOfTwo_29 (by decide) ?_
        refine lv_iload_n hx hb dX6_firstOfTwo_31 rfl (lv_at hl 1 rfl) ?_
        refine lv_imul hx hb dX6_firstOfTwo_32 ?_
        obtain ⟨r4, er4, hM⟩ := xbd hM
        refine xafti (rv := r4.1) (W2 := [((x 0), .inr (6, o6 x u_this)), ((x 3), .inr (4, o4 u_this_yard)), ((x 22), .inr (0, o0 r4.2))]) (va_runV (As := [.ref (x 3), .int ((10) * p1)]) (rest := [.int v2.1]) ⟨hx, hb, hml, hown, hts⟩ (c_X0_pull l D T (x 22) (x 3) v2.2.2 u_this_yard ((10) * p1) er4) (cwV 2 hts gX6_firstOfTwo_X0_pull rfl rfl rfl (by decide +kernel) ⟨Nat.le_of_ble_eq_true rfl, Nat.le_of_ble_eq_true rfl⟩) (xpvv hP hD hK [2, 1] (by decide) rfl 0 0 rfl rfl (fun _ _ _ => trivial) (fun _ _ _ _ _ _ => trivial)) rfl rfl hl.1 rfl (lv_room (Nat.le_of_ble_eq_true rfl)) dX6_firstOfTwo_33 ⟨Nat.le_of_ble_eq_true rfl, Nat.le_of_ble_eq_true rfl⟩) hP hD hS hA [2, 1] rfl rfl rfl rfl (fun H locs hP hD hS => ?_)
        refine lv_iadd hx hb dX6_firstOfTwo_36 ?_
        refine lv_istore (lv' := [(4, .int (v2.1 + r4.1)), (0, .ref (x 0)), (1, .int p1), (2, .int p2), (3, .int p3), (5, .int v2.2.1)]) hx hb dX6_firstOfTwo_37 hl (by decide) rfl (fun ls hl => ?_)
        refine lv_aload_n hx hb dX6_firstOfTwo_39 rfl (lv_at hl 1 rfl) ?_
        refine va_get (D := D) (ci := 6) (v := .ref (x 22)) (C := RX6) (T := TX6) (N := 16) hx hb hts (fun w h => List.mem_cons_of_mem _ (List.mem_append_left _ (List.mem_append_left _ (List.mem_append_right _ h)))) hown hK hP 0 rfl rfl 12 (by decide) (hts _ (List.mem_of_getElem? (i := 1) rfl)) (fun _ h9 => h9) rfl dX6_firstOfTwo_40 ?_
        refine lv_aload_n hx hb dX6_firstOfTwo_43 rfl (lv_at hl 1 rfl) ?_
        refine va_get (D := D) (ci := 6) (v := .ref (x 3)) (C := RX6) (T := TX6) (N := 16) hx hb hts (fun w h => List.mem_cons_of_mem _ (List.mem_append_left _ (List.mem_append_left _ (List.mem_append_right _ h)))) hown hK hP 0 rfl rfl 1 (by decide) (hts _ (List.mem_of_getElem? (i := 2) rfl)) (fun _ h9 => h9) rfl dX6_firstOfTwo_44 ?_
        refine lv_bipush (v := 10) hx hb dX6_firstOfTwo_47 (by decide) ?_
        refine lv_iload_n hx hb dX6_firstOfTwo_49 rfl (lv_at hl 3 rfl) ?_
        refine lv_imul hx hb dX6_firstOfTwo_50 ?_
        obtain ⟨r5, er5, hM⟩ := xbd hM
        refine xafti (rv := r5.1) (W2 := [((x 0), .inr (6, o6 x u_this)), ((x 3), .inr (4, o4 u_this_yard)), ((x 22), .inr (0, o0 r5.2))]) (va_runV (As := [.ref (x 3), .int ((10) * p2)]) (rest := []) ⟨hx, hb, hml, hown, hts⟩ (c_X0_pull l D T (x 22) (x 3) r4.2 u_this_yard ((10) * p2) er5) (cwV 2 hts gX6_firstOfTwo_X0_pull rfl rfl rfl (by decide +kernel) ⟨Nat.le_of_ble_eq_true rfl, Nat.le_of_ble_eq_true rfl⟩) (xpvv hP hD hK [2, 1] (by decide) rfl 0 0 rfl rfl (fun _ _ _ => trivial) (fun _ _ _ _ _ _ => trivial)) rfl rfl hl.1 rfl (lv_room (Nat.le_of_ble_eq_true rfl)) dX6_firstOfTwo_51 ⟨Nat.le_of_ble_eq_true rfl, Nat.le_of_ble_eq_true rfl⟩) hP hD hS hA [2, 1] rfl rfl rfl rfl (fun H locs hP hD hS => ?_)
        refine lv_pop hx hb dX6_firstOfTwo_54 rfl ?_
        refine lv_aload_n hx hb dX6_firstOfTwo_55 rfl (lv_at hl 1 rfl) ?_
        refine va_get (D := D) (ci := 6) (v := .ref (x 22)) (C := RX6) (T := TX6) (N := 16) hx hb hts (fun w h => List.mem_cons_of_mem _ (List.mem_append_left _ (List.mem_append_left _ (List.mem_append_right _ h)))) hown hK hP 0 rfl rfl 12 (by decide) (hts _ (List.mem_of_getElem? (i := 1) rfl)) (fun _ h9 => h9) rfl dX6_firstOfTwo_56 ?_
        refine lv_aload_n hx hb dX6_firstOfTwo_59 rfl (lv_at hl 1 rfl) ?_
        refine va_get (D := D) (ci := 6) (v := .ref (x 3)) (C := RX6) (T := TX6) (N := 16) hx hb hts (fun w h => List.mem_cons_of_mem _ (List.mem_append_left _ (List.mem_append_left _ (List.mem_append_right _ h)))) hown hK hP 0 rfl rfl 1 (by decide) (hts _ (List.mem_of_getElem? (i := 2) rfl)) (fun _ h9 => h9) rfl dX6_firstOfTwo_60 ?_
        refine lv_iconst (v := 1) hx hb dX6_firstOfTwo_63 (by decide) ?_
        obtain ⟨r6, er6, hM⟩ := xbd hM
        refine xafti (rv := r6.1) (W2 := [((x 0), .inr (6, o6 x u_this)), ((x 3), .inr (4, o4 u_this_yard)), ((x 22), .inr (0, o0 r6.2))]) (va_runV (As := [.ref (x 3), .int (1)]) (rest := []) ⟨hx, hb, hml, hown, hts⟩ (c_X0_stand l D T (x 22) (x 3) r5.2 u_this_yard (1) er6) (cwV 2 hts gX6_firstOfTwo_X0_stand rfl rfl rfl (by decide +kernel) ⟨Nat.le_of_ble_eq_true rfl, Nat.le_of_ble_eq_true rfl⟩) (xpvv hP hD hK [2, 1] (by decide) rfl 0 0 rfl rfl (fun _ _ _ => trivial) (fun _ _ _ _ _ _ => trivial)) rfl rfl hl.1 rfl (lv_room (Nat.le_of_ble_eq_true rfl)) dX6_firstOfTwo_64 ⟨Nat.le_of_ble_eq_true rfl, Nat.le_of_ble_eq_true rfl⟩) hP hD hS hA [2, 1] rfl rfl rfl rfl (fun H locs hP hD hS => ?_)
        refine lv_pop hx hb dX6_firstOfTwo_67 rfl ?_
        refine lv_iinc (v := v2.2.1 + 1) (lv' := [(5, .int (v2.2.1 + 1)), (4, .int (v2.1 + r4.1)), (0, .ref (x 0)), (1, .int p1), (2, .int p2), (3, .int p3)]) hx hb dX6_firstOfTwo_68 hl (k := 5) rfl rfl (by decide) rfl (fun ls hl => ?_)
        refine lv_goto (tgt := 13) hx hb dX6_firstOfTwo_71 (by decide) ?_
        exact ih _ (hz1 _ (Option.some.inj hM).symm) _ _ _ hP hD hS (lv_sub hl [2, 3, 4, 5, 1, 0] rfl)
  exact Lv2 _ _ hM _ _ _ hP hD hS (lv_sub hl [2, 3, 4, 5, 1, 0] rfl)
def f_X6_two (N : Nat) (u_this : K6) (u_this_yard : K4) (u_this_shade : K0) (p1 : Int32) (p2 : Int32) (p3 : Int32) (p4 : Int32) : Option (Int32 × K0) :=
  if (f_X6_outside p1 (0) (9)) = (0) then
   (if (f_X6_outside p2 (0) (9)) = (0) then
     (if (f_X6_outside p3 (1) (24)) = (0) then
       (if (f_X6_outside p4 (0) (1)) = (0) then
         ((f_X6_firstOfTwo N u_this u_this_yard u_this_shade p1 p2 p3).bind fun r5 =>
          if p4 = (0) then
           (some (r5.1, r5.2))
          else
           (some ((r5.2.2.2.2.1 - r5.1), r5.2)))
        else
         (some ((-1), u_this_shade)))
      else
       (some ((-1), u_this_shade)))
    else
     (some ((-1), u_this_shade)))
  else
   (some ((-1), u_this_shade))
set_option maxHeartbeats 4000000 in
set_option maxRecDepth 100000 in
theorem c_X6_two (l : Launch) (D : va_G) (T : xT) (x : Nat → Nat) {sz : Nat} {N : Nat} (u_this : K6) (u_this_yard : K4) (u_this_shade : K0) (p1 : Int32) (p2 : Int32) (p3 : Int32) (p4 : Int32) {rv : Int32 × K0} (hM : f_X6_two N u_this u_this_yard u_this_shade p1 p2 p3 p4 = some rv) : Met l yX6_two wsX6_two ({ frames := 5, cells := 0, slots := 0, locals := 119 } : Room) (va_Pc [.ref (x 0), .int p1, .int p2, .int p3, .int p4] (xPre D T [((x 0), .inr (6, o6 x u_this)), ((x 3), .inr (4, o4 u_this_yard)), ((x 22), .inr (0, o0 u_this_shade))] sz xE0)) (va_Qi (fun (r : Int32) (_ : Unit) => r = rv.1) (fun _ => xPost D T [((x 0), .inr (6, o6 x u_this)), ((x 3), .inr (4, o4 u_this_yard)), ((x 22), .inr (0, o0 rv.2))] (va_A [((x 0), .inr (6, o6 x u_this)), ((x 3), .inr (4, o4 u_this_yard)), ((x 22), .inr (0, o0 u_this_shade))] sz)) (va_A [((x 0), .inr (6, o6 x u_this)), ((x 3), .inr (4, o4 u_this_yard)), ((x 22), .inr (0, o0 u_this_shade))] sz)) 0 0 (va_A [((x 0), .inr (6, o6 x u_this)), ((x 3), .inr (4, o4 u_this_yard)), ((x 22), .inr (0, o0 u_this_shade))] sz) := by
  refine xMet (av := [.ref (x 0), .int p1, .int p2, .int p3, .int p4]) (Wd := [((x 0), .inr (6, o6 x u_this)), ((x 3), .inr (4, o4 u_this_yard)), ((x 22), .inr (0, o0 u_this_shade))]) (E := xE0) (Qc := fun A => (va_Qi (fun (r : Int32) (_ : Unit) => r = rv.1) (fun _ => xPost D T [((x 0), .inr (6, o6 x u_this)), ((x 3), .inr (4, o4 u_this_yard)), ((x 22), .inr (0, o0 rv.2))] A) A)) (cc := cX6_two) (maxL := 6) (ret := (some .int)) (by decide) rfl (Nat.le_of_ble_eq_true rfl) ?_
  intro p e s m below meth c A ls hx hb hr hml hts hown hlocks hnm hP hK hD hS hA hE hl
  have hown : s.vm.findClass RX6 = some m.cls := hown
  have hl : lv_has ls 6 [(0, .ref (x 0)), (1, .int p1), (2, .int p2), (3, .int p3), (4, .int p4)] := hl
  unfold f_X6_two at hM
  refine lv_iload_n hx hb dX6_two_0 rfl (lv_at hl 1 rfl) ?_
  refine lv_iconst (v := 0) hx hb dX6_two_1 (by decide) ?_
  refine lv_bipush (v := 9) hx hb dX6_two_2 (by decide) ?_
  refine xafti (rv := (f_X6_outside p1 (0) (9))) (W2 := [((x 0), .inr (6, o6 x u_this)), ((x 3), .inr (4, o4 u_this_yard)), ((x 22), .inr (0, o0 u_this_shade))]) (va_runS (As := [.int p1, .int (0), .int (9)]) (rest := []) ⟨hx, hb, hml, hown, hts⟩ (c_X6_outside (rv := (f_X6_outside p1 (0) (9))) l D T p1 (0) (9) rfl) (cwS 3 hts gX6_two_X6_outside rfl rfl rfl (by decide +kernel) ⟨Nat.le_of_ble_eq_true rfl, Nat.le_of_ble_eq_true rfl⟩) (xpvs hP hD hK [] (by decide) rfl (fun _ _ _ => trivial) (fun _ _ _ _ _ _ => trivial)) rfl rfl hl.1 rfl (lv_room (Nat.le_of_ble_eq_true rfl)) dX6_two_4 ⟨Nat.le_of_ble_eq_true rfl, Nat.le_of_ble_eq_true rfl⟩) hP hD hS hA [] rfl rfl rfl rfl (fun H locs hP hD hS => ?_)
  refine lv_if_ne (tgt := 20) hx hb dX6_two_7 (by decide) (fun c1 => ?_) (fun c1 => ?_)
  · have hM := xif c1 hM
    refine lv_iconst (v := (-1)) hx hb dX6_two_20 (by decide) ?_
    obtain rfl := Option.some.inj hM
    exact xreti hx hb hr hlocks hP hK hD hS dX6_two_21 rfl
  · have hM := xit c1 hM
    refine lv_iload_n hx hb dX6_two_10 rfl (lv_at hl 2 rfl) ?_
    refine lv_iconst (v := 0) hx hb dX6_two_11 (by decide) ?_
    refine lv_bipush (v := 9) hx hb dX6_two_12 (by decide) ?_
    refine xafti (rv := (f_X6_outside p2 (0) (9))) (W2 := [((x 0), .inr (6, o6 x u_this)), ((x 3), .inr (4, o4 u_this_yard)), ((x 22), .inr (0, o0 u_this_shade))]) (va_runS (As := [.int p2, .int (0), .int (9)]) (rest := []) ⟨hx, hb, hml, hown, hts⟩ (c_X6_outside (rv := (f_X6_outside p2 (0) (9))) l D T p2 (0) (9) rfl) (cwS 3 hts gX6_two_X6_outside rfl rfl rfl (by decide +kernel) ⟨Nat.le_of_ble_eq_true rfl, Nat.le_of_ble_eq_true rfl⟩) (xpvs hP hD hK [] (by decide) rfl (fun _ _ _ => trivial) (fun _ _ _ _ _ _ => trivial)) rfl rfl hl.1 rfl (lv_room (Nat.le_of_ble_eq_true rfl)) dX6_two_14 ⟨Nat.le_of_ble_eq_true rfl, Nat.le_of_ble_eq_true rfl⟩) hP hD hS hA [] rfl rfl rfl rfl (fun H locs hP hD hS => ?_)
    refine lv_if_eq (tgt := 22) hx hb dX6_two_17 (by decide) (fun c2 => ?_) (fun c2 => ?_)
    · have hM := xit c2 hM
      refine lv_iload_n hx hb dX6_two_22 rfl (lv_at hl 3 rfl) ?_
      refine lv_iconst (v := 1) hx hb dX6_two_23 (by decide) ?_
      refine lv_bipush (v := 24) hx hb dX6_two_24 (by decide) ?_
      refine xafti (rv := (f_X6_outside p3 (1) (24))) (W2 := [((x 0), .inr (6, o6 x u_this)), ((x 3), .inr (4, o4 u_this_yard)), ((x 22), .inr (0, o0 u_this_shade))]) (va_runS (As := [.int p3, .int (1), .int (24)]) (rest := []) ⟨hx, hb, hml, hown, hts⟩ (c_X6_outside (rv := (f_X6_outside p3 (1) (24))) l D T p3 (1) (24) rfl) (cwS 3 hts gX6_two_X6_outside rfl rfl rfl (by decide +kernel) ⟨Nat.le_of_ble_eq_true rfl, Nat.le_of_ble_eq_true rfl⟩) (xpvs hP hD hK [] (by decide) rfl (fun _ _ _ => trivial) (fun _ _ _ _ _ _ => trivial)) rfl rfl hl.1 rfl (lv_room (Nat.le_of_ble_eq_true rfl)) dX6_two_26 ⟨Nat.le_of_ble_eq_true rfl, Nat.le_of_ble_eq_true rfl⟩) hP hD hS hA [] rfl rfl rfl rfl (fun H locs hP hD hS => ?_)
      refine lv_if_ne (tgt := 42) hx hb dX6_two_29 (by decide) (fun c3 => ?_) (fun c3 => ?_)
      · have hM := xif c3 hM
        refine lv_iconst (v := (-1)) hx hb dX6_two_42 (by decide) ?_
        obtain rfl := Option.some.inj hM
        exact xreti hx hb hr hlocks hP hK hD hS dX6_two_43 rfl
      · have hM := xit c3 hM
        refine lv_iload hx hb dX6_two_32 (lv_at hl 4 rfl) ?_
        refine lv_iconst (v := 0) hx hb dX6_two_34 (by decide) ?_
        refine lv_iconst (v := 1) hx hb dX6_two_35 (by decide) ?_
        refine xafti (rv := (f_X6_outside p4 (0) (1))) (W2 := [((x 0), .inr (6, o6 x u_this)), ((x 3), .inr (4, o4 u_this_yard)), ((x 22), .inr (0, o0 u_this_shade))]) (va_runS (As := [.int p4, .int (0), .int (1)]) (rest := []) ⟨hx, hb, hml, hown, hts⟩ (c_X6_outside (rv := (f_X6_outside p4 (0) (1))) l D T p4 (0) (1) rfl) (cwS 3 hts gX6_two_X6_outside rfl rfl rfl (by decide +kernel) ⟨Nat.le_of_ble_eq_true rfl, Nat.le_of_ble_eq_true rfl⟩) (xpvs hP hD hK [] (by decide) rfl (fun _ _ _ => trivial) (fun _ _ _ _ _ _ => trivial)) rfl rfl hl.1 rfl (lv_room (Nat.le_of_ble_eq_true rfl)) dX6_two_36 ⟨Nat.le_of_ble_eq_true rfl, Nat.le_of_ble_eq_true rfl⟩) hP hD hS hA [] rfl rfl rfl rfl (fun H locs hP hD hS => ?_)
        refine lv_if_eq (tgt := 44) hx hb dX6_two_39 (by decide) (fun c4 => ?_) (fun c4 => ?_)
        · have hM := xit c4 hM
          refine lv_aload_n hx hb dX6_two_44 rfl (lv_at hl 0 rfl) ?_
          refine lv_iload_n hx hb dX6_two_45 rfl (lv_at hl 1 rfl) ?_
          refine lv_iload_n hx hb dX6_two_46 rfl (lv_at hl 2 rfl) ?_
          refine lv_iload_n hx hb dX6_two_47 rfl (lv_at hl 3 rfl) ?_
          obtain ⟨r5, er5, hM⟩ := xbd hM
          refine xafti (rv := r5.1) (W2 := [((x 0), .inr (6, o6 x u_this)), ((x 3), .inr (4, o4 u_this_yard)), ((x 22), .inr (0, o0 r5.2))]) (va_runV (As := [.int p1, .int p2, .int p3]) (rest := []) ⟨hx, hb, hml, hown, hts⟩ (c_X6_firstOfTwo l D T x u_this u_this_yard u_this_shade p1 p2 p3 er5) (cwV 3 hts gX6_two_X6_firstOfTwo rfl rfl rfl (by decide +kernel) ⟨Nat.le_of_ble_eq_true rfl, Nat.le_of_ble_eq_true rfl⟩) (xpvv hP hD hK [0, 1, 2] (by decide) rfl 0 6 rfl rfl (fun _ _ _ => trivial) (fun _ _ _ _ _ _ => trivial)) rfl rfl hl.1 rfl (lv_room (Nat.le_of_ble_eq_true rfl)) dX6_two_48 ⟨Nat.le_of_ble_eq_true rfl, Nat.le_of_ble_eq_true rfl⟩) hP hD hS hA [0, 1, 2] rfl rfl rfl rfl (fun H locs hP hD hS => ?_)
          refine lv_istore (lv' := [(5, .int r5.1), (0, .ref (x 0)), (1, .int p1), (2, .int p2), (3, .int p3), (4, .int p4)]) hx hb dX6_two_51 hl (by decide) rfl (fun ls hl => ?_)
          refine lv_iload hx hb dX6_two_53 (lv_at hl 5 rfl) ?_
          refine lv_if_ne (tgt := 63) hx hb dX6_two_55 (by decide) (fun c6 => ?_) (fun c6 => ?_)
          · have hM := xif c6 hM
            refine lv_aload_n hx hb dX6_two_63 rfl (lv_at hl 1 rfl) ?_
            refine va_get (D := D) (ci := 6) (v := .ref (x 22)) (C := RX6) (T := TX6) (N := 16) hx hb hts (fun w h => List.mem_cons_of_mem _ (List.mem_append_left _ (List.mem_append_left _ (List.mem_append_right _ h)))) hown hK hP 0 rfl rfl 12 (by decide) (hts _ (List.mem_of_getElem? (i := 1) rfl)) (fun _ h9 => h9) rfl dX6_two_64 ?_
            refine va_get (D := D) (ci := 0) (v := .int r5.2.2.2.2.1) (C := RX0) (T := TX0) (N := 7) hx hb hts (fun w h => List.mem_cons_of_mem _ (List.mem_append_left _ (List.mem_append_right _ h))) hown hK hP 2 rfl rfl 3 (by decide) (hts _ (List.mem_of_getElem? (i := 2) rfl)) (fun _ h9 => h9) rfl dX6_two_67 ?_
            refine lv_iload hx hb dX6_two_70 (lv_at hl 0 rfl) ?_
            refine lv_isub hx hb dX6_two_72 ?_
            obtain rfl := Option.some.inj hM
            exact xreti hx hb hr hlocks hP hK hD hS dX6_two_73 rfl
          · have hM := xit c6 hM
            refine lv_iload hx hb dX6_two_58 (lv_at hl 0 rfl) ?_
            refine lv_goto (tgt := 73) hx hb dX6_two_60 (by decide) ?_
            obtain rfl := Option.some.inj hM
            exact xreti hx hb hr hlocks hP hK hD hS dX6_two_73 rfl
        · have hM := xif c4 hM
          refine lv_iconst (v := (-1)) hx hb dX6_two_42 (by decide) ?_
          obtain rfl := Option.some.inj hM
          exact xreti hx hb hr hlocks hP hK hD hS dX6_two_43 rfl
    · have hM := xif c2 hM
      refine lv_iconst (v := (-1)) hx hb dX6_two_20 (by decide) ?_
      obtain rfl := Option.some.inj hM
      exact xreti hx hb hr hlocks hP hK hD hS dX6_two_21 rfl
def s_X6_pumpAllPairs_2 (N : Nat) (u_this : K6) (u_this_yard : K4) (p1 : Int32) (v1 : Int32 × K0 × (Nat → Int32) × (Nat → Int32)) : Option ((Int32 × K0 × (Nat → Int32) × (Nat → Int32)) ⊕ (Int32 × K0 × (Nat → Int32) × (Nat → Int32))) :=
  if (100) ≤ v1.1 then
   (some (.inr (v1.1, v1.2.1, v1.2.2.1, v1.2.2.2)))
  else
   ((f_X6_firstOfTwo N u_this u_this_yard v1.2.1 (v1.1 / (10)) (v1.1 - v1.1 / (10) * (10)) p1).bind fun r3 =>
    if xin v1.1 100 = true then
    (some (.inl (v1.1 + 1, r3.2, (upd v1.2.2.1 v1.1.toNatClampNeg r3.1), (upd v1.2.2.2 v1.1.toNatClampNeg (r3.2.2.2.2.1 - r3.1)))))
    else none)
def f_X6_pumpAllPairs (N : Nat) (u_this : K6) (u_this_yard : K4) (u_this_shade : K0) (u_this_firstCups : (Nat → Int32)) (u_this_secondCups : (Nat → Int32)) (p1 : Int32) : Option (K0 × (Nat → Int32) × (Nat → Int32)) :=
  (xlp (s_X6_pumpAllPairs_2 N u_this u_this_yard p1) N (0, u_this_shade, u_this_firstCups, u_this_secondCups)).bind fun v5 =>
  some (v5.2.1, v5.2.2.1, v5.2.2.2)
set_option maxHeartbeats 4000000 in
set_option maxRecDepth 100000 in
theorem c_X6_pumpAllPairs (l : Launch) (D : va_G) (T : xT) (x : Nat → Nat) {sz : Nat} {N : Nat} (u_this : K6) (u_this_yard : K4) (u_this_shade : K0) (u_this_firstCups : (Nat → Int32)) (u_this_secondCups : (Nat → Int32)) (p1 : Int32) {rv : K0 × (Nat → Int32) × (Nat → Int32)} (hM : f_X6_pumpAllPairs N u_this u_this_yard u_this_shade u_this_firstCups u_this_secondCups p1 = some rv) : Met l yX6_pumpAllPairs wsX6_pumpAllPairs ({ frames := 5, cells := 0, slots := 0, locals := 119 } : Room) (va_Pc [.ref (x 0), .int p1] (xPre D T [((x 0), .inr (6, o6 x u_this)), ((x 3), .inr (4, o4 u_this_yard)), ((x 22), .inr (0, o0 u_this_shade)), ((x 24), .inl (T.1, 100, .inl u_this_firstCups)), ((x 25), .inl (T.1, 100, .inl u_this_secondCups))] sz xE0)) (va_Qv (fun (_ : Unit) => True) (fun _ => xPost D T [((x 0), .inr (6, o6 x u_this)), ((x 3), .inr (4, o4 u_this_yard)), ((x 22), .inr (0, o0 rv.1)), ((x 24), .inl (T.1, 100, .inl rv.2.1)), ((x 25), .inl (T.1, 100, .inl rv.2.2))] (va_A [((x 0), .inr (6, o6 x u_this)), ((x 3), .inr (4, o4 u_this_yard)), ((x 22), .inr (0, o0 u_this_shade)), ((x 24), .inl (T.1, 100, .inl u_this_firstCups)), ((x 25), .inl (T.1, 100, .inl u_this_secondCups))] sz)) (va_A [((x 0), .inr (6, o6 x u_this)), ((x 3), .inr (4, o4 u_this_yard)), ((x 22), .inr (0, o0 u_this_shade)), ((x 24), .inl (T.1, 100, .inl u_this_firstCups)), ((x 25), .inl (T.1, 100, .inl u_this_secondCups))] sz)) 0 0 (va_A [((x 0), .inr (6, o6 x u_this)), ((x 3), .inr (4, o4 u_this_yard)), ((x 22), .inr (0, o0 u_this_shade)), ((x 24), .inl (T.1, 100, .inl u_this_firstCups)), ((x 25), .inl (T.1, 100, .inl u_this_secondCups))] sz) := by
  refine xMet (av := [.ref (x 0), .int p1]) (Wd := [((x 0), .inr (6, o6 x u_this)), ((x 3), .inr (4, o4 u_this_yard)), ((x 22), .inr (0, o0 u_this_shade)), ((x 24), .inl (T.1, 100, .inl u_this_firstCups)), ((x 25), .inl (T.1, 100, .inl u_this_secondCups))]) (E := xE0) (Qc := fun A => (va_Qv (fun (_ : Unit) => True) (fun _ => xPost D T [((x 0), .inr (6, o6 x u_this)), ((x 3), .inr (4, o4 u_this_yard)), ((x 22), .inr (0, o0 rv.1)), ((x 24), .inl (T.1, 100, .inl rv.2.1)), ((x 25), .inl (T.1, 100, .inl rv.2.2))] A) A)) (cc := cX6_pumpAllPairs) (maxL := 4) (ret := none) (by decide) rfl (Nat.le_of_ble_eq_true rfl) ?_
  intro p e s m below meth c A ls hx hb hr hml hts hown hlocks hnm hP hK hD hS hA hE hl
  have hown : s.vm.findClass RX6 = some m.cls := hown
  have hl : lv_has ls 4 [(0, .ref (x 0)), (1, .int p1)] := hl
  unfold f_X6_pumpAllPairs at hM
  refine lv_iconst (v := 0) hx hb dX6_pumpAllPairs_0 (by decide) ?_
  refine lv_istore_n (lv' := [(2, .int (0)), (0, .ref (x 0)), (1, .int p1)]) hx hb dX6_pumpAllPairs_1 rfl hl (by decide) rfl (fun ls hl => ?_)
  obtain ⟨v5, hM, hNv5⟩ := xbd hM
  have hQv5 := hM
  have Kv5 : ∀ (H : Heap) (locs : List Loc) (ls : Array Slot), va_P D vwCl [((x 0), .inr (6, o6 x u_this)), ((x 3), .inr (4, o4 u_this_yard)), ((x 22), .inr (0, o0 v5.2.1)), ((x 24), .inl (T.1, 100, .inl v5.2.2.1)), ((x 25), .inl (T.1, 100, .inl v5.2.2.2))] H → va_D A [((x 0), .inr (6, o6 x u_this)), ((x 3), .inr (4, o4 u_this_yard)), ((x 22), .inr (0, o0 v5.2.1)), ((x 24), .inl (T.1, 100, .inl v5.2.2.1)), ((x 25), .inl (T.1, 100, .inl v5.2.2.2))] → va_S A s.heap H locs → lv_has ls 4 [] → W p l e ({ frames := 5, cells := 0, slots := 0, locals := 119 } : Room) s m ([.ref (x 0), .int p1] : List Value).toArray below meth c H locs 0 0 (MQ below (va_Qv (fun (_ : Unit) => True) (fun _ => xPost D T [((x 0), .inr (6, o6 x u_this)), ((x 3), .inr (4, o4 u_this_yard)), ((x 22), .inr (0, o0 rv.1)), ((x 24), .inl (T.1, 100, .inl rv.2.1)), ((x 25), .inl (T.1, 100, .inl rv.2.2))] A) A) ([.ref (x 0), .int p1] : List Value).toArray s 0 0 A) (F0 m 53 ls []) := by
    intro H locs ls hP hD hS hl
    have hM := hNv5
    obtain rfl := Option.some.inj hM
    exact xretv hx hb hr hlocks hP hK hD hS dX6_pumpAllPairs_53
  have Lv1 : ∀ (n : Nat) (v1 : Int32 × K0 × (Nat → Int32) × (Nat → Int32)), xlp (s_X6_pumpAllPairs_2 N u_this u_this_yard p1) n v1 = some v5 → ∀ (H : Heap) (locs : List Loc) (ls : Array Slot), va_P D vwCl [((x 0), .inr (6, o6 x u_this)), ((x 3), .inr (4, o4 u_this_yard)), ((x 22), .inr (0, o0 v1.2.1)), ((x 24), .inl (T.1, 100, .inl v1.2.2.1)), ((x 25), .inl (T.1, 100, .inl v1.2.2.2))] H → va_D A [((x 0), .inr (6, o6 x u_this)), ((x 3), .inr (4, o4 u_this_yard)), ((x 22), .inr (0, o0 v1.2.1)), ((x 24), .inl (T.1, 100, .inl v1.2.2.1)), ((x 25), .inl (T.1, 100, .inl v1.2.2.2))] → va_S A s.heap H locs → lv_has ls 4 [(0, .ref (x 0)), (1, .int p1), (2, .int v1.1)] → W p l e ({ frames := 5, cells := 0, slots := 0, locals := 119 } : Room) s m ([.ref (x 0), .int p1] : List Value).toArray below meth c H locs 0 0 (MQ below (va_Qv (fun (_ : Unit) => True) (fun _ => xPost D T [((x 0), .inr (6, o6 x u_this)), ((x 3), .inr (4, o4 u_this_yard)), ((x 22), .inr (0, o0 rv.1)), ((x 24), .inl (T.1, 100, .inl rv.2.1)), ((x 25), .inl (T.1, 100, .inl rv.2.2))] A) A) ([.ref (x 0), .int p1] : List Value).toArray s 0 0 A) (F0 m 2 ls []) := by
    intro n
    induction n with
    | zero => exact fun _ h => (xlp_0 h).elim
    | succ n ih =>
      intro v1 hM H locs ls hP hD hS hl
      obtain ⟨z, hM, hz1, hz2⟩ := xlp_s hM
      unfold s_X6_pumpAllPairs_2 at hM
      refine lv_iload_n hx hb dX6_pumpAllPairs_2 rfl (lv_at hl 2 rfl) ?_
      refine lv_aload_n hx hb dX6_pumpAllPairs_3 rfl (lv_at hl 0 rfl) ?_
      refine va_get (D := D) (ci := 6) (v := .ref (x 24)) (C := RX6) (T := TX6) (N := 16) hx hb hts (fun w h => List.mem_cons_of_mem _ (List.mem_append_left _ (List.mem_append_left _ (List.mem_append_right _ h)))) hown hK hP 0 rfl rfl 14 (by decide) (hts _ (List.mem_of_getElem? (i := 1) rfl)) (fun _ h9 => h9) rfl dX6_pumpAllPairs_4 ?_
      refine va_alen (v := 100) hx hb hK hP 3 0 rfl rfl (show Int32.ofNat 100 = 100 by decide) dX6_pumpAllPairs_7 ?_
      refine lv_icmp_ge (tgt := 53) hx hb dX6_pumpAllPairs_8 (by decide) (fun c2 => ?_) (fun c2 => ?_)
      · have hM := xit c2 hM
        obtain rfl := hz2 _ (Option.some.inj hM).symm
        exact Kv5 _ _ _ hP hD hS (lv_sub hl [] rfl)
      · have hM := xif c2 hM
        refine lv_aload_n hx hb dX6_pumpAllPairs_11 rfl (lv_at hl 0 rfl) ?_
        refine lv_iload_n hx hb dX6_pumpAllPairs_12 rfl (lv_at hl 2 rfl) ?_
        refine lv_bipush (v := 10) hx hb dX6_pumpAllPairs_13 (by decide) ?_
        refine lv_idiv hx hb dX6_pumpAllPairs_15 (by decide) ?_
        refine lv_iload_n hx hb dX6_pumpAllPairs_16 rfl (lv_at hl 2 rfl) ?_
        refine lv_bipush (v := 10) hx hb dX6_pumpAllPairs_17 (by decide) ?_
        refine lv_irem hx hb dX6_pumpAllPairs_19 (by decide) ?_
        refine lv_iload_n hx hb dX6_pumpAllPairs_20 rfl (lv_at hl 1 rfl) ?_
        obtain ⟨r3, er3, hM⟩ := xbd hM
        refine xafti (rv := r3.1) (W2 := [((x 0), .inr (6, o6 x u_this)), ((x 3), .inr (4, o4 u_this_yard)), ((x 22), .inr (0, o0 r3.2)), ((x 24), .inl (T.1, 100, .inl v1.2.2.1)), ((x 25), .inl (T.1, 100, .inl v1.2.2.2))]) (va_runV (As := [.int (v1.1 / (10)), .int (v1.1 - v1.1 / (10) * (10)), .int p1]) (rest := []) ⟨hx, hb, hml, hown, hts⟩ (c_X6_firstOfTwo l D T x u_this u_this_yard v1.2.1 (v1.1 / (10)) (v1.1 - v1.1 / (10) * (10)) p1 er3) (cwV 3 hts gX6_pumpAllPairs_X6_firstOfTwo rfl rfl rfl (by decide +kernel) ⟨Nat.le_of_ble_eq_true rfl, Nat.le_of_ble_eq_true rfl⟩) (xpvv hP hD hK [0, 1, 2] (by decide) rfl 0 6 rfl rfl (fun _ _ _ => trivial) (fun _ _ _ _ _ _ => trivial)) rfl rfl hl.1 rfl (lv_room (Nat.le_of_ble_eq_true rfl)) dX6_pumpAllPairs_21 ⟨Nat.le_of_ble_eq_true rfl, Nat.le_of_ble_eq_true rfl⟩) hP hD hS hA [0, 1, 2] rfl rfl rfl rfl (fun H locs hP hD hS => ?_)
        refine lv_istore_n (lv' := [(3, .int r3.1), (0, .ref (x 0)), (1, .int p1), (2, .int v1.1)]) hx hb dX6_pumpAllPairs_24 rfl hl (by decide) rfl (fun ls hl => ?_)
        refine lv_aload_n hx hb dX6_pumpAllPairs_25 rfl (lv_at hl 1 rfl) ?_
        refine va_get (D := D) (ci := 6) (v := .ref (x 24)) (C := RX6) (T := TX6) (N := 16) hx hb hts (fun w h => List.mem_cons_of_mem _ (List.mem_append_left _ (List.mem_append_left _ (List.mem_append_right _ h)))) hown hK hP 0 rfl rfl 14 (by decide) (hts _ (List.mem_of_getElem? (i := 1) rfl)) (fun _ h9 => h9) rfl dX6_pumpAllPairs_26 ?_
        refine lv_iload_n hx hb dX6_pumpAllPairs_29 rfl (lv_at hl 3 rfl) ?_
        refine lv_iload_n hx hb dX6_pumpAllPairs_30 rfl (lv_at hl 0 rfl) ?_
        obtain ⟨g4, hM⟩ := xck hM
        refine xast hx hb hK hP hD hS 3 0 rfl rfl g4 rfl dX6_pumpAllPairs_31 (fun H locs hP hD hS => ?_)
        have hP : va_P D vwCl [((x 0), .inr (6, o6 x u_this)), ((x 3), .inr (4, o4 u_this_yard)), ((x 22), .inr (0, o0 r3.2)), ((x 24), .inl (T.1, 100, .inl (upd v1.2.2.1 v1.1.toNatClampNeg r3.1))), ((x 25), .inl (T.1, 100, .inl v1.2.2.2))] H := hP
        have hD : va_D A [((x 0), .inr (6, o6 x u_this)), ((x 3), .inr (4, o4 u_this_yard)), ((x 22), .inr (0, o0 r3.2)), ((x 24), .inl (T.1, 100, .inl (upd v1.2.2.1 v1.1.toNatClampNeg r3.1))), ((x 25), .inl (T.1, 100, .inl v1.2.2.2))] := hD
        refine lv_aload_n hx hb dX6_pumpAllPairs_32 rfl (lv_at hl 1 rfl) ?_
        refine va_get (D := D) (ci := 6) (v := .ref (x 25)) (C := RX6) (T := TX6) (N := 16) hx hb hts (fun w h => List.mem_cons_of_mem _ (List.mem_append_left _ (List.mem_append_left _ (List.mem_append_right _ h)))) hown hK hP 0 rfl rfl 15 (by decide) (hts _ (List.mem_of_getElem? (i := 2) rfl)) (fun _ h9 => h9) rfl dX6_pumpAllPairs_33 ?_
        refine lv_iload_n hx hb dX6_pumpAllPairs_36 rfl (lv_at hl 3 rfl) ?_
        refine lv_aload_n hx hb dX6_pumpAllPairs_37 rfl (lv_at hl 1 rfl) ?_
        refine va_get (D := D) (ci := 6) (v := .ref (x 22)) (C := RX6) (T := TX6) (N := 16) hx hb hts (fun w h => List.mem_cons_of_mem _ (List.mem_append_left _ (List.mem_append_left _ (List.mem_append_right _ h)))) hown hK hP 0 rfl rfl 12 (by decide) (hts _ (List.mem_of_getElem? (i := 3) rfl)) (fun _ h9 => h9) rfl dX6_pumpAllPairs_38 ?_
        refine va_get (D := D) (ci := 0) (v := .int r3.2.2.2.2.1) (C := RX0) (T := TX0) (N := 7) hx hb hts (fun w h => List.mem_cons_of_mem _ (List.mem_append_left _ (List.mem_append_right _ h))) hown hK hP 2 rfl rfl 3 (by decide) (hts _ (List.mem_of_getElem? (i := 4) rfl)) (fun _ h9 => h9) rfl dX6_pumpAllPairs_41 ?_
        refine lv_iload_n hx hb dX6_pumpAllPairs_44 rfl (lv_at hl 0 rfl) ?_
        refine lv_isub hx hb dX6_pumpAllPairs_45 ?_
        refine xast hx hb hK hP hD hS 4 0 rfl rfl g4 rfl dX6_pumpAllPairs_46 (fun H locs hP hD hS => ?_)
        have hP : va_P D vwCl [((x 0), .inr (6, o6 x u_this)), ((x 3), .inr (4, o4 u_this_yard)), ((x 22), .inr (0, o0 r3.2)), ((x 24), .inl (T.1, 100, .inl (upd v1.2.2.1 v1.1.toNatClampNeg r3.1))), ((x 25), .inl (T.1, 100, .inl (upd v1.2.2.2 v1.1.toNatClampNeg (r3.2.2.2.2.1 - r3.1))))] H := hP
        have hD : va_D A [((x 0), .inr (6, o6 x u_this)), ((x 3), .inr (4, o4 u_this_yard)), ((x 22), .inr (0, o0 r3.2)), ((x 24), .inl (T.1, 100, .inl (upd v1.2.2.1 v1.1.toNatClampNeg r3.1))), ((x 25), .inl (T.1, 100, .inl (upd v1.2.2.2 v1.1.toNatClampNeg (r3.2.2.2.2.1 - r3.1))))] := hD
        refine lv_iinc (v := v1.1 + 1) (lv' := [(2, .int (v1.1 + 1)), (3, .int r3.1), (0, .ref (x 0)), (1, .int p1)]) hx hb dX6_pumpAllPairs_47 hl (k := 3) rfl rfl (by decide) rfl (fun ls hl => ?_)
        refine lv_goto (tgt := 2) hx hb dX6_pumpAllPairs_50 (by decide) ?_
        exact ih _ (hz1 _ (Option.some.inj hM).symm) _ _ _ hP hD hS (lv_sub hl [2, 3, 0] rfl)
  exact Lv1 _ _ hM _ _ _ hP hD hS (lv_sub hl [1, 2, 0] rfl)
def s_X6_isRest_13 (u_this_firstCups : (Nat → Int32)) (u_this_secondCups : (Nat → Int32)) (p1 : Int32) (v1 : Int32) : Option ((Int32) ⊕ (Int32)) :=
  if (10) ≤ v1 then
   (some (.inr (1)))
  else
   (if xin ((v1 * (10)) + (p1 - p1 / (10) * (10))) 100 = true then
    (if xin p1 100 = true then
     (if (u_this_firstCups ((v1 * (10)) + (p1 - p1 / (10) * (10))).toNatClampNeg) ≤ (u_this_firstCups p1.toNatClampNeg) then
       (if xin (((p1 / (10)) * (10)) + v1) 100 = true then
        (if (u_this_secondCups (((p1 / (10)) * (10)) + v1).toNatClampNeg) ≤ (u_this_secondCups p1.toNatClampNeg) then
          (some (.inl (v1 + 1)))
         else
          (some (.inr (0))))
        else none)
      else
       (some (.inr (0))))
     else none)
    else none)
def f_X6_isRest (N : Nat) (u_this : K6) (u_this_firstCups : (Nat → Int32)) (u_this_secondCups : (Nat → Int32)) (p1 : Int32) : Option (Int32) :=
  xlp (s_X6_isRest_13 u_this_firstCups u_this_secondCups p1) N (0)
set_option maxHeartbeats 4000000 in
set_option maxRecDepth 100000 in
theorem c_X6_isRest (l : Launch) (D : va_G) (T : xT) (x : Nat → Nat) {sz : Nat} {N : Nat} (u_this : K6) (u_this_firstCups : (Nat → Int32)) (u_this_secondCups : (Nat → Int32)) (p1 : Int32) {rv : Int32} (hM : f_X6_isRest N u_this u_this_firstCups u_this_secondCups p1 = some rv) : Met l yX6_isRest wsX6_isRest ({ frames := 0, cells := 0, slots := 0, locals := 0 } : Room) (va_Pc [.ref (x 0), .int p1] (xPre D T [((x 0), .inr (6, o6 x u_this)), ((x 24), .inl (T.1, 100, .inl u_this_firstCups)), ((x 25), .inl (T.1, 100, .inl u_this_secondCups))] sz xE0)) (va_Qi (fun (r : Int32) (_ : Unit) => r = rv) (fun _ => xPost D T [((x 0), .inr (6, o6 x u_this)), ((x 24), .inl (T.1, 100, .inl u_this_firstCups)), ((x 25), .inl (T.1, 100, .inl u_this_secondCups))] (va_A [((x 0), .inr (6, o6 x u_this)), ((x 24), .inl (T.1, 100, .inl u_this_firstCups)), ((x 25), .inl (T.1, 100, .inl u_this_secondCups))] sz)) (va_A [((x 0), .inr (6, o6 x u_this)), ((x 24), .inl (T.1, 100, .inl u_this_firstCups)), ((x 25), .inl (T.1, 100, .inl u_this_secondCups))] sz)) 0 0 (va_A [((x 0), .inr (6, o6 x u_this)), ((x 24), .inl (T.1, 100, .inl u_this_firstCups)), ((x 25), .inl (T.1, 100, .inl u_this_secondCups))] sz) := by
  refine xMet (av := [.ref (x 0), .int p1]) (Wd := [((x 0), .inr (6, o6 x u_this)), ((x 24), .inl (T.1, 100, .inl u_this_firstCups)), ((x 25), .inl (T.1, 100, .inl u_this_secondCups))]) (E := xE0) (Qc := fun A => (va_Qi (fun (r : Int32) (_ : Unit) => r = rv) (fun _ => xPost D T [((x 0), .inr (6, o6 x u_this)), ((x 24), .inl (T.1, 100, .inl u_this_firstCups)), ((x 25), .inl (T.1, 100, .inl u_this_secondCups))] A) A)) (cc := cX6_isRest) (maxL := 5) (ret := (some .boolean)) (by decide) rfl (Nat.le_of_ble_eq_true rfl) ?_
  intro p e s m below meth c A ls hx hb hr hml hts hown hlocks hnm hP hK hD hS hA hE hl
  have hown : s.vm.findClass RX6 = some m.cls := hown
  have hl : lv_has ls 5 [(0, .ref (x 0)), (1, .int p1)] := hl
  unfold f_X6_isRest at hM
  refine lv_iload_n hx hb dX6_isRest_0 rfl (lv_at hl 1 rfl) ?_
  refine lv_bipush (v := 10) hx hb dX6_isRest_1 (by decide) ?_
  refine lv_idiv hx hb dX6_isRest_3 (by decide) ?_
  refine lv_istore_n (lv' := [(2, .int (p1 / (10))), (0, .ref (x 0)), (1, .int p1)]) hx hb dX6_isRest_4 rfl hl (by decide) rfl (fun ls hl => ?_)
  refine lv_iload_n hx hb dX6_isRest_5 rfl (lv_at hl 2 rfl) ?_
  refine lv_bipush (v := 10) hx hb dX6_isRest_6 (by decide) ?_
  refine lv_irem hx hb dX6_isRest_8 (by decide) ?_
  refine lv_istore_n (lv' := [(3, .int (p1 - p1 / (10) * (10))), (2, .int (p1 / (10))), (0, .ref (x 0)), (1, .int p1)]) hx hb dX6_isRest_9 rfl hl (by decide) rfl (fun ls hl => ?_)
  refine lv_iconst (v := 0) hx hb dX6_isRest_10 (by decide) ?_
  refine lv_istore (lv' := [(4, .int (0)), (3, .int (p1 - p1 / (10) * (10))), (2, .int (p1 / (10))), (0, .ref (x 0)), (1, .int p1)]) hx hb dX6_isRest_11 hl (by decide) rfl (fun ls hl => ?_)
  have Lv1 : ∀ (n : Nat) (v1 : Int32), xlp (s_X6_isRest_13 u_this_firstCups u_this_secondCups p1) n v1 = some rv → ∀ (H : Heap) (locs : List Loc) (ls : Array Slot), va_P D vwCl [((x 0), .inr (6, o6 x u_this)), ((x 24), .inl (T.1, 100, .inl u_this_firstCups)), ((x 25), .inl (T.1, 100, .inl u_this_secondCups))] H → va_D A [((x 0), .inr (6, o6 x u_this)), ((x 24), .inl (T.1, 100, .inl u_this_firstCups)), ((x 25), .inl (T.1, 100, .inl u_this_secondCups))] → va_S A s.heap H locs → lv_has ls 5 [(0, .ref (x 0)), (1, .int p1), (2, .int (p1 / (10))), (3, .int (p1 - p1 / (10) * (10))), (4, .int v1)] → W p l e ({ frames := 0, cells := 0, slots := 0, locals := 0 } : Room) s m ([.ref (x 0), .int p1] : List Value).toArray below meth c H locs 0 0 (MQ below (va_Qi (fun (r : Int32) (_ : Unit) => r = rv) (fun _ => xPost D T [((x 0), .inr (6, o6 x u_this)), ((x 24), .inl (T.1, 100, .inl u_this_firstCups)), ((x 25), .inl (T.1, 100, .inl u_this_secondCups))] A) A) ([.ref (x 0), .int p1] : List Value).toArray s 0 0 A) (F0 m 13 ls []) := by
    intro n
    induction n with
    | zero => exact fun _ h => (xlp_0 h).elim
    | succ n ih =>
      intro v1 hM H locs ls hP hD hS hl
      obtain ⟨z, hM, hz1, hz2⟩ := xlp_s hM
      unfold s_X6_isRest_13 at hM
      refine lv_iload hx hb dX6_isRest_13 (lv_at hl 4 rfl) ?_
      refine lv_bipush (v := 10) hx hb dX6_isRest_15 (by decide) ?_
      refine lv_icmp_ge (tgt := 72) hx hb dX6_isRest_17 (by decide) (fun c2 => ?_) (fun c2 => ?_)
      · have hM := xit c2 hM
        refine lv_iconst (v := 1) hx hb dX6_isRest_72 (by decide) ?_
        obtain rfl := hz2 _ (Option.some.inj hM).symm
        exact xretz hx hb hr hlocks hP hK hD hS dX6_isRest_73 rfl rfl
      · have hM := xif c2 hM
        refine lv_aload_n hx hb dX6_isRest_20 rfl (lv_at hl 0 rfl) ?_
        refine va_get (D := D) (ci := 6) (v := .ref (x 24)) (C := RX6) (T := TX6) (N := 16) hx hb hts (fun w h => List.mem_cons_of_mem _ (List.mem_append_right _ h)) hown hK hP 0 rfl rfl 14 (by decide) (hts _ (List.mem_of_getElem? (i := 1) rfl)) (fun _ h9 => h9) rfl dX6_isRest_21 ?_
        refine lv_iload hx hb dX6_isRest_24 (lv_at hl 4 rfl) ?_
        refine lv_bipush (v := 10) hx hb dX6_isRest_26 (by decide) ?_
        refine lv_imul hx hb dX6_isRest_28 ?_
        refine lv_iload_n hx hb dX6_isRest_29 rfl (lv_at hl 3 rfl) ?_
        refine lv_iadd hx hb dX6_isRest_30 ?_
        obtain ⟨g3, hM⟩ := xck hM
        refine xald (v := (u_this_firstCups ((v1 * (10)) + (p1 - p1 / (10) * (10))).toNatClampNeg)) hx hb hK hP 1 0 rfl rfl g3 rfl dX6_isRest_31 ?_
        refine lv_aload_n hx hb dX6_isRest_32 rfl (lv_at hl 0 rfl) ?_
        refine va_get (D := D) (ci := 6) (v := .ref (x 24)) (C := RX6) (T := TX6) (N := 16) hx hb hts (fun w h => List.mem_cons_of_mem _ (List.mem_append_right _ h)) hown hK hP 0 rfl rfl 14 (by decide) (hts _ (List.mem_of_getElem? (i := 1) rfl)) (fun _ h9 => h9) rfl dX6_isRest_33 ?_
        refine lv_iload_n hx hb dX6_isRest_36 rfl (lv_at hl 1 rfl) ?_
        obtain ⟨g4, hM⟩ := xck hM
        refine xald (v := (u_this_firstCups p1.toNatClampNeg)) hx hb hK hP 1 0 rfl rfl g4 rfl dX6_isRest_37 ?_
        refine lv_icmp_le (tgt := 43) hx hb dX6_isRest_38 (by decide) (fun c5 => ?_) (fun c5 => ?_)
        · have hM := xit c5 hM
          refine lv_aload_n hx hb dX6_isRest_43 rfl (lv_at hl 0 rfl) ?_
          refine va_get (D := D) (ci := 6) (v := .ref (x 25)) (C := RX6) (T := TX6) (N := 16) hx hb hts (fun w h => List.mem_cons_of_mem _ (List.mem_append_right _ h)) hown hK hP 0 rfl rfl 15 (by decide) (hts _ (List.mem_of_getElem? (i := 2) rfl)) (fun _ h9 => h9) rfl dX6_isRest_44 ?_
          refine lv_iload_n hx hb dX6_isRest_47 rfl (lv_at hl 2 rfl) ?_
          refine lv_bipush (v := 10) hx hb dX6_isRest_48 (by decide) ?_
          refine lv_imul hx hb dX6_isRest_50 ?_
          refine lv_iload hx hb dX6_isRest_51 (lv_at hl 4 rfl) ?_
          refine lv_iadd hx hb dX6_isRest_53 ?_
          obtain ⟨g6, hM⟩ := xck hM
          refine xald (v := (u_this_secondCups (((p1 / (10)) * (10)) + v1).toNatClampNeg)) hx hb hK hP 2 0 rfl rfl g6 rfl dX6_isRest_54 ?_
          refine lv_aload_n hx hb dX6_isRest_55 rfl (lv_at hl 0 rfl) ?_
          refine va_get (D := D) (ci := 6) (v := .ref (x 25)) (C := RX6) (T := TX6) (N := 16) hx hb hts (fun w h => List.mem_cons_of_mem _ (List.mem_append_right _ h)) hown hK hP 0 rfl rfl 15 (by decide) (hts _ (List.mem_of_getElem? (i := 2) rfl)) (fun _ h9 => h9) rfl dX6_isRest_56 ?_
          refine lv_iload_n hx hb dX6_isRest_59 rfl (lv_at hl 1 rfl) ?_
          refine xald (v := (u_this_secondCups p1.toNatClampNeg)) hx hb hK hP 2 0 rfl rfl g4 rfl dX6_isRest_60 ?_
          refine lv_icmp_le (tgt := 66) hx hb dX6_isRest_61 (by decide) (fun c7 => ?_) (fun c7 => ?_)
          · have hM := xit c7 hM
            refine lv_iinc (v := v1 + 1) (lv' := [(4, .int (v1 + 1)), (0, .ref (x 0)), (1, .int p1), (2, .int (p1 / (10))), (3, .int (p1 - p1 / (10) * (10)))]) hx hb dX6_isRest_66 hl (k := 4) rfl rfl (by decide) rfl (fun ls hl => ?_)
            refine lv_goto (tgt := 13) hx hb dX6_isRest_69 (by decide) ?_
            exact ih _ (hz1 _ (Option.some.inj hM).symm) _ _ _ hP hD hS (lv_sub hl [1, 2, 3, 4, 0] rfl)
          · have hM := xif c7 hM
            refine lv_iconst (v := 0) hx hb dX6_isRest_64 (by decide) ?_
            obtain rfl := hz2 _ (Option.some.inj hM).symm
            exact xretz hx hb hr hlocks hP hK hD hS dX6_isRest_65 rfl rfl
        · have hM := xif c5 hM
          refine lv_iconst (v := 0) hx hb dX6_isRest_41 (by decide) ?_
          obtain rfl := hz2 _ (Option.some.inj hM).symm
          exact xretz hx hb hr hlocks hP hK hD hS dX6_isRest_42 rfl rfl
  exact Lv1 _ _ hM _ _ _ hP hD hS (lv_sub hl [3, 4, 2, 1, 0] rfl)
def s_X6_rests_35 (N : Nat) (u_this : K6) (r3 : K0 × (Nat → Int32) × (Nat → Int32)) (v4 : Int32 × Int32 × Int32) : Option ((Int32 × Int32 × Int32) ⊕ (Int32 × Int32 × Int32)) :=
  if (100) ≤ v4.2.2 then
   (some (.inr (v4.1, v4.2.1, v4.2.2)))
  else
   ((f_X6_isRest N u_this r3.2.1 r3.2.2 v4.2.2).bind fun r6 =>
    if r6 = (0) then
     (some (.inl (v4.1, v4.2.1, v4.2.2 + 1)))
    else
     (if v4.1 = (0) then
       (some (.inl (v4.1 + 1, v4.2.2, v4.2.2 + 1)))
      else
       (some (.inl (v4.1 + 1, v4.2.1, v4.2.2 + 1)))))
def f_X6_rests (N : Nat) (u_this : K6) (u_this_yard : K4) (u_this_shade : K0) (u_this_firstCups : (Nat → Int32)) (u_this_secondCups : (Nat → Int32)) (p1 : Int32) (p2 : Int32) : Option (Int32 × K0 × (Nat → Int32) × (Nat → Int32)) :=
  if (f_X6_outside p1 (1) (24)) = (0) then
   (if (f_X6_outside p2 (0) (1)) = (0) then
     ((f_X6_pumpAllPairs N u_this u_this_yard u_this_shade u_this_firstCups u_this_secondCups p1).bind fun r3 =>
      (xlp (s_X6_rests_35 N u_this r3) N (0, (-9), 0)).bind fun v9 =>
      if p2 = (0) then
       (some (v9.1, r3.1, r3.2.1, r3.2.2))
      else
       (some (v9.2.1, r3.1, r3.2.1, r3.2.2)))
    else
     (some ((-1), u_this_shade, u_this_firstCups, u_this_secondCups)))
  else
   (some ((-1), u_this_shade, u_this_firstCups, u_this_secondCups))
set_option maxHeartbeats 4000000 in
set_option maxRecDepth 100000 in
theorem c_X6_rests (l : Launch) (D : va_G) (T : xT) (x : Nat → Nat) {sz : Nat} {N : Nat} (u_this : K6) (u_this_yard : K4) (u_this_shade : K0) (u_this_firstCups : (Nat → Int32)) (u_this_secondCups : (Nat → Int32)) (p1 : Int32) (p2 : Int32) {rv : Int32 × K0 × (Nat → Int32) × (Nat → Int32)} (hM : f_X6_rests N u_this u_this_yard u_this_shade u_this_firstCups u_this_secondCups p1 p2 = some rv) : Met l yX6_rests wsX6_rests ({ frames := 6, cells := 0, slots := 0, locals := 142 } : Room) (va_Pc [.ref (x 0), .int p1, .int p2] (xPre D T [((x 0), .inr (6, o6 x u_this)), ((x 3), .inr (4, o4 u_this_yard)), ((x 22), .inr (0, o0 u_this_shade)), ((x 24), .inl (T.1, 100, .inl u_this_firstCups)), ((x 25), .inl (T.1, 100, .inl u_this_secondCups))] sz xE0)) (va_Qi (fun (r : Int32) (_ : Unit) => r = rv.1) (fun _ => xPost D T [((x 0), .inr (6, o6 x u_this)), ((x 3), .inr (4, o4 u_this_yard)), ((x 22), .inr (0, o0 rv.2.1)), ((x 24), .inl (T.1, 100, .inl rv.2.2.1)), ((x 25), .inl (T.1, 100, .inl rv.2.2.2))] (va_A [((x 0), .inr (6, o6 x u_this)), ((x 3), .inr (4, o4 u_this_yard)), ((x 22), .inr (0, o0 u_this_shade)), ((x 24), .inl (T.1, 100, .inl u_this_firstCups)), ((x 25), .inl (T.1, 100, .inl u_this_secondCups))] sz)) (va_A [((x 0), .inr (6, o6 x u_this)), ((x 3), .inr (4, o4 u_this_yard)), ((x 22), .inr (0, o0 u_this_shade)), ((x 24), .inl (T.1, 100, .inl u_this_firstCups)), ((x 25), .inl (T.1, 100, .inl u_this_secondCups))] sz)) 0 0 (va_A [((x 0), .inr (6, o6 x u_this)), ((x 3), .inr (4, o4 u_this_yard)), ((x 22), .inr (0, o0 u_this_shade)), ((x 24), .inl (T.1, 100, .inl u_this_firstCups)), ((x 25), .inl (T.1, 100, .inl u_this_secondCups))] sz) := by
  refine xMet (av := [.ref (x 0), .int p1, .int p2]) (Wd := [((x 0), .inr (6, o6 x u_this)), ((x 3), .inr (4, o4 u_this_yard)), ((x 22), .inr (0, o0 u_this_shade)), ((x 24), .inl (T.1, 100, .inl u_this_firstCups)), ((x 25), .inl (T.1, 100, .inl u_this_secondCups))]) (E := xE0) (Qc := fun A => (va_Qi (fun (r : Int32) (_ : Unit) => r = rv.1) (fun _ => xPost D T [((x 0), .inr (6, o6 x u_this)), ((x 3), .inr (4, o4 u_this_yard)), ((x 22), .inr (0, o0 rv.2.1)), ((x 24), .inl (T.1, 100, .inl rv.2.2.1)), ((x 25), .inl (T.1, 100, .inl rv.2.2.2))] A) A)) (cc := cX6_rests) (maxL := 6) (ret := (some .int)) (by decide) rfl (Nat.le_of_ble_eq_true rfl) ?_
  intro p e s m below meth c A ls hx hb hr hml hts hown hlocks hnm hP hK hD hS hA hE hl
  have hown : s.vm.findClass RX6 = some m.cls := hown
  have hl : lv_has ls 6 [(0, .ref (x 0)), (1, .int p1), (2, .int p2)] := hl
  unfold f_X6_rests at hM
  refine lv_iload_n hx hb dX6_rests_0 rfl (lv_at hl 1 rfl) ?_
  refine lv_iconst (v := 1) hx hb dX6_rests_1 (by decide) ?_
  refine lv_bipush (v := 24) hx hb dX6_rests_2 (by decide) ?_
  refine xafti (rv := (f_X6_outside p1 (1) (24))) (W2 := [((x 0), .inr (6, o6 x u_this)), ((x 3), .inr (4, o4 u_this_yard)), ((x 22), .inr (0, o0 u_this_shade)), ((x 24), .inl (T.1, 100, .inl u_this_firstCups)), ((x 25), .inl (T.1, 100, .inl u_this_secondCups))]) (va_runS (As := [.int p1, .int (1), .int (24)]) (rest := []) ⟨hx, hb, hml, hown, hts⟩ (c_X6_outside (rv := (f_X6_outside p1 (1) (24))) l D T p1 (1) (24) rfl) (cwS 3 hts gX6_rests_X6_outside rfl rfl rfl (by decide +kernel) ⟨Nat.le_of_ble_eq_true rfl, Nat.le_of_ble_eq_true rfl⟩) (xpvs hP hD hK [] (by decide) rfl (fun _ _ _ => trivial) (fun _ _ _ _ _ _ => trivial)) rfl rfl hl.1 rfl (lv_room (Nat.le_of_ble_eq_true rfl)) dX6_rests_4 ⟨Nat.le_of_ble_eq_true rfl, Nat.le_of_ble_eq_true rfl⟩) hP hD hS hA [] rfl rfl rfl rfl (fun H locs hP hD hS => ?_)
  refine lv_if_ne (tgt := 19) hx hb dX6_rests_7 (by decide) (fun c1 => ?_) (fun c1 => ?_)
  · have hM := xif c1 hM
    refine lv_iconst (v := (-1)) hx hb dX6_rests_19 (by decide) ?_
    obtain rfl := Option.some.inj hM
    exact xreti hx hb hr hlocks hP hK hD hS dX6_rests_20 rfl
  · have hM := xit c1 hM
    refine lv_iload_n hx hb dX6_rests_10 rfl (lv_at hl 2 rfl) ?_
    refine lv_iconst (v := 0) hx hb dX6_rests_11 (by decide) ?_
    refine lv_iconst (v := 1) hx hb dX6_rests_12 (by decide) ?_
    refine xafti (rv := (f_X6_outside p2 (0) (1))) (W2 := [((x 0), .inr (6, o6 x u_this)), ((x 3), .inr (4, o4 u_this_yard)), ((x 22), .inr (0, o0 u_this_shade)), ((x 24), .inl (T.1, 100, .inl u_this_firstCups)), ((x 25), .inl (T.1, 100, .inl u_this_secondCups))]) (va_runS (As := [.int p2, .int (0), .int (1)]) (rest := []) ⟨hx, hb, hml, hown, hts⟩ (c_X6_outside (rv := (f_X6_outside p2 (0) (1))) l D T p2 (0) (1) rfl) (cwS 3 hts gX6_rests_X6_outside rfl rfl rfl (by decide +kernel) ⟨Nat.le_of_ble_eq_true rfl, Nat.le_of_ble_eq_true rfl⟩) (xpvs hP hD hK [] (by decide) rfl (fun _ _ _ => trivial) (fun _ _ _ _ _ _ => trivial)) rfl rfl hl.1 rfl (lv_room (Nat.le_of_ble_eq_true rfl)) dX6_rests_13 ⟨Nat.le_of_ble_eq_true rfl, Nat.le_of_ble_eq_true rfl⟩) hP hD hS hA [] rfl rfl rfl rfl (fun H locs hP hD hS => ?_)
    refine lv_if_eq (tgt := 21) hx hb dX6_rests_16 (by decide) (fun c2 => ?_) (fun c2 => ?_)
    · have hM := xit c2 hM
      refine lv_aload_n hx hb dX6_rests_21 rfl (lv_at hl 0 rfl) ?_
      refine lv_iload_n hx hb dX6_rests_22 rfl (lv_at hl 1 rfl) ?_
      obtain ⟨r3, er3, hM⟩ := xbd hM
      refine xaftv (W2 := [((x 0), .inr (6, o6 x u_this)), ((x 3), .inr (4, o4 u_this_yard)), ((x 22), .inr (0, o0 r3.1)), ((x 24), .inl (T.1, 100, .inl r3.2.1)), ((x 25), .inl (T.1, 100, .inl r3.2.2))]) (va_runV (As := [.int p1]) (rest := []) ⟨hx, hb, hml, hown, hts⟩ (c_X6_pumpAllPairs l D T x u_this u_this_yard u_this_shade u_this_firstCups u_this_secondCups p1 er3) (cwV 1 hts gX6_rests_X6_pumpAllPairs rfl rfl rfl (by decide +kernel) ⟨Nat.le_of_ble_eq_true rfl, Nat.le_of_ble_eq_true rfl⟩) (xpvv hP hD hK [0, 1, 2, 3, 4] (by decide) rfl 0 6 rfl rfl (fun _ _ _ => trivial) (fun _ _ _ _ _ _ => trivial)) rfl rfl hl.1 rfl (lv_room (Nat.le_of_ble_eq_true rfl)) dX6_rests_23 ⟨Nat.le_of_ble_eq_true rfl, Nat.le_of_ble_eq_true rfl⟩) hP hD hS hA [0, 1, 2, 3, 4] rfl rfl rfl rfl (fun H locs hP hD hS => ?_)
      refine lv_iconst (v := 0) hx hb dX6_rests_26 (by decide) ?_
      refine lv_istore_n (lv' := [(3, .int (0)), (0, .ref (x 0)), (1, .int p1), (2, .int p2)]) hx hb dX6_rests_27 rfl hl (by decide) rfl (fun ls hl => ?_)
      refine lv_bipush (v := (-9)) hx hb dX6_rests_28 (by decide) ?_
      refine lv_istore (lv' := [(4, .int (-9)), (3, .int (0)), (0, .ref (x 0)), (1, .int p1), (2, .int p2)]) hx hb dX6_rests_30 hl (by decide) rfl (fun ls hl => ?_)
      refine lv_iconst (v := 0) hx hb dX6_rests_32 (by decide) ?_
      refine lv_istore (lv' := [(5, .int (0)), (4, .int (-9)), (3, .int (0)), (0, .ref (x 0)), (1, .int p1), (2, .int p2)]) hx hb dX6_rests_33 hl (by decide) rfl (fun ls hl => ?_)
      obtain ⟨v9, hM, hNv9⟩ := xbd hM
      have hQv9 := hM
      have Kv9 : ∀ (H : Heap) (locs : List Loc) (ls : Array Slot), va_P D vwCl [((x 0), .inr (6, o6 x u_this)), ((x 3), .inr (4, o4 u_this_yard)), ((x 22), .inr (0, o0 r3.1)), ((x 24), .inl (T.1, 100, .inl r3.2.1)), ((x 25), .inl (T.1, 100, .inl r3.2.2))] H → va_D A [((x 0), .inr (6, o6 x u_this)), ((x 3), .inr (4, o4 u_this_yard)), ((x 22), .inr (0, o0 r3.1)), ((x 24), .inl (T.1, 100, .inl r3.2.1)), ((x 25), .inl (T.1, 100, .inl r3.2.2))] → va_S A s.heap H locs → lv_has ls 6 [(2, .int p2), (3, .int v9.1), (4, .int v9.2.1)] → W p l e ({ frames := 6, cells := 0, slots := 0, locals := 142 } : Room) s m ([.ref (x 0), .int p1, .int p2] : List Value).toArray below meth c H locs 0 0 (MQ below (va_Qi (fun (r : Int32) (_ : Unit) => r = rv.1) (fun _ => xPost D T [((x 0), .inr (6, o6 x u_this)), ((x 3), .inr (4, o4 u_this_yard)), ((x 22), .inr (0, o0 rv.2.1)), ((x 24), .inl (T.1, 100, .inl rv.2.2.1)), ((x 25), .inl (T.1, 100, .inl rv.2.2.2))] A) A) ([.ref (x 0), .int p1, .int p2] : List Value).toArray s 0 0 A) (F0 m 71 ls []) := by
        intro H locs ls hP hD hS hl
        have hM := hNv9
        refine lv_iload_n hx hb dX6_rests_71 rfl (lv_at hl 0 rfl) ?_
        refine lv_if_ne (tgt := 79) hx hb dX6_rests_72 (by decide) (fun c10 => ?_) (fun c10 => ?_)
        · have hM := xif c10 hM
          refine lv_iload hx hb dX6_rests_79 (lv_at hl 2 rfl) ?_
          obtain rfl := Option.some.inj hM
          exact xreti hx hb hr hlocks hP hK hD hS dX6_rests_81 rfl
        · have hM := xit c10 hM
          refine lv_iload_n hx hb dX6_rests_75 rfl (lv_at hl 1 rfl) ?_
          refine lv_goto (tgt := 81) hx hb dX6_rests_76 (by decide) ?_
          obtain rfl := Option.some.inj hM
          exact xreti hx hb hr hlocks hP hK hD hS dX6_rests_81 rfl
      have Lv4 : ∀ (n : Nat) (v4 : Int32 × Int32 × Int32), xlp (s_X6_rests_35 N u_this r3) n v4 = some v9 → ∀ (H : Heap) (locs : List Loc) (ls : Array Slot), va_P D vwCl [((x 0), .inr (6, o6 x u_this)), ((x 3), .inr (4, o4 u_this_yard)), ((x 22), .inr (0, o0 r3.1)), ((x 24), .inl (T.1, 100, .inl r3.2.1)), ((x 25), .inl (T.1, 100, .inl r3.2.2))] H → va_D A [((x 0), .inr (6, o6 x u_this)), ((x 3), .inr (4, o4 u_this_yard)), ((x 22), .inr (0, o0 r3.1)), ((x 24), .inl (T.1, 100, .inl r3.2.1)), ((x 25), .inl (T.1, 100, .inl r3.2.2))] → va_S A s.heap H locs → lv_has ls 6 [(0, .ref (x 0)), (2, .int p2), (3, .int v4.1), (4, .int v4.2.1), (5, .int v4.2.2)] → W p l e ({ frames := 6, cells := 0, slots := 0, locals := 142 } : Room) s m ([.ref (x 0), .int p1, .int p2] : List Value).toArray below meth c H locs 0 0 (MQ below (va_Qi (fun (r : Int32) (_ : Unit) => r = rv.1) (fun _ => xPost D T [((x 0), .inr (6, o6 x u_this)), ((x 3), .inr (4, o4 u_this_yard)), ((x 22), .inr (0, o0 rv.2.1)), ((x 24), .inl (T.1, 100, .inl rv.2.2.1)), ((x 25), .inl (T.1, 100, .inl rv.2.2.2))] A) A) ([.ref (x 0), .int p1, .int p2] : List Value).toArray s 0 0 A) (F0 m 35 ls []) := by
        intro n
        induction n with
        | zero => exact fun _ h => (xlp_0 h).elim
        | succ n ih =>
          intro v4 hM H locs ls hP hD hS hl
          obtain ⟨z, hM, hz1, hz2⟩ := xlp_s hM
          unfold s_X6_rests_35 at hM
          refine lv_iload hx hb dX6_rests_35 (lv_at hl 4 rfl) ?_
          refine lv_bipush (v := 100) hx hb dX6_rests_37 (by decide) ?_
          refine lv_icmp_ge (tgt := 71) hx hb dX6_rests_39 (by decide) (fun c5 => ?_) (fun c5 => ?_)
          · have hM := xit c5 hM
            obtain rfl := hz2 _ (Option.some.inj hM).symm
            exact Kv9 _ _ _ hP hD hS (lv_sub hl [1, 2, 3] rfl)
          · have hM := xif c5 hM
            refine lv_aload_n hx hb dX6_rests_42 rfl (lv_at hl 0 rfl) ?_
            refine lv_iload hx hb dX6_rests_43 (lv_at hl 4 rfl) ?_
            obtain ⟨r6, er6, hM⟩ := xbd hM
            refine xafti (rv := r6) (W2 := [((x 0), .inr (6, o6 x u_this)), ((x 3), .inr (4, o4 u_this_yard)), ((x 22), .inr (0, o0 r3.1)), ((x 24), .inl (T.1, 100, .inl r3.2.1)), ((x 25), .inl (T.1, 100, .inl r3.2.2))]) (va_runV (As := [.int v4.2.2]) (rest := []) ⟨hx, hb, hml, hown, hts⟩ (c_X6_isRest l D T x u_this r3.2.1 r3.2.2 v4.2.2 er6) (cwV 1 hts gX6_rests_X6_isRest rfl rfl rfl (by decide +kernel) ⟨Nat.le_of_ble_eq_true rfl, Nat.le_of_ble_eq_true rfl⟩) (xpvv hP hD hK [0, 3, 4] (by decide) rfl 0 6 rfl rfl (fun _ _ _ => trivial) (fun _ _ _ _ _ _ => trivial)) rfl rfl hl.1 rfl (lv_room (Nat.le_of_ble_eq_true rfl)) dX6_rests_45 ⟨Nat.le_of_ble_eq_true rfl, Nat.le_of_ble_eq_true rfl⟩) hP hD hS hA [0, 3, 4] rfl rfl rfl rfl (fun H locs hP hD hS => ?_)
            refine lv_if_ne (tgt := 54) hx hb dX6_rests_48 (by decide) (fun c7 => ?_) (fun c7 => ?_)
            · have hM := xif c7 hM
              refine lv_iload_n hx hb dX6_rests_54 rfl (lv_at hl 2 rfl) ?_
              refine lv_if_ne (tgt := 62) hx hb dX6_rests_55 (by decide) (fun c8 => ?_) (fun c8 => ?_)
              · have hM := xif c8 hM
                refine lv_iinc (v := v4.1 + 1) (lv' := [(3, .int (v4.1 + 1)), (0, .ref (x 0)), (2, .int p2), (4, .int v4.2.1), (5, .int v4.2.2)]) hx hb dX6_rests_62 hl (k := 2) rfl rfl (by decide) rfl (fun ls hl => ?_)
                refine lv_iinc (v := v4.2.2 + 1) (lv' := [(5, .int (v4.2.2 + 1)), (3, .int (v4.1 + 1)), (0, .ref (x 0)), (2, .int p2), (4, .int v4.2.1)]) hx hb dX6_rests_65 hl (k := 4) rfl rfl (by decide) rfl (fun ls hl => ?_)
                refine lv_goto (tgt := 35) hx hb dX6_rests_68 (by decide) ?_
                exact ih _ (hz1 _ (Option.some.inj hM).symm) _ _ _ hP hD hS (lv_sub hl [2, 3, 1, 4, 0] rfl)
              · have hM := xit c8 hM
                refine lv_iload hx hb dX6_rests_58 (lv_at hl 4 rfl) ?_
                refine lv_istore (lv' := [(4, .int v4.2.2), (0, .ref (x 0)), (2, .int p2), (3, .int v4.1), (5, .int v4.2.2)]) hx hb dX6_rests_60 hl (by decide) rfl (fun ls hl => ?_)
                refine lv_iinc (v := v4.1 + 1) (lv' := [(3, .int (v4.1 + 1)), (4, .int v4.2.2), (0, .ref (x 0)), (2, .int p2), (5, .int v4.2.2)]) hx hb dX6_rests_62 hl (k := 3) rfl rfl (by decide) rfl (fun ls hl => ?_)
                refine lv_iinc (v := v4.2.2 + 1) (lv' := [(5, .int (v4.2.2 + 1)), (3, .int (v4.1 + 1)), (4, .int v4.2.2), (0, .ref (x 0)), (2, .int p2)]) hx hb dX6_rests_65 hl (k := 4) rfl rfl (by decide) rfl (fun ls hl => ?_)
                refine lv_goto (tgt := 35) hx hb dX6_rests_68 (by decide) ?_
                exact ih _ (hz1 _ (Option.some.inj hM).symm) _ _ _ hP hD hS (lv_sub hl [3, 4, 1, 2, 0] rfl)
            · have hM := xit c7 hM
              refine lv_goto (tgt := 65) hx hb dX6_rests_51 (by decide) ?_
              refine lv_iinc (v := v4.2.2 + 1) (lv' := [(5, .int (v4.2.2 + 1)), (0, .ref (x 0)), (2, .int p2), (3, .int v4.1), (4, .int v4.2.1)]) hx hb dX6_rests_65 hl (k := 4) rfl rfl (by decide) rfl (fun ls hl => ?_)
              refine lv_goto (tgt := 35) hx hb dX6_rests_68 (by decide) ?_
              exact ih _ (hz1 _ (Option.some.inj hM).symm) _ _ _ hP hD hS (lv_sub hl [1, 2, 3, 4, 0] rfl)
      exact Lv4 _ _ hM _ _ _ hP hD hS (lv_sub hl [3, 5, 2, 1, 0] rfl)
    · have hM := xif c2 hM
      refine lv_iconst (v := (-1)) hx hb dX6_rests_19 (by decide) ?_
      obtain rfl := Option.some.inj hM
      exact xreti hx hb hr hlocks hP hK hD hS dX6_rests_20 rfl
def f_X6_cost (u_this : K6) (u_this_costs : (Nat → Int32)) (p1 : Int32) (p2 : Int32) : Option (Int32 × (Nat → Int32)) :=
  if (f_X6_outside p1 (0) (4)) = (0) then
   (if (f_X6_outside p2 (0) (99)) = (0) then
     (if xin p1 5 = true then
      (some ((u_this_costs p1.toNatClampNeg), (upd u_this_costs p1.toNatClampNeg p2)))
      else none)
    else
     (some ((-1), u_this_costs)))
  else
   (some ((-1), u_this_costs))
set_option maxHeartbeats 4000000 in
set_option maxRecDepth 100000 in
theorem c_X6_cost (l : Launch) (D : va_G) (T : xT) (x : Nat → Nat) {sz : Nat} (u_this : K6) (u_this_costs : (Nat → Int32)) (p1 : Int32) (p2 : Int32) {rv : Int32 × (Nat → Int32)} (hM : f_X6_cost u_this u_this_costs p1 p2 = some rv) : Met l yX6_cost wsX6_cost ({ frames := 1, cells := 0, slots := 0, locals := 22 } : Room) (va_Pc [.ref (x 0), .int p1, .int p2] (xPre D T [((x 0), .inr (6, o6 x u_this)), ((x 14), .inl (T.1, 5, .inl u_this_costs))] sz xE0)) (va_Qi (fun (r : Int32) (_ : Unit) => r = rv.1) (fun _ => xPost D T [((x 0), .inr (6, o6 x u_this)), ((x 14), .inl (T.1, 5, .inl rv.2))] (va_A [((x 0), .inr (6, o6 x u_this)), ((x 14), .inl (T.1, 5, .inl u_this_costs))] sz)) (va_A [((x 0), .inr (6, o6 x u_this)), ((x 14), .inl (T.1, 5, .inl u_this_costs))] sz)) 0 0 (va_A [((x 0), .inr (6, o6 x u_this)), ((x 14), .inl (T.1, 5, .inl u_this_costs))] sz) := by
  refine xMet (av := [.ref (x 0), .int p1, .int p2]) (Wd := [((x 0), .inr (6, o6 x u_this)), ((x 14), .inl (T.1, 5, .inl u_this_costs))]) (E := xE0) (Qc := fun A => (va_Qi (fun (r : Int32) (_ : Unit) => r = rv.1) (fun _ => xPost D T [((x 0), .inr (6, o6 x u_this)), ((x 14), .inl (T.1, 5, .inl rv.2))] A) A)) (cc := cX6_cost) (maxL := 4) (ret := (some .int)) (by decide) rfl (Nat.le_of_ble_eq_true rfl) ?_
  intro p e s m below meth c A ls hx hb hr hml hts hown hlocks hnm hP hK hD hS hA hE hl
  have hown : s.vm.findClass RX6 = some m.cls := hown
  have hl : lv_has ls 4 [(0, .ref (x 0)), (1, .int p1), (2, .int p2)] := hl
  unfold f_X6_cost at hM
  refine lv_iload_n hx hb dX6_cost_0 rfl (lv_at hl 1 rfl) ?_
  refine lv_iconst (v := 0) hx hb dX6_cost_1 (by decide) ?_
  refine lv_iconst (v := 4) hx hb dX6_cost_2 (by decide) ?_
  refine xafti (rv := (f_X6_outside p1 (0) (4))) (W2 := [((x 0), .inr (6, o6 x u_this)), ((x 14), .inl (T.1, 5, .inl u_this_costs))]) (va_runS (As := [.int p1, .int (0), .int (4)]) (rest := []) ⟨hx, hb, hml, hown, hts⟩ (c_X6_outside (rv := (f_X6_outside p1 (0) (4))) l D T p1 (0) (4) rfl) (cwS 3 hts gX6_cost_X6_outside rfl rfl rfl (by decide +kernel) ⟨Nat.le_of_ble_eq_true rfl, Nat.le_of_ble_eq_true rfl⟩) (xpvs hP hD hK [] (by decide) rfl (fun _ _ _ => trivial) (fun _ _ _ _ _ _ => trivial)) rfl rfl hl.1 rfl (lv_room (Nat.le_of_ble_eq_true rfl)) dX6_cost_3 ⟨Nat.le_of_ble_eq_true rfl, Nat.le_of_ble_eq_true rfl⟩) hP hD hS hA [] rfl rfl rfl rfl (fun H locs hP hD hS => ?_)
  refine lv_if_ne (tgt := 19) hx hb dX6_cost_6 (by decide) (fun c1 => ?_) (fun c1 => ?_)
  · have hM := xif c1 hM
    refine lv_iconst (v := (-1)) hx hb dX6_cost_19 (by decide) ?_
    obtain rfl := Option.some.inj hM
    exact xreti hx hb hr hlocks hP hK hD hS dX6_cost_20 rfl
  · have hM := xit c1 hM
    refine lv_iload_n hx hb dX6_cost_9 rfl (lv_at hl 2 rfl) ?_
    refine lv_iconst (v := 0) hx hb dX6_cost_10 (by decide) ?_
    refine lv_bipush (v := 99) hx hb dX6_cost_11 (by decide) ?_
    refine xafti (rv := (f_X6_outside p2 (0) (99))) (W2 := [((x 0), .inr (6, o6 x u_this)), ((x 14), .inl (T.1, 5, .inl u_this_costs))]) (va_runS (As := [.int p2, .int (0), .int (99)]) (rest := []) ⟨hx, hb, hml, hown, hts⟩ (c_X6_outside (rv := (f_X6_outside p2 (0) (99))) l D T p2 (0) (99) rfl) (cwS 3 hts gX6_cost_X6_outside rfl rfl rfl (by decide +kernel) ⟨Nat.le_of_ble_eq_true rfl, Nat.le_of_ble_eq_true rfl⟩) (xpvs hP hD hK [] (by decide) rfl (fun _ _ _ => trivial) (fun _ _ _ _ _ _ => trivial)) rfl rfl hl.1 rfl (lv_room (Nat.le_of_ble_eq_true rfl)) dX6_cost_13 ⟨Nat.le_of_ble_eq_true rfl, Nat.le_of_ble_eq_true rfl⟩) hP hD hS hA [] rfl rfl rfl rfl (fun H locs hP hD hS => ?_)
    refine lv_if_eq (tgt := 21) hx hb dX6_cost_16 (by decide) (fun c2 => ?_) (fun c2 => ?_)
    · have hM := xit c2 hM
      refine lv_aload_n hx hb dX6_cost_21 rfl (lv_at hl 0 rfl) ?_
      refine va_get (D := D) (ci := 6) (v := .ref (x 14)) (C := RX6) (T := TX6) (N := 16) hx hb hts (fun w h => List.mem_cons_of_mem _ (List.mem_append_right _ h)) hown hK hP 0 rfl rfl 7 (by decide) (hts _ (List.mem_of_getElem? (i := 1) rfl)) (fun _ h9 => h9) rfl dX6_cost_22 ?_
      refine lv_iload_n hx hb dX6_cost_25 rfl (lv_at hl 1 rfl) ?_
      obtain ⟨g3, hM⟩ := xck hM
      refine xald (v := (u_this_costs p1.toNatClampNeg)) hx hb hK hP 1 0 rfl rfl g3 rfl dX6_cost_26 ?_
      refine lv_istore_n (lv' := [(3, .int (u_this_costs p1.toNatClampNeg)), (0, .ref (x 0)), (1, .int p1), (2, .int p2)]) hx hb dX6_cost_27 rfl hl (by decide) rfl (fun ls hl => ?_)
      refine lv_aload_n hx hb dX6_cost_28 rfl (lv_at hl 1 rfl) ?_
      refine va_get (D := D) (ci := 6) (v := .ref (x 14)) (C := RX6) (T := TX6) (N := 16) hx hb hts (fun w h => List.mem_cons_of_mem _ (List.mem_append_right _ h)) hown hK hP 0 rfl rfl 7 (by decide) (hts _ (List.mem_of_getElem? (i := 1) rfl)) (fun _ h9 => h9) rfl dX6_cost_29 ?_
      refine lv_iload_n hx hb dX6_cost_32 rfl (lv_at hl 2 rfl) ?_
      refine lv_iload_n hx hb dX6_cost_33 rfl (lv_at hl 3 rfl) ?_
      refine xast hx hb hK hP hD hS 1 0 rfl rfl g3 rfl dX6_cost_34 (fun H locs hP hD hS => ?_)
      have hP : va_P D vwCl [((x 0), .inr (6, o6 x u_this)), ((x 14), .inl (T.1, 5, .inl (upd u_this_costs p1.toNatClampNeg p2)))] H := hP
      have hD : va_D A [((x 0), .inr (6, o6 x u_this)), ((x 14), .inl (T.1, 5, .inl (upd u_this_costs p1.toNatClampNeg p2)))] := hD
      refine lv_iload_n hx hb dX6_cost_35 rfl (lv_at hl 0 rfl) ?_
      obtain rfl := Option.some.inj hM
      exact xreti hx hb hr hlocks hP hK hD hS dX6_cost_36 rfl
    · have hM := xif c2 hM
      refine lv_iconst (v := (-1)) hx hb dX6_cost_19 (by decide) ?_
      obtain rfl := Option.some.inj hM
      exact xreti hx hb hr hlocks hP hK hD hS dX6_cost_20 rfl
