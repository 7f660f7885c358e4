/-! laid by wip/whole/gen.py out of the decode rows: functional readings and contracts -/
def s_X7_fittingOf_16 (N : Nat) (u_this : K7) (u_this_told : (Nat → Int32)) (u_this_signWhat : (Nat → Int32)) (u_this_signHours : (Nat → Int32)) (u_this_signIs : (Nat → Int32)) (p1 : Int32) (v1 : Int32 × Int32 × (Nat → Int32) × (Nat → Int32)) (v3 : Int32 × Int32 × (Nat → Int32) × (Nat → Int32)) : Option ((Int32 × Int32 × (Nat → Int32) × (Nat → Int32)) ⊕ (Int32 × Int32 × (Nat → Int32) × (Nat → Int32))) :=
  if u_this.2.2.2.2.2.2.2.1 ≤ v3.2.1 then
   (some (.inr (v3.1, v3.2.1, v3.2.2.1, v3.2.2.2)))
  else
   (if v3.1 = (0) then
     (some (.inr (v3.1, v3.2.1, v3.2.2.1, v3.2.2.2)))
    else
     ((f_X7_takeTrouble N u_this u_this_told v3.2.2.1 p1 v1.2.1).bind fun r6 =>
      if xin v3.2.1 6 = true then
      ((f_X7_signBy N u_this r6 v3.2.2.2 (u_this_signWhat v3.2.1.toNatClampNeg) (u_this_signHours v3.2.1.toNatClampNeg)).bind fun r8 =>
       if r8.1 = (u_this_signIs v3.2.1.toNatClampNeg) then
        (some (.inl (1, v3.2.1 + 1, r6, r8.2)))
       else
        (some (.inl (0, v3.2.1 + 1, r6, r8.2))))
      else none))
def s_X7_fittingOf_4 (N : Nat) (u_this : K7) (u_this_told : (Nat → Int32)) (u_this_signWhat : (Nat → Int32)) (u_this_signHours : (Nat → Int32)) (u_this_signIs : (Nat → Int32)) (p1 : Int32) (v1 : Int32 × Int32 × (Nat → Int32) × (Nat → Int32)) : Option ((Int32 × Int32 × (Nat → Int32) × (Nat → Int32)) ⊕ (Int32 × Int32 × (Nat → Int32) × (Nat → Int32))) :=
  if (9) < v1.2.1 then
   (some (.inr (v1.1, v1.2.1, v1.2.2.1, v1.2.2.2)))
  else
   ((xlp (s_X7_fittingOf_16 N u_this u_this_told u_this_signWhat u_this_signHours u_this_signIs p1 v1) N (1, 0, v1.2.2.1, v1.2.2.2)).bind fun v10 =>
    if v10.1 = (0) then
     (some (.inl ((v1.1 + (0)), v1.2.1 + 1, v10.2.2.1, v10.2.2.2)))
    else
     (some (.inl ((v1.1 + (1)), v1.2.1 + 1, v10.2.2.1, v10.2.2.2))))
def f_X7_fittingOf (N : Nat) (u_this : K7) (u_this_told : (Nat → Int32)) (u_this_par : (Nat → Int32)) (u_this_try0 : (Nat → Int32)) (u_this_signWhat : (Nat → Int32)) (u_this_signHours : (Nat → Int32)) (u_this_signIs : (Nat → Int32)) (p1 : Int32) : Option (Int32 × (Nat → Int32) × (Nat → Int32)) :=
  (xlp (s_X7_fittingOf_4 N u_this u_this_told u_this_signWhat u_this_signHours u_this_signIs p1) N (0, 1, u_this_par, u_this_try0)).bind fun v12 =>
  some (v12.1, v12.2.2.1, v12.2.2.2)
set_option maxHeartbeats 4000000 in
set_option maxRecDepth 100000 in
theorem c_X7_fittingOf (l : Launch) (D : va_G) (T : xT) (x : Nat → Nat) {sz : Nat} {N : Nat} (u_this : K7) (u_this_told : (Nat → Int32)) (u_this_par : (Nat → Int32)) (u_this_try0 : (Nat → Int32)) (u_this_signWhat : (Nat → Int32)) (u_this_signHours : (Nat → Int32)) (u_this_signIs : (Nat → Int32)) (p1 : Int32) {rv : Int32 × (Nat → Int32) × (Nat → Int32)} (hM : f_X7_fittingOf N u_this u_this_told u_this_par u_this_try0 u_this_signWhat u_this_signHours u_this_signIs p1 = some rv) : Met l yX7_fittingOf wsX7_fittingOf ({ frames := 6, cells := 0, slots := 0, locals := 131 } : Room) (va_Pc [.ref (x 0), .int p1] (xPre D T [((x 0), .inr (7, o7 x u_this)), ((x 2), .inl (T.1, 22, .inl u_this_told)), ((x 3), .inl (T.1, 11, .inl u_this_par)), ((x 4), .inl (T.1, 7, .inl u_this_try0)), ((x 7), .inl (T.1, 6, .inl u_this_signWhat)), ((x 8), .inl (T.1, 6, .inl u_this_signHours)), ((x 9), .inl (T.1, 6, .inl u_this_signIs))] sz xE0)) (va_Qi (fun (r : Int32) (_ : Unit) => r = rv.1) (fun _ => xPost D T [((x 0), .inr (7, o7 x u_this)), ((x 2), .inl (T.1, 22, .inl u_this_told)), ((x 3), .inl (T.1, 11, .inl rv.2.1)), ((x 4), .inl (T.1, 7, .inl rv.2.2)), ((x 7), .inl (T.1, 6, .inl u_this_signWhat)), ((x 8), .inl (T.1, 6, .inl u_this_signHours)), ((x 9), .inl (T.1, 6, .inl u_this_signIs))] (va_A [((x 0), .inr (7, o7 x u_this)), ((x 2), .inl (T.1, 22, .inl u_this_told)), ((x 3), .inl (T.1, 11, .inl u_this_par)), ((x 4), .inl (T.1, 7, .inl u_this_try0)), ((x 7), .inl (T.1, 6, .inl u_this_signWhat)), ((x 8), .inl (T.1, 6, .inl u_this_signHours)), ((x 9), .inl (T.1, 6, .inl u_this_signIs))] sz)) (va_A [((x 0), .inr (7, o7 x u_this)), ((x 2), .inl (T.1, 22, .inl u_this_told)), ((x 3), .inl (T.1, 11, .inl u_this_par)), ((x 4), .inl (T.1, 7, .inl u_this_try0)), ((x 7), .inl (T.1, 6, .inl u_this_signWhat)), ((x 8), .inl (T.1, 6, .inl u_this_signHours)), ((x 9), .inl (T.1, 6, .inl u_this_signIs))] sz)) 0 0 (va_A [((x 0), .inr (7, o7 x u_this)), ((x 2), .inl (T.1, 22, .inl u_this_told)), ((x 3), .inl (T.1, 11, .inl u_this_par)), ((x 4), .inl (T.1, 7, .inl u_this_try0)), ((x 7), .inl (T.1, 6, .inl u_this_signWhat)), ((x 8), .inl (T.1, 6, .inl u_this_signHours)), ((x 9), .inl (T.1, 6, .inl u_this_signIs))] sz) := by
  refine xMet (av := [.ref (x 0), .int p1]) (Wd := [((x 0), .inr (7, o7 x u_this)), ((x 2), .inl (T.1, 22, .inl u_this_told)), ((x 3), .inl (T.1, 11, .inl u_this_par)), ((x 4), .inl (T.1, 7, .inl u_this_try0)), ((x 7), .inl (T.1, 6, .inl u_this_signWhat)), ((x 8), .inl (T.1, 6, .inl u_this_signHours)), ((x 9), .inl (T.1, 6, .inl u_this_signIs))]) (E := xE0) (Qc := fun A => (va_Qi (fun (r : Int32) (_ : Unit) => r = rv.1) (fun _ => xPost D T [((x 0), .inr (7, o7 x u_this)), ((x 2), .inl (T.1, 22, .inl u_this_told)), ((x 3), .inl (T.1, 11, .inl rv.2.1)), ((x 4), .inl (T.1, 7, .inl rv.2.2)), ((x 7), .inl (T.1, 6, .inl u_this_signWhat)), ((x 8), .inl (T.1, 6, .inl u_this_signHours)), ((x 9), .inl (T.1, 6, .inl u_this_signIs))] A) A)) (cc := cX7_fittingOf) (maxL := 6) (ret := (some .int)) (by decide) rfl (Nat.le_of_ble_eq_true rfl) ?_
  intro p e s m below meth c A ls hx hb hr hml hts hown hlocks hnm hP hK hD hS hA hE hl
  have hown : s.vm.findClass RX7 = some m.cls := hown
  have hl : lv_has ls 6 [(0, .ref (x 0)), (1, .int p1)] := hl
  unfold f_X7_fittingOf at hM
  refine lv_iconst (v := 0) hx hb dX7_fittingOf_0 (by decide) ?_
  refine lv_istore_n (lv' := [(2, .int (0)), (0, .ref (x 0)), (1, .int p1)]) hx hb dX7_fittingOf_1 rfl hl (by decide) rfl (fun ls hl => ?_)
  refine lv_iconst (v := 1) hx hb dX7_fittingOf_2 (by decide) ?_
  refine lv_istore_n (lv' := [(3, .int (1)), (2, .int (0)), (0, .ref (x 0)), (1, .int p1)]) hx hb dX7_fittingOf_3 rfl hl (by decide) rfl (fun ls hl => ?_)
  obtain ⟨v12, hM, hNv12⟩ := xbd hM
  have hQv12 := hM
  have Kv12 : ∀ (H : Heap) (locs : List Loc) (ls : Array Slot), va_P D vwCl [((x 0), .inr (7, o7 x u_this)), ((x 2), .inl (T.1, 22, .inl u_this_told)), ((x 3), .inl (T.1, 11, .inl v12.2.2.1)), ((x 4), .inl (T.1, 7, .inl v12.2.2.2)), ((x 7), .inl (T.1, 6, .inl u_this_signWhat)), ((x 8), .inl (T.1, 6, .inl u_this_signHours)), ((x 9), .inl (T.1, 6, .inl u_this_signIs))] H → va_D A [((x 0), .inr (7, o7 x u_this)), ((x 2), .inl (T.1, 22, .inl u_this_told)), ((x 3), .inl (T.1, 11, .inl v12.2.2.1)), ((x 4), .inl (T.1, 7, .inl v12.2.2.2)), ((x 7), .inl (T.1, 6, .inl u_this_signWhat)), ((x 8), .inl (T.1, 6, .inl u_this_signHours)), ((x 9), .inl (T.1, 6, .inl u_this_signIs))] → va_S A s.heap H locs → lv_has ls 6 [(2, .int v12.1)] → W p l e ({ frames := 6, cells := 0, slots := 0, locals := 131 } : Room) s m ([.ref (x 0), .int p1] : List Value).toArray below meth c H locs 0 0 (MQ below (va_Qi (fun (r : Int32) (_ : Unit) => r = rv.1) (fun _ => xPost D T [((x 0), .inr (7, o7 x u_this)), ((x 2), .inl (T.1, 22, .inl u_this_told)), ((x 3), .inl (T.1, 11, .inl rv.2.1)), ((x 4), .inl (T.1, 7, .inl rv.2.2)), ((x 7), .inl (T.1, 6, .inl u_this_signWhat)), ((x 8), .inl (T.1, 6, .inl u_this_signHours)), ((x 9), .inl (T.1, 6, .inl u_this_signIs))] A) A) ([.ref (x 0), .int p1] : List Value).toArray s 0 0 A) (F0 m 96 ls []) := by
    intro H locs ls hP hD hS hl
    have hM := hNv12
    refine lv_iload_n hx hb dX7_fittingOf_96 rfl (lv_at hl 0 rfl) ?_
    obtain rfl := Option.some.inj hM
    exact xreti hx hb hr hlocks hP hK hD hS dX7_fittingOf_97 rfl
  have Lv1 : ∀ (n : Nat) (v1 : Int32 × Int32 × (Nat → Int32) × (Nat → Int32)), xlp (s_X7_fittingOf_4 N u_this u_this_told u_this_signWhat u_this_signHours u_this_signIs p1) n v1 = some v12 → ∀ (H : Heap) (locs : List Loc) (ls : Array Slot), va_P D vwCl [((x 0), .inr (7, o7 x u_this)), ((x 2), .inl (T.1, 22, .inl u_this_told)), ((x 3), .inl (T.1, 11, .inl v1.2.2.1)), ((x 4), .inl (T.1, 7, .inl v1.2.2.2)), ((x 7), .inl (T.1, 6, .inl u_this_signWhat)), ((x 8), .inl (T.1, 6, .inl u_this_signHours)), ((x 9), .inl (T.1, 6, .inl u_this_signIs))] H → va_D A [((x 0), .inr (7, o7 x u_this)), ((x 2), .inl (T.1, 22, .inl u_this_told)), ((x 3), .inl (T.1, 11, .inl v1.2.2.1)), ((x 4), .inl (T.1, 7, .inl v1.2.2.2)), ((x 7), .inl (T.1, 6, .inl u_this_signWhat)), ((x 8), .inl (T.1, 6, .inl u_this_signHours)), ((x 9), .inl (T.1, 6, .inl u_this_signIs))] → va_S A s.heap H locs → lv_has ls 6 [(0, .ref (x 0)), (1, .int p1), (2, .int v1.1), (3, .int v1.2.1)] → W p l e ({ frames := 6, cells := 0, slots := 0, locals := 131 } : Room) s m ([.ref (x 0), .int p1] : List Value).toArray below meth c H locs 0 0 (MQ below (va_Qi (fun (r : Int32) (_ : Unit) => r = rv.1) (fun _ => xPost D T [((x 0), .inr (7, o7 x u_this)), ((x 2), .inl (T.1, 22, .inl u_this_told)), ((x 3), .inl (T.1, 11, .inl rv.2.1)), ((x 4), .inl (T.1, 7, .inl rv.2.2)), ((x 7), .inl (T.1, 6, .inl u_this_signWhat)), ((x 8), .inl (T.1, 6, .inl u_this_signHours)), ((x 9), .inl (T.1, 6, .inl u_this_signIs))] A) A) ([.ref (x 0), .int p1] : List Value).toArray s 0 0 A) (F0 m 4 ls []) := by
    intro n
    induction n with
    | zero => exact fun _ h => (xlp_0 h).elim
    | succ n ih =>
      intro v1 hM H locs ls hP hD hS hl
      obtain ⟨z, hM, hz1, hz2⟩ := xlp_s hM
      unfold s_X7_fittingOf_4 at hM
      refine lv_iload_n hx hb dX7_fittingOf_4 rfl (lv_at hl 3 rfl) ?_
      refine lv_bipush (v := 9) hx hb dX7_fittingOf_5 (by decide) ?_
      refine lv_icmp_gt (tgt := 96) hx hb dX7_fittingOf_7 (by decide) (fun c2 => ?_) (fun c2 => ?_)
      · have hM := xit c2 hM
        obtain rfl := hz2 _ (Option.some.inj hM).symm
        exact Kv12 _ _ _ hP hD hS (lv_sub hl [2] rfl)
      · have hM := xif c2 hM
        refine lv_iconst (v := 1) hx hb dX7_fittingOf_10 (by decide) ?_
        refine lv_istore (lv' := [(4, .int (1)), (0, .ref (x 0)), (1, .int p1), (2, .int v1.1), (3, .int v1.2.1)]) hx hb dX7_fittingOf_11 hl (by decide) rfl (fun ls hl => ?_)
        refine lv_iconst (v := 0) hx hb dX7_fittingOf_13 (by decide) ?_
        refine lv_istore (lv' := [(5, .int (0)), (4, .int (1)), (0, .ref (x 0)), (1, .int p1), (2, .int v1.1), (3, .int v1.2.1)]) hx hb dX7_fittingOf_14 hl (by decide) rfl (fun ls hl => ?_)
        obtain ⟨v10, hM, hNv10⟩ := xbd hM
        have hQv10 := hM
        have Kv10 : ∀ (H : Heap) (locs : List Loc) (ls : Array Slot), va_P D vwCl [((x 0), .inr (7, o7 x u_this)), ((x 2), .inl (T.1, 22, .inl u_this_told)), ((x 3), .inl (T.1, 11, .inl v10.2.2.1)), ((x 4), .inl (T.1, 7, .inl v10.2.2.2)), ((x 7), .inl (T.1, 6, .inl u_this_signWhat)), ((x 8), .inl (T.1, 6, .inl u_this_signHours)), ((x 9), .inl (T.1, 6, .inl u_this_signIs))] H → va_D A [((x 0), .inr (7, o7 x u_this)), ((x 2), .inl (T.1, 22, .inl u_this_told)), ((x 3), .inl (T.1, 11, .inl v10.2.2.1)), ((x 4), .inl (T.1, 7, .inl v10.2.2.2)), ((x 7), .inl (T.1, 6, .inl u_this_signWhat)), ((x 8), .inl (T.1, 6, .inl u_this_signHours)), ((x 9), .inl (T.1, 6, .inl u_this_signIs))] → va_S A s.heap H locs → lv_has ls 6 [(0, .ref (x 0)), (1, .int p1), (2, .int v1.1), (3, .int v1.2.1), (4, .int v10.1)] → W p l e ({ frames := 6, cells := 0, slots := 0, locals := 131 } : Room) s m ([.ref (x 0), .int p1] : List Value).toArray below meth c H locs 0 0 (MQ below (va_Qi (fun (r : Int32) (_ : Unit) => r = rv.1) (fun _ => xPost D T [((x 0), .inr (7, o7 x u_this)), ((x 2), .inl (T.1, 22, .inl u_this_told)), ((x 3), .inl (T.1, 11, .inl rv.2.1)), ((x 4), .inl (T.1, 7, .inl rv.2.2)), ((x 7), .inl (T.1, 6, .inl u_this_signWhat)), ((x 8), .inl (T.1, 6, .inl u_this_signHours)), ((x 9), .inl (T.1, 6, .inl u_this_signIs))] A) A) ([.ref (x 0), .int p1] : List Value).toArray s 0 0 A) (F0 m 77 ls []) := by
          intro H locs ls hP hD hS hl
          have hM := hNv10
          refine lv_iload_n hx hb dX7_fittingOf_77 rfl (lv_at hl 2 rfl) ?_
          refine lv_iload hx hb dX7_fittingOf_78 (lv_at hl 4 rfl) ?_
          refine lv_if_eq (tgt := 87) hx hb dX7_fittingOf_80 (by decide) (fun c11 => ?_) (fun c11 => ?_)
          · have hM := xit c11 hM
            refine lv_iconst (v := 0) hx hb dX7_fittingOf_87 (by decide) ?_
            refine lv_iadd hx hb dX7_fittingOf_88 ?_
            refine lv_istore_n (lv' := [(2, .int (v1.1 + (0))), (0, .ref (x 0)), (1, .int p1), (3, .int v1.2.1), (4, .int v10.1)]) hx hb dX7_fittingOf_89 rfl hl (by decide) rfl (fun ls hl => ?_)
            refine lv_iinc (v := v1.2.1 + 1) (lv' := [(3, .int (v1.2.1 + 1)), (2, .int (v1.1 + (0))), (0, .ref (x 0)), (1, .int p1), (4, .int v10.1)]) hx hb dX7_fittingOf_90 hl (k := 3) rfl rfl (by decide) rfl (fun ls hl => ?_)
            refine lv_goto (tgt := 4) hx hb dX7_fittingOf_93 (by decide) ?_
            exact ih _ (hz1 _ (Option.some.inj hM).symm) _ _ _ hP hD hS (lv_sub hl [2, 3, 1, 0] rfl)
          · have hM := xif c11 hM
            refine lv_iconst (v := 1) hx hb dX7_fittingOf_83 (by decide) ?_
            refine lv_goto (tgt := 88) hx hb dX7_fittingOf_84 (by decide) ?_
            refine lv_iadd hx hb dX7_fittingOf_88 ?_
            refine lv_istore_n (lv' := [(2, .int (v1.1 + (1))), (0, .ref (x 0)), (1, .int p1), (3, .int v1.2.1), (4, .int v10.1)]) hx hb dX7_fittingOf_89 rfl hl (by decide) rfl (fun ls hl => ?_)
            refine lv_iinc (v := v1.2.1 + 1) (lv' := [(3, .int (v1.2.1 + 1)), (2, .int (v1.1 + (1))), (0, .ref (x 0)), (1, .int p1), (4, .int v10.1)]) hx hb dX7_fittingOf_90 hl (k := 3) rfl rfl (by decide) rfl (fun ls hl => ?_)
            refine lv_goto (tgt := 4) hx hb dX7_fittingOf_93 (by decide) ?_
            exact ih _ (hz1 _ (Option.some.inj hM).symm) _ _ _ hP hD hS (lv_sub hl [2, 3, 1, 0] rfl)
        have Lv3 : ∀ (n : Nat) (v3 : Int32 × Int32 × (Nat → Int32) × (Nat → Int32)), xlp (s_X7_fittingOf_16 N u_this u_this_told u_this_signWhat u_this_signHours u_this_signIs p1 v1) n v3 = some v10 → ∀ (H : Heap) (locs : List Loc) (ls : Array Slot), va_P D vwCl [((x 0), .inr (7, o7 x u_this)), ((x 2), .inl (T.1, 22, .inl u_this_told)), ((x 3), .inl (T.1, 11, .inl v3.2.2.1)), ((x 4), .inl (T.1, 7, .inl v3.2.2.2)), ((x 7), .inl (T.1, 6, .inl u_this_signWhat)), ((x 8), .inl (T.1, 6, .inl u_this_signHours)), ((x 9), .inl (T.1, 6, .inl u_this_signIs))] H → va_D A [((x 0), .inr (7, o7 x u_this)), ((x 2), .inl (T.1, 22, .inl u_this_told)), ((x 3), .inl (T.1, 11, .inl v3.2.2.1)), ((x 4), .inl (T.1, 7, .inl v3.2.2.2)), ((x 7), .inl (T.1, 6, .inl u_this_signWhat)), ((x 8), .inl (T.1, 6, .inl u_this_signHours)), ((x 9), .inl (T.1, 6, .inl u_this_signIs))] → va_S A s.heap H locs → lv_has ls 6 [(0, .ref (x 0)), (1, .int p1), (2, .int v1.1), (3, .int v1.2.1), (4, .int v3.1), (5, .int v3.2.1)] → W p l e ({ frames := 6, cells := 0, slots := 0, locals := 131 } : Room) s m ([.ref (x 0), .int p1] : List Value).toArray below meth c H locs 0 0 (MQ below (va_Qi (fun (r : Int32) (_ : Unit) => r = rv.1) (fun _ => xPost D T [((x 0), .inr (7, o7 x u_this)), ((x 2), .inl (T.1, 22, .inl u_this_told)), ((x 3), .inl (T.1, 11, .inl rv.2.1)), ((x 4), .inl (T.1, 7, .inl rv.2.2)), ((x 7), .inl (T.1, 6, .inl u_this_signWhat)), ((x 8), .inl (T.1, 6, .inl u_this_signHours)), ((x 9), .inl (T.1, 6, .inl u_this_signIs))] A) A) ([.ref (x 0), .int p1] : List Value).toArray s 0 0 A) (F0 m 16 ls []) := by
          intro n
          induction n with
          | zero => exact fun _ h => (xlp_0 h).elim
          | succ n ih =>
            intro v3 hM H locs ls hP hD hS hl
            obtain ⟨z, hM, hz1, hz2⟩ := xlp_s hM
            unfold s_X7_fittingOf_16 at hM
            refine lv_iload hx hb dX7_fittingOf_16 (lv_at hl 5 rfl) ?_
            refine lv_aload_n hx hb dX7_fittingOf_18 rfl (lv_at hl 0 rfl) ?_
            refine va_get (D := D) (ci := 7) (v := .int u_this.2.2.2.2.2.2.2.1) (C := RX7) (T := TX7) (N := 30) hx hb hts (fun w h => List.mem_cons_of_mem _ (List.mem_append_right _ h)) hown hK hP 0 rfl rfl 13 (by decide) (hts _ (List.mem_of_getElem? (i := 1) rfl)) (fun _ h9 => h9) rfl dX7_fittingOf_19 ?_
            refine lv_icmp_ge (tgt := 77) hx hb dX7_fittingOf_22 (by decide) (fun c4 => ?_) (fun c4 => ?_)
            · have hM := xit c4 hM
              obtain rfl := hz2 _ (Option.some.inj hM).symm
              exact Kv10 _ _ _ hP hD hS (lv_sub hl [0, 1, 2, 3, 4] rfl)
            · have hM := xif c4 hM
              refine lv_iload hx hb dX7_fittingOf_25 (lv_at hl 4 rfl) ?_
              refine lv_if_eq (tgt := 77) hx hb dX7_fittingOf_27 (by decide) (fun c5 => ?_) (fun c5 => ?_)
              · have hM := xit c5 hM
                obtain rfl := hz2 _ (Option.some.inj hM).symm
                exact Kv10 _ _ _ hP hD hS (lv_sub hl [0, 1, 2, 3, 4] rfl)
              · have hM := xif c5 hM
                refine lv_aload_n hx hb dX7_fittingOf_30 rfl (lv_at hl 0 rfl) ?_
                refine lv_iload_n hx hb dX7_fittingOf_31 rfl (lv_at hl 1 rfl) ?_
                refine lv_iload_n hx hb dX7_fittingOf_32 rfl (lv_at hl 3 rfl) ?_
                obtain ⟨r6, er6, hM⟩ := xbd hM
                refine xaftv (W2 := [((x 0), .inr (7, o7 x u_this)), ((x 2), .inl (T.1, 22, .inl u_this_told)), ((x 3), .inl (T.1, 11, .inl r6)), ((x 4), .inl (T.1, 7, .inl v3.2.2.2)), ((x 7), .inl (T.1, 6, .inl u_this_signWhat)), ((x 8), .inl (T.1, 6, .inl u_this_signHours)), ((x 9), .inl (T.1, 6, .inl u_this_signIs))]) (va_runV (As := [.int p1, .int v1.2.1]) (rest := []) ⟨hx, hb, hml, hown, hts⟩ (c_X7_takeTrouble l D T x u_this u_this_told v3.2.2.1 p1 v1.2.1 er6) (cwV 2 hts gX7_fittingOf_X7_takeTrouble rfl rfl rfl (by decide +kernel) ⟨Nat.le_of_ble_eq_true rfl, Nat.le_of_ble_eq_true rfl⟩) (xpvv hP hD hK [0, 1, 2] (by decide) rfl 0 7 rfl rfl (fun _ _ _ => trivial) (fun _ _ _ _ _ _ => trivial)) rfl rfl hl.1 rfl (lv_room (Nat.le_of_ble_eq_true rfl)) dX7_fittingOf_33 ⟨Nat.le_of_ble_eq_true rfl, Nat.le_of_ble_eq_true rfl⟩) hP hD hS hA [0, 1, 2] rfl rfl rfl rfl (fun H locs hP hD hS => ?_)
                refine lv_aload_n hx hb dX7_fittingOf_36 rfl (lv_at hl 0 rfl) ?_
                refine lv_aload_n hx hb dX7_fittingOf_37 rfl (lv_at hl 0 rfl) ?_
                refine va_get (D := D) (ci := 7) (v := .ref (x 7)) (C := RX7) (T := TX7) (N := 30) hx hb hts (fun w h => List.mem_cons_of_mem _ (List.mem_append_right _ h)) hown hK hP 0 rfl rfl 14 (by decide) (hts _ (List.mem_of_getElem? (i := 2) rfl)) (fun _ h9 => h9) rfl dX7_fittingOf_38 ?_
                refine lv_iload hx hb dX7_fittingOf_41 (lv_at hl 5 rfl) ?_
                obtain ⟨g7, hM⟩ := xck hM
                refine xald (v := (u_this_signWhat v3.2.1.toNatClampNeg)) hx hb hK hP 4 0 rfl rfl g7 rfl dX7_fittingOf_43 ?_
                refine lv_aload_n hx hb dX7_fittingOf_44 rfl (lv_at hl 0 rfl) ?_
                refine va_get (D := D) (ci := 7) (v := .ref (x 8)) (C := RX7) (T := TX7) (N := 30) hx hb hts (fun w h => List.mem_cons_of_mem _ (List.mem_append_right _ h)) hown hK hP 0 rfl rfl 15 (by decide) (hts _ (List.mem_of_getElem? (i := 3) rfl)) (fun _ h9 => h9) rfl dX7_fittingOf_45 ?_
                refine lv_iload hx hb dX7_fittingOf_48 (lv_at hl 5 rfl) ?_
                refine xald (v := (u_this_signHours v3.2.1.toNatClampNeg)) hx hb hK hP 5 0 rfl rfl g7 rfl dX7_fittingOf_50 ?_
                obtain ⟨r8, er8, hM⟩ := xbd hM
                refine xafti (rv := r8.1) (W2 := [((x 0), .inr (7, o7 x u_this)), ((x 2), .inl (T.1, 22, .inl u_this_told)), ((x 3), .inl (T.1, 11, .inl r6)), ((x 4), .inl (T.1, 7, .inl r8.2)), ((x 7), .inl (T.1, 6, .inl u_this_signWhat)), ((x 8), .inl (T.1, 6, .inl u_this_signHours)), ((x 9), .inl (T.1, 6, .inl u_this_signIs))]) (va_runV (As := [.int (u_this_signWhat v3.2.1.toNatClampNeg), .int (u_this_signHours v3.2.1.toNatClampNeg)]) (rest := []) ⟨hx, hb, hml, hown, hts⟩ (c_X7_signBy l D T x u_this r6 v3.2.2.2 (u_this_signWhat v3.2.1.toNatClampNeg) (u_this_signHours v3.2.1.toNatClampNeg) er8) (cwV 2 hts gX7_fittingOf_X7_signBy rfl rfl rfl (by decide +kernel) ⟨Nat.le_of_ble_eq_true rfl, Nat.le_of_ble_eq_true rfl⟩) (xpvv hP hD hK [0, 2, 3] (by decide) rfl 0 7 rfl rfl (fun _ _ _ => trivial) (fun _ _ _ _ _ _ => trivial)) rfl rfl hl.1 rfl (lv_room (Nat.le_of_ble_eq_true rfl)) dX7_fittingOf_51 ⟨Nat.le_of_ble_eq_true rfl, Nat.le_of_ble_eq_true rfl⟩) hP hD hS hA [0, 2, 3] rfl rfl rfl rfl (fun H locs hP hD hS => ?_)
                refine lv_aload_n hx hb dX7_fittingOf_54 rfl (lv_at hl 0 rfl) ?_
                refine va_get (D := D) (ci := 7) (v := .ref (x 9)) (C := RX7) (T := TX7) (N := 30) hx hb hts (fun w h => List.mem_cons_of_mem _ (List.mem_append_right _ h)) hown hK hP 0 rfl rfl 16 (by decide) (hts _ (List.mem_of_getElem? (i := 4) rfl)) (fun _ h9 => h9) rfl dX7_fittingOf_55 ?_
                refine lv_iload hx hb dX7_fittingOf_58 (lv_at hl 5 rfl) ?_
                refine xald (v := (u_this_signIs v3.2.1.toNatClampNeg)) hx hb hK hP 6 0 rfl rfl g7 rfl dX7_fittingOf_60 ?_
                refine lv_icmp_ne (tgt := 68) hx hb dX7_fittingOf_61 (by decide) (fun c9 => ?_) (fun c9 => ?_)
                · have hM := xif c9 hM
                  refine lv_iconst (v := 0) hx hb dX7_fittingOf_68 (by decide) ?_
                  refine lv_istore (lv' := [(4, .int (0)), (0, .ref (x 0)), (1, .int p1), (2, .int v1.1), (3, .int v1.2.1), (5, .int v3.2.1)]) hx hb dX7_fittingOf_69 hl (by decide) rfl (fun ls hl => ?_)
                  refine lv_iinc (v := v3.2.1 + 1) (lv' := [(5, .int (v3.2.1 + 1)), (4, .int (0)), (0, .ref (x 0)), (1, .int p1), (2, .int v1.1), (3, .int v1.2.1)]) hx hb dX7_fittingOf_71 hl (k := 5) rfl rfl (by decide) rfl (fun ls hl => ?_)
                  refine lv_goto (tgt := 16) hx hb dX7_fittingOf_74 (by decide) ?_
                  exact ih _ (hz1 _ (Option.some.inj hM).symm) _ _ _ hP hD hS (lv_sub hl [2, 3, 4, 5, 1, 0] rfl)
                · have hM := xit c9 hM
                  refine lv_iconst (v := 1) hx hb dX7_fittingOf_64 (by decide) ?_
                  refine lv_goto (tgt := 69) hx hb dX7_fittingOf_65 (by decide) ?_
                  refine lv_istore (lv' := [(4, .int (1)), (0, .ref (x 0)), (1, .int p1), (2, .int v1.1), (3, .int v1.2.1), (5, .int v3.2.1)]) hx hb dX7_fittingOf_69 hl (by decide) rfl (fun ls hl => ?_)
                  refine lv_iinc (v := v3.2.1 + 1) (lv' := [(5, .int (v3.2.1 + 1)), (4, .int (1)), (0, .ref (x 0)), (1, .int p1), (2, .int v1.1), (3, .int v1.2.1)]) hx hb dX7_fittingOf_71 hl (k := 5) rfl rfl (by decide) rfl (fun ls hl => ?_)
                  refine lv_goto (tgt := 16) hx hb dX7_fittingOf_74 (by decide) ?_
                  exact ih _ (hz1 _ (Option.some.inj hM).symm) _ _ _ hP hD hS (lv_sub hl [2, 3, 4, 5, 1, 0] rfl)
        exact Lv3 _ _ hM _ _ _ hP hD hS (lv_sub hl [2, 3, 4, 5, 1, 0] rfl)
  exact Lv1 _ _ hM _ _ _ hP hD hS (lv_sub hl [2, 3, 1, 0] rfl)
def f_X7_fitting (N : Nat) (u_this : K7) (u_this_told : (Nat → Int32)) (u_this_par : (Nat → Int32)) (u_this_try0 : (Nat → Int32)) (u_this_signWhat : (Nat → Int32)) (u_this_signHours : (Nat → Int32)) (u_this_signIs : (Nat → Int32)) (p1 : Int32) : Option (Int32 × (Nat → Int32) × (Nat → Int32)) :=
  if (f_X7_isTrouble p1) = (0) then
   (some ((-1), u_this_par, u_this_try0))
  else
   ((f_X7_fittingOf N u_this u_this_told u_this_par u_this_try0 u_this_signWhat u_this_signHours u_this_signIs p1).bind fun r2 =>
    some (r2.1, r2.2.1, r2.2.2))
set_option maxHeartbeats 4000000 in
set_option maxRecDepth 100000 in
theorem c_X7_fitting (l : Launch) (D : va_G) (T : xT) (x : Nat → Nat) {sz : Nat} {N : Nat} (u_this : K7) (u_this_told : (Nat → Int32)) (u_this_par : (Nat → Int32)) (u_this_try0 : (Nat → Int32)) (u_this_signWhat : (Nat → Int32)) (u_this_signHours : (Nat → Int32)) (u_this_signIs : (Nat → Int32)) (p1 : Int32) {rv : Int32 × (Nat → Int32) × (Nat → Int32)} (hM : f_X7_fitting N u_this u_this_told u_this_par u_this_try0 u_this_signWhat u_this_signHours u_this_signIs p1 = some rv) : Met l yX7_fitting wsX7_fitting ({ frames := 7, cells := 0, slots := 0, locals := 156 } : Room) (va_Pc [.ref (x 0), .int p1] (xPre D T [((x 0), .inr (7, o7 x u_this)), ((x 2), .inl (T.1, 22, .inl u_this_told)), ((x 3), .inl (T.1, 11, .inl u_this_par)), ((x 4), .inl (T.1, 7, .inl u_this_try0)), ((x 7), .inl (T.1, 6, .inl u_this_signWhat)), ((x 8), .inl (T.1, 6, .inl u_this_signHours)), ((x 9), .inl (T.1, 6, .inl u_this_signIs))] sz xE0)) (va_Qi (fun (r : Int32) (_ : Unit) => r = rv.1) (fun _ => xPost D T [((x 0), .inr (7, o7 x u_this)), ((x 2), .inl (T.1, 22, .inl u_this_told)), ((x 3), .inl (T.1, 11, .inl rv.2.1)), ((x 4), .inl (T.1, 7, .inl rv.2.2)), ((x 7), .inl (T.1, 6, .inl u_this_signWhat)), ((x 8), .inl (T.1, 6, .inl u_this_signHours)), ((x 9), .inl (T.1, 6, .inl u_this_signIs))] (va_A [((x 0), .inr (7, o7 x u_this)), ((x 2), .inl (T.1, 22, .inl u_this_told)), ((x 3), .inl (T.1, 11, .inl u_this_par)), ((x 4), .inl (T.1, 7, .inl u_this_try0)), ((x 7), .inl (T.1, 6, .inl u_this_signWhat)), ((x 8), .inl (T.1, 6, .inl u_this_signHours)), ((x 9), .inl (T.1, 6, .inl u_this_signIs))] sz)) (va_A [((x 0), .inr (7, o7 x u_this)), ((x 2), .inl (T.1, 22, .inl u_this_told)), ((x 3), .inl (T.1, 11, .inl u_this_par)), ((x 4), .inl (T.1, 7, .inl u_this_try0)), ((x 7), .inl (T.1, 6, .inl u_this_signWhat)), ((x 8), .inl (T.1, 6, .inl u_this_signHours)), ((x 9), .inl (T.1, 6, .inl u_this_signIs))] sz)) 0 0 (va_A [((x 0), .inr (7, o7 x u_this)), ((x 2), .inl (T.1, 22, .inl u_this_told)), ((x 3), .inl (T.1, 11, .inl u_this_par)), ((x 4), .inl (T.1, 7, .inl u_this_try0)), ((x 7), .inl (T.1, 6, .inl u_this_signWhat)), ((x 8), .inl (T.1, 6, .inl u_this_signHours)), ((x 9), .inl (T.1, 6, .inl u_this_signIs))] sz) := by
  refine xMet (av := [.ref (x 0), .int p1]) (Wd := [((x 0), .inr (7, o7 x u_this)), ((x 2), .inl (T.1, 22, .inl u_this_told)), ((x 3), .inl (T.1, 11, .inl u_this_par)), ((x 4), .inl (T.1, 7, .inl u_this_try0)), ((x 7), .inl (T.1, 6, .inl u_this_signWhat)), ((x 8), .inl (T.1, 6, .inl u_this_signHours)), ((x 9), .inl (T.1, 6, .inl u_this_signIs))]) (E := xE0) (Qc := fun A => (va_Qi (fun (r : Int32) (_ : Unit) => r = rv.1) (fun _ => xPost D T [((x 0), .inr (7, o7 x u_this)), ((x 2), .inl (T.1, 22, .inl u_this_told)), ((x 3), .inl (T.1, 11, .inl rv.2.1)), ((x 4), .inl (T.1, 7, .inl rv.2.2)), ((x 7), .inl (T.1, 6, .inl u_this_signWhat)), ((x 8), .inl (T.1, 6, .inl u_this_signHours)), ((x 9), .inl (T.1, 6, .inl u_this_signIs))] A) A)) (cc := cX7_fitting) (maxL := 2) (ret := (some .int)) (by decide) rfl (Nat.le_of_ble_eq_true rfl) ?_
  intro p e s m below meth c A ls hx hb hr hml hts hown hlocks hnm hP hK hD hS hA hE hl
  have hown : s.vm.findClass RX7 = some m.cls := hown
  have hl : lv_has ls 2 [(0, .ref (x 0)), (1, .int p1)] := hl
  unfold f_X7_fitting at hM
  refine lv_iload_n hx hb dX7_fitting_0 rfl (lv_at hl 1 rfl) ?_
  refine xafti (rv := (f_X7_isTrouble p1)) (W2 := [((x 0), .inr (7, o7 x u_this)), ((x 2), .inl (T.1, 22, .inl u_this_told)), ((x 3), .inl (T.1, 11, .inl u_this_par)), ((x 4), .inl (T.1, 7, .inl u_this_try0)), ((x 7), .inl (T.1, 6, .inl u_this_signWhat)), ((x 8), .inl (T.1, 6, .inl u_this_signHours)), ((x 9), .inl (T.1, 6, .inl u_this_signIs))]) (va_runS (As := [.int p1]) (rest := []) ⟨hx, hb, hml, hown, hts⟩ (c_X7_isTrouble (rv := (f_X7_isTrouble p1)) l D T p1 rfl) (cwS 1 hts gX7_fitting_X7_isTrouble rfl rfl rfl (by decide +kernel) ⟨Nat.le_of_ble_eq_true rfl, Nat.le_of_ble_eq_true rfl⟩) (xpvs hP hD hK [] (by decide) rfl (fun _ _ _ => trivial) (fun _ _ _ _ _ _ => trivial)) rfl rfl hl.1 rfl (lv_room (Nat.le_of_ble_eq_true rfl)) dX7_fitting_1 ⟨Nat.le_of_ble_eq_true rfl, Nat.le_of_ble_eq_true rfl⟩) hP hD hS hA [] rfl rfl rfl rfl (fun H locs hP hD hS => ?_)
  refine lv_if_eq (tgt := 15) hx hb dX7_fitting_4 (by decide) (fun c1 => ?_) (fun c1 => ?_)
  · have hM := xit c1 hM
    refine lv_iconst (v := (-1)) hx hb dX7_fitting_15 (by decide) ?_
    obtain rfl := Option.some.inj hM
    exact xreti hx hb hr hlocks hP hK hD hS dX7_fitting_16 rfl
  · have hM := xif c1 hM
    refine lv_aload_n hx hb dX7_fitting_7 rfl (lv_at hl 0 rfl) ?_
    refine lv_iload_n hx hb dX7_fitting_8 rfl (lv_at hl 1 rfl) ?_
    obtain ⟨r2, er2, hM⟩ := xbd hM
    refine xafti (rv := r2.1) (W2 := [((x 0), .inr (7, o7 x u_this)), ((x 2), .inl (T.1, 22, .inl u_this_told)), ((x 3), .inl (T.1, 11, .inl r2.2.1)), ((x 4), .inl (T.1, 7, .inl r2.2.2)), ((x 7), .inl (T.1, 6, .inl u_this_signWhat)), ((x 8), .inl (T.1, 6, .inl u_this_signHours)), ((x 9), .inl (T.1, 6, .inl u_this_signIs))]) (va_runV (As := [.int p1]) (rest := []) ⟨hx, hb, hml, hown, hts⟩ (c_X7_fittingOf l D T x u_this u_this_told u_this_par u_this_try0 u_this_signWhat u_this_signHours u_this_signIs p1 er2) (cwV 1 hts gX7_fitting_X7_fittingOf rfl rfl rfl (by decide +kernel) ⟨Nat.le_of_ble_eq_true rfl, Nat.le_of_ble_eq_true rfl⟩) (xpvv hP hD hK [0, 1, 2, 3, 4, 5, 6] (by decide) rfl 0 7 rfl rfl (fun _ _ _ => trivial) (fun _ _ _ _ _ _ => trivial)) rfl rfl hl.1 rfl (lv_room (Nat.le_of_ble_eq_true rfl)) dX7_fitting_9 ⟨Nat.le_of_ble_eq_true rfl, Nat.le_of_ble_eq_true rfl⟩) hP hD hS hA [0, 1, 2, 3, 4, 5, 6] rfl rfl rfl rfl (fun H locs hP hD hS => ?_)
    refine lv_goto (tgt := 16) hx hb dX7_fitting_12 (by decide) ?_
    obtain rfl := Option.some.inj hM
    exact xreti hx hb hr hlocks hP hK hD hS dX7_fitting_16 rfl
def s_X7_common_17 (v3 : Int64 × Int64) : Option ((Int64 × Int64) ⊕ (Int64 × Int64)) :=
  if (lg_cmp v3.2 (0)) = (0) then
   (some (.inr (v3.1, v3.2)))
  else
   (if v3.2 = 0 then none else
    (some (.inl (v3.2, (v3.1 - v3.1 / v3.2 * v3.2)))))
def f_X7_common (N : Nat) (p1 : Int64) (p2 : Int64) : Option (Int64) :=
  ((if (0) ≤ (lg_cmp p1 (0)) then
     (some p1)
    else
     (some (-p1)) : Option (Int64))).bind fun v2 =>
  (xlp s_X7_common_17 N (v2, p2)).bind fun v6 =>
  some v6.1
set_option maxHeartbeats 4000000 in
set_option maxRecDepth 100000 in
theorem c_X7_common (l : Launch) (D : va_G) (T : xT)  {sz : Nat} {N : Nat} (p1 : Int64) (p2 : Int64) {rv : Int64} (hM : f_X7_common N p1 p2 = some rv) : Met l yX7_common wsX7_common ({ frames := 0, cells := 0, slots := 0, locals := 0 } : Room) (va_Pc [.long p1, .long p2] (xPre D T [] sz xE0)) (va_Ql (fun (r : Int64) (_ : Unit) => r = rv) (fun _ => xPost D T [] (va_A [] sz)) (va_A [] sz)) 0 0 (va_A [] sz) := by
  refine xMet (av := [.long p1, .long p2]) (Wd := []) (E := xE0) (Qc := fun A => (va_Ql (fun (r : Int64) (_ : Unit) => r = rv) (fun _ => xPost D T [] A) A)) (cc := cX7_common) (maxL := 10) (ret := (some .long)) (by decide) rfl (Nat.le_of_ble_eq_true rfl) ?_
  intro p e s m below meth c A ls hx hb hr hml hts hown hlocks hnm hP hK hD hS hA hE hl
  have hown : s.vm.findClass RX7 = some m.cls := hown
  have hl : lv_has ls 10 [(0, .long p1), (2, .long p2)] := hl
  unfold f_X7_common at hM
  refine lv_lload_n hx hb dX7_common_0 rfl (lv_at hl 0 rfl) ?_
  refine lv_lconst (v := 0) hx hb dX7_common_1 (by decide) ?_
  refine W.lcmp hx hb dX7_common_2 ?_
  obtain ⟨v2, hM, hNv2⟩ := xbd hM
  have Kv2 : ∀ (H : Heap) (locs : List Loc) (ls : Array Slot), va_P D vwCl [] H → va_D A [] → va_S A s.heap H locs → lv_has ls 10 [(2, .long p2)] → W p l e ({ frames := 0, cells := 0, slots := 0, locals := 0 } : Room) s m ([.long p1, .long p2] : List Value).toArray below meth c H locs 0 0 (MQ below (va_Ql (fun (r : Int64) (_ : Unit) => r = rv) (fun _ => xPost D T [] A) A) ([.long p1, .long p2] : List Value).toArray s 0 0 A) (F0 m 12 ls [.long v2]) := by
    intro H locs ls hP hD hS hl
    have hM := hNv2
    refine lv_lstore (lv' := [(4, .long v2), (2, .long p2)]) hx hb dX7_common_12 hl (by decide) rfl (fun ls hl => ?_)
    refine lv_lload_n hx hb dX7_common_14 rfl (lv_at hl 1 rfl) ?_
    refine lv_lstore (lv' := [(6, .long p2), (4, .long v2), (2, .long p2)]) hx hb dX7_common_15 hl (by decide) rfl (fun ls hl => ?_)
    obtain ⟨v6, hM, hNv6⟩ := xbd hM
    have hQv6 := hM
    have Kv6 : ∀ (H : Heap) (locs : List Loc) (ls : Array Slot), va_P D vwCl [] H → va_D A [] → va_S A s.heap H locs → lv_has ls 10 [(4, .long v6.1)] → W p l e ({ frames := 0, cells := 0, slots := 0, locals := 0 } : Room) s m ([.long p1, .long p2] : List Value).toArray below meth c H locs 0 0 (MQ below (va_Ql (fun (r : Int64) (_ : Unit) => r = rv) (fun _ => xPost D T [] A) A) ([.long p1, .long p2] : List Value).toArray s 0 0 A) (F0 m 42 ls []) := by
      intro H locs ls hP hD hS hl
      have hM := hNv6
      refine lv_lload hx hb dX7_common_42 (lv_at hl 0 rfl) ?_
      obtain rfl := Option.some.inj hM
      exact xretl hx hb hr hlocks hP hK hD hS dX7_common_44 rfl
    have Lv3 : ∀ (n : Nat) (v3 : Int64 × Int64), xlp s_X7_common_17 n v3 = some v6 → ∀ (H : Heap) (locs : List Loc) (ls : Array Slot), va_P D vwCl [] H → va_D A [] → va_S A s.heap H locs → lv_has ls 10 [(4, .long v3.1), (6, .long v3.2)] → W p l e ({ frames := 0, cells := 0, slots := 0, locals := 0 } : Room) s m ([.long p1, .long p2] : List Value).toArray below meth c H locs 0 0 (MQ below (va_Ql (fun (r : Int64) (_ : Unit) => r = rv) (fun _ => xPost D T [] A) A) ([.long p1, .long p2] : List Value).toArray s 0 0 A) (F0 m 17 ls []) := by
      intro n
      induction n with
      | zero => exact fun _ h => (xlp_0 h).elim
      | succ n ih =>
        intro v3 hM H locs ls hP hD hS hl
        obtain ⟨z, hM, hz1, hz2⟩ := xlp_s hM
        unfold s_X7_common_17 at hM
        refine lv_lload hx hb dX7_common_17 (lv_at hl 1 rfl) ?_
        refine lv_lconst (v := 0) hx hb dX7_common_19 (by decide) ?_
        refine W.lcmp hx hb dX7_common_20 ?_
        refine lv_if_eq (tgt := 42) hx hb dX7_common_21 (by decide) (fun c4 => ?_) (fun c4 => ?_)
        · have hM := xit c4 hM
          obtain rfl := hz2 _ (Option.some.inj hM).symm
          exact Kv6 _ _ _ hP hD hS (lv_sub hl [0] rfl)
        · have hM := xif c4 hM
          refine lv_lload hx hb dX7_common_24 (lv_at hl 0 rfl) ?_
          refine lv_lload hx hb dX7_common_26 (lv_at hl 1 rfl) ?_
          obtain ⟨g5, hM⟩ := xnzl hM
          refine lv_lrem hx hb dX7_common_28 g5 ?_
          refine lv_lstore (lv' := [(8, .long (v3.1 - v3.1 / v3.2 * v3.2)), (4, .long v3.1), (6, .long v3.2)]) hx hb dX7_common_29 hl (by decide) rfl (fun ls hl => ?_)
          refine lv_lload hx hb dX7_common_31 (lv_at hl 2 rfl) ?_
          refine lv_lstore (lv' := [(4, .long v3.2), (8, .long (v3.1 - v3.1 / v3.2 * v3.2)), (6, .long v3.2)]) hx hb dX7_common_33 hl (by decide) rfl (fun ls hl => ?_)
          refine lv_lload hx hb dX7_common_35 (lv_at hl 1 rfl) ?_
          refine lv_lstore (lv' := [(6, .long (v3.1 - v3.1 / v3.2 * v3.2)), (4, .long v3.2), (8, .long (v3.1 - v3.1 / v3.2 * v3.2))]) hx hb dX7_common_37 hl (by decide) rfl (fun ls hl => ?_)
          refine lv_goto (tgt := 17) hx hb dX7_common_39 (by decide) ?_
          exact ih _ (hz1 _ (Option.some.inj hM).symm) _ _ _ hP hD hS (lv_sub hl [1, 0] rfl)
    exact Lv3 _ _ hM _ _ _ hP hD hS (lv_sub hl [1, 0] rfl)
  refine lv_if_ge (tgt := 11) hx hb dX7_common_3 (by decide) (fun c1 => ?_) (fun c1 => ?_)
  · have hM := xit c1 hM
    refine lv_lload_n hx hb dX7_common_11 rfl (lv_at hl 0 rfl) ?_
    obtain rfl := Option.some.inj hM
    exact Kv2 _ _ _ hP hD hS (lv_sub hl [1] rfl)
  · have hM := xif c1 hM
    refine lv_lload_n hx hb dX7_common_6 rfl (lv_at hl 0 rfl) ?_
    refine lv_lneg hx hb dX7_common_7 ?_
    refine lv_goto (tgt := 12) hx hb dX7_common_8 (by decide) ?_
    obtain rfl := Option.some.inj hM
    exact Kv2 _ _ _ hP hD hS (lv_sub hl [1] rfl)
def f_X7_inLeast (N : Nat) (p1 : Int64) (p2 : Int64) (p3 : Int32) : Option (Int64) :=
  (f_X7_common N p1 p2).bind fun r1 =>
  if p3 = (0) then
   (if r1 = 0 then none else
    (some (p1 / r1)))
  else
   (if r1 = 0 then none else
    (some (p2 / r1)))
set_option maxHeartbeats 4000000 in
set_option maxRecDepth 100000 in
theorem c_X7_inLeast (l : Launch) (D : va_G) (T : xT)  {sz : Nat} {N : Nat} (p1 : Int64) (p2 : Int64) (p3 : Int32) {rv : Int64} (hM : f_X7_inLeast N p1 p2 p3 = some rv) : Met l yX7_inLeast wsX7_inLeast ({ frames := 1, cells := 0, slots := 0, locals := 29 } : Room) (va_Pc [.long p1, .long p2, .int p3] (xPre D T [] sz xE0)) (va_Ql (fun (r : Int64) (_ : Unit) => r = rv) (fun _ => xPost D T [] (va_A [] sz)) (va_A [] sz)) 0 0 (va_A [] sz) := by
  refine xMet (av := [.long p1, .long p2, .int p3]) (Wd := []) (E := xE0) (Qc := fun A => (va_Ql (fun (r : Int64) (_ : Unit) => r = rv) (fun _ => xPost D T [] A) A)) (cc := cX7_inLeast) (maxL := 7) (ret := (some .long)) (by decide) rfl (Nat.le_of_ble_eq_true rfl) ?_
  intro p e s m below meth c A ls hx hb hr hml hts hown hlocks hnm hP hK hD hS hA hE hl
  have hown : s.vm.findClass RX7 = some m.cls := hown
  have hl : lv_has ls 7 [(0, .long p1), (2, .long p2), (4, .int p3)] := hl
  unfold f_X7_inLeast at hM
  refine lv_lload_n hx hb dX7_inLeast_0 rfl (lv_at hl 0 rfl) ?_
  refine lv_lload_n hx hb dX7_inLeast_1 rfl (lv_at hl 1 rfl) ?_
  obtain ⟨r1, er1, hM⟩ := xbd hM
  refine xaftl (rv := r1) (W2 := []) (va_runS (As := [.long p1, .long p2]) (rest := []) ⟨hx, hb, hml, hown, hts⟩ (c_X7_common l D T p1 p2 er1) (cwS 2 hts gX7_inLeast_X7_common rfl rfl rfl (by decide +kernel) ⟨Nat.le_of_ble_eq_true rfl, Nat.le_of_ble_eq_true rfl⟩) (xpvs hP hD hK [] (by decide) rfl (fun _ _ _ => trivial) (fun _ _ _ _ _ _ => trivial)) rfl rfl hl.1 rfl (lv_room (Nat.le_of_ble_eq_true rfl)) dX7_inLeast_2 ⟨Nat.le_of_ble_eq_true rfl, Nat.le_of_ble_eq_true rfl⟩) hP hD hS hA [] rfl rfl rfl rfl (fun H locs hP hD hS => ?_)
  refine lv_lstore (lv' := [(5, .long r1), (0, .long p1), (2, .long p2), (4, .int p3)]) hx hb dX7_inLeast_5 hl (by decide) rfl (fun ls hl => ?_)
  refine lv_iload hx hb dX7_inLeast_7 (lv_at hl 3 rfl) ?_
  refine lv_if_ne (tgt := 19) hx hb dX7_inLeast_9 (by decide) (fun c2 => ?_) (fun c2 => ?_)
  · have hM := xif c2 hM
    refine lv_lload_n hx hb dX7_inLeast_19 rfl (lv_at hl 2 rfl) ?_
    refine lv_lload hx hb dX7_inLeast_20 (lv_at hl 0 rfl) ?_
    obtain ⟨g3, hM⟩ := xnzl hM
    refine lv_ldiv hx hb dX7_inLeast_22 g3 ?_
    obtain rfl := Option.some.inj hM
    exact xretl hx hb hr hlocks hP hK hD hS dX7_inLeast_23 rfl
  · have hM := xit c2 hM
    refine lv_lload_n hx hb dX7_inLeast_12 rfl (lv_at hl 1 rfl) ?_
    refine lv_lload hx hb dX7_inLeast_13 (lv_at hl 0 rfl) ?_
    obtain ⟨g4, hM⟩ := xnzl hM
    refine lv_ldiv hx hb dX7_inLeast_15 g4 ?_
    refine lv_goto (tgt := 23) hx hb dX7_inLeast_16 (by decide) ?_
    obtain rfl := Option.some.inj hM
    exact xretl hx hb hr hlocks hP hK hD hS dX7_inLeast_23 rfl
def s_X7_odds_26 (N : Nat) (u_this : K7) (u_this_told : (Nat → Int32)) (u_this_signWhat : (Nat → Int32)) (u_this_signHours : (Nat → Int32)) (u_this_signIs : (Nat → Int32)) (u_this_chances : (Nat → Int32)) (p1 : Int32) (v3 : Int32 × Int32 × Int32 × (Nat → Int32) × (Nat → Int32)) : Option ((Int32 × Int32 × Int32 × (Nat → Int32) × (Nat → Int32)) ⊕ (Int32 × Int32 × Int32 × (Nat → Int32) × (Nat → Int32))) :=
  if (6) ≤ v3.2.2.1 then
   (some (.inr (v3.1, v3.2.1, v3.2.2.1, v3.2.2.2.1, v3.2.2.2.2)))
  else
   (if xin v3.2.2.1 6 = true then
    ((f_X7_fittingOf N u_this u_this_told v3.2.2.2.1 v3.2.2.2.2 u_this_signWhat u_this_signHours u_this_signIs v3.2.2.1).bind fun r6 =>
     if v3.2.2.1 = p1 then
      (some (.inl ((v3.1 + ((u_this_chances v3.2.2.1.toNatClampNeg) * r6.1)), ((u_this_chances v3.2.2.1.toNatClampNeg) * r6.1), v3.2.2.1 + 1, r6.2.1, r6.2.2)))
     else
      (some (.inl ((v3.1 + ((u_this_chances v3.2.2.1.toNatClampNeg) * r6.1)), v3.2.1, v3.2.2.1 + 1, r6.2.1, r6.2.2))))
    else none)
def f_X7_odds (N : Nat) (u_this : K7) (u_this_told : (Nat → Int32)) (u_this_par : (Nat → Int32)) (u_this_try0 : (Nat → Int32)) (u_this_signWhat : (Nat → Int32)) (u_this_signHours : (Nat → Int32)) (u_this_signIs : (Nat → Int32)) (u_this_chances : (Nat → Int32)) (p1 : Int32) (p2 : Int32) : Option (Int32 × (Nat → Int32) × (Nat → Int32)) :=
  if (f_X7_isTrouble p1) = (0) then
   (some ((-1), u_this_par, u_this_try0))
  else
   (if (f_X7_in p2 (0) (1)) = (0) then
     (some ((-1), u_this_par, u_this_try0))
    else
     ((xlp (s_X7_odds_26 N u_this u_this_told u_this_signWhat u_this_signHours u_this_signIs u_this_chances p1) N (0, 0, 0, u_this_par, u_this_try0)).bind fun v8 =>
      if v8.1 = (0) then
       (some ((-2), v8.2.2.2.1, v8.2.2.2.2))
      else
       ((f_X7_inLeast N v8.2.1.toInt64 v8.1.toInt64 p2).bind fun r10 =>
        some (r10.toInt32, v8.2.2.2.1, v8.2.2.2.2))))
set_option maxHeartbeats 4000000 in
set_option maxRecDepth 100000 in
theorem c_X7_odds (l : Launch) (D : va_G) (T : xT) (x : Nat → Nat) {sz : Nat} {N : Nat} (u_this : K7) (u_this_told : (Nat → Int32)) (u_this_par : (Nat → Int32)) (u_this_try0 : (Nat → Int32)) (u_this_signWhat : (Nat → Int32)) (u_this_signHours : (Nat → Int32)) (u_this_signIs : (Nat → Int32)) (u_this_chances : (Nat → Int32)) (p1 : Int32) (p2 : Int32) {rv : Int32 × (Nat → Int32) × (Nat → Int32)} (hM : f_X7_odds N u_this u_this_told u_this_par u_this_try0 u_this_signWhat u_this_signHours u_this_signIs u_this_chances p1 p2 = some rv) : Met l yX7_odds wsX7_odds ({ frames := 7, cells := 0, slots := 0, locals := 156 } : Room) (va_Pc [.ref (x 0), .int p1, .int p2] (xPre D T [((x 0), .inr (7, o7 x u_this)), ((x 2), .inl (T.1, 22, .inl u_this_told)), ((x 3), .inl (T.1, 11, .inl u_this_par)), ((x 4), .inl (T.1, 7, .inl u_this_try0)), ((x 7), .inl (T.1, 6, .inl u_this_signWhat)), ((x 8), .inl (T.1, 6, .inl u_this_signHours)), ((x 9), .inl (T.1, 6, .inl u_this_signIs)), ((x 10), .inl (T.1, 6, .inl u_this_chances))] sz xE0)) (va_Qi (fun (r : Int32) (_ : Unit) => r = rv.1) (fun _ => xPost D T [((x 0), .inr (7, o7 x u_this)), ((x 2), .inl (T.1, 22, .inl u_this_told)), ((x 3), .inl (T.1, 11, .inl rv.2.1)), ((x 4), .inl (T.1, 7, .inl rv.2.2)), ((x 7), .inl (T.1, 6, .inl u_this_signWhat)), ((x 8), .inl (T.1, 6, .inl u_this_signHours)), ((x 9), .inl (T.1, 6, .inl u_this_signIs)), ((x 10), .inl (T.1, 6, .inl u_this_chances))] (va_A [((x 0), .inr (7, o7 x u_this)), ((x 2), .inl (T.1, 22, .inl u_this_told)), ((x 3), .inl (T.1, 11, .inl u_this_par)), ((x 4), .inl (T.1, 7, .inl u_this_try0)), ((x 7), .inl (T.1, 6, .inl u_this_signWhat)), ((x 8), .inl (T.1, 6, .inl u_this_signHours)), ((x 9), .inl (T.1, 6, .inl u_this_signIs)), ((x 10), .inl (T.1, 6, .inl u_this_chances))] sz)) (va_A [((x 0), .inr (7, o7 x u_this)), ((x 2), .inl (T.1, 22, .inl u_this_told)), ((x 3), .inl (T.1, 11, .inl u_this_par)), ((x 4), .inl (T.1, 7, .inl u_this_try0)), ((x 7), .inl (T.1, 6, .inl u_this_signWhat)), ((x 8), .inl (T.1, 6, .inl u_this_signHours)), ((x 9), .inl (T.1, 6, .inl u_this_signIs)), ((x 10), .inl (T.1, 6, .inl u_this_chances))] sz)) 0 0 (va_A [((x 0), .inr (7, o7 x u_this)), ((x 2), .inl (T.1, 22, .inl u_this_told)), ((x 3), .inl (T.1, 11, .inl u_this_par)), ((x 4), .inl (T.1, 7, .inl u_this_try0)), ((x 7), .inl (T.1, 6, .inl u_this_signWhat)), ((x 8), .inl (T.1, 6, .inl u_this_signHours)), ((x 9), .inl (T.1, 6, .inl u_this_signIs)), ((x 10), .inl (T.1, 6, .inl u_this_chances))] sz) := by
  refine xMet (av := [.ref (x 0), .int p1, .int p2]) (Wd := [((x 0), .inr (7, o7 x u_this)), ((x 2), .inl (T.1, 22, .inl u_this_told)), ((x 3), .inl (T.1, 11, .inl u_this_par)), ((x 4), .inl (T.1, 7, .inl u_this_try0)), ((x 7), .inl (T.1, 6, .inl u_this_signWhat)), ((x 8), .inl (T.1, 6, .inl u_this_signHours)), ((x 9), .inl (T.1, 6, .inl u_this_signIs)), ((x 10), .inl (T.1, 6, .inl u_this_chances))]) (E := xE0) (Qc := fun A => (va_Qi (fun (r : Int32) (_ : Unit) => r = rv.1) (fun _ => xPost D T [((x 0), .inr (7, o7 x u_this)), ((x 2), .inl (T.1, 22, .inl u_this_told)), ((x 3), .inl (T.1, 11, .inl rv.2.1)), ((x 4), .inl (T.1, 7, .inl rv.2.2)), ((x 7), .inl (T.1, 6, .inl u_this_signWhat)), ((x 8), .inl (T.1, 6, .inl u_this_signHours)), ((x 9), .inl (T.1, 6, .inl u_this_signIs)), ((x 10), .inl (T.1, 6, .inl u_this_chances))] A) A)) (cc := cX7_odds) (maxL := 7) (ret := (some .int)) (by decide) rfl (Nat.le_of_ble_eq_true rfl) ?_
  intro p e s m below meth c A ls hx hb hr hml hts hown hlocks hnm hP hK hD hS hA hE hl
  have hown : s.vm.findClass RX7 = some m.cls := hown
  have hl : lv_has ls 7 [(0, .ref (x 0)), (1, .int p1), (2, .int p2)] := hl
  unfold f_X7_odds at hM
  refine lv_iload_n hx hb dX7_odds_0 rfl (lv_at hl 1 rfl) ?_
  refine xafti (rv := (f_X7_isTrouble p1)) (W2 := [((x 0), .inr (7, o7 x u_this)), ((x 2), .inl (T.1, 22, .inl u_this_told)), ((x 3), .inl (T.1, 11, .inl u_this_par)), ((x 4), .inl (T.1, 7, .inl u_this_try0)), ((x 7), .inl (T.1, 6, .inl u_this_signWhat)), ((x 8), .inl (T.1, 6, .inl u_this_signHours)), ((x 9), .inl (T.1, 6, .inl u_this_signIs)), ((x 10), .inl (T.1, 6, .inl u_this_chances))]) (va_runS (As := [.int p1]) (rest := []) ⟨hx, hb, hml, hown, hts⟩ (c_X7_isTrouble (rv := (f_X7_isTrouble p1)) l D T p1 rfl) (cwS 1 hts gX7_odds_X7_isTrouble rfl rfl rfl (by decide +kernel) ⟨Nat.le_of_ble_eq_true rfl, Nat.le_of_ble_eq_true rfl⟩) (xpvs hP hD hK [] (by decide) rfl (fun _ _ _ => trivial) (fun _ _ _ _ _ _ => trivial)) rfl rfl hl.1 rfl (lv_room (Nat.le_of_ble_eq_true rfl)) dX7_odds_1 ⟨Nat.le_of_ble_eq_true rfl, Nat.le_of_ble_eq_true rfl⟩) hP hD hS hA [] rfl rfl rfl rfl (fun H locs hP hD hS => ?_)
  refine lv_if_eq (tgt := 16) hx hb dX7_odds_4 (by decide) (fun c1 => ?_) (fun c1 => ?_)
  · have hM := xit c1 hM
    refine lv_iconst (v := (-1)) hx hb dX7_odds_16 (by decide) ?_
    obtain rfl := Option.some.inj hM
    exact xreti hx hb hr hlocks hP hK hD hS dX7_odds_17 rfl
  · have hM := xif c1 hM
    refine lv_iload_n hx hb dX7_odds_7 rfl (lv_at hl 2 rfl) ?_
    refine lv_iconst (v := 0) hx hb dX7_odds_8 (by decide) ?_
    refine lv_iconst (v := 1) hx hb dX7_odds_9 (by decide) ?_
    refine xafti (rv := (f_X7_in p2 (0) (1))) (W2 := [((x 0), .inr (7, o7 x u_this)), ((x 2), .inl (T.1, 22, .inl u_this_told)), ((x 3), .inl (T.1, 11, .inl u_this_par)), ((x 4), .inl (T.1, 7, .inl u_this_try0)), ((x 7), .inl (T.1, 6, .inl u_this_signWhat)), ((x 8), .inl (T.1, 6, .inl u_this_signHours)), ((x 9), .inl (T.1, 6, .inl u_this_signIs)), ((x 10), .inl (T.1, 6, .inl u_this_chances))]) (va_runS (As := [.int p2, .int (0), .int (1)]) (rest := []) ⟨hx, hb, hml, hown, hts⟩ (c_X7_in (rv := (f_X7_in p2 (0) (1))) l D T p2 (0) (1) rfl) (cwS 3 hts gX7_odds_X7_in rfl rfl rfl (by decide +kernel) ⟨Nat.le_of_ble_eq_true rfl, Nat.le_of_ble_eq_true rfl⟩) (xpvs hP hD hK [] (by decide) rfl (fun _ _ _ => trivial) (fun _ _ _ _ _ _ => trivial)) rfl rfl hl.1 rfl (lv_room (Nat.le_of_ble_eq_true rfl)) dX7_odds_10 ⟨Nat.le_of_ble_eq_true rfl, Nat.le_of_ble_eq_true rfl⟩) hP hD hS hA [] rfl rfl rfl rfl (fun H locs hP hD hS => ?_)
    refine lv_if_ne (tgt := 18) hx hb dX7_odds_13 (by decide) (fun c2 => ?_) (fun c2 => ?_)
    · have hM := xif c2 hM
      refine lv_iconst (v := 0) hx hb dX7_odds_18 (by decide) ?_
      refine lv_istore_n (lv' := [(3, .int (0)), (0, .ref (x 0)), (1, .int p1), (2, .int p2)]) hx hb dX7_odds_19 rfl hl (by decide) rfl (fun ls hl => ?_)
      refine lv_iconst (v := 0) hx hb dX7_odds_20 (by decide) ?_
      refine lv_istore (lv' := [(4, .int (0)), (3, .int (0)), (0, .ref (x 0)), (1, .int p1), (2, .int p2)]) hx hb dX7_odds_21 hl (by decide) rfl (fun ls hl => ?_)
      refine lv_iconst (v := 0) hx hb dX7_odds_23 (by decide) ?_
      refine lv_istore (lv' := [(5, .int (0)), (4, .int (0)), (3, .int (0)), (0, .ref (x 0)), (1, .int p1), (2, .int p2)]) hx hb dX7_odds_24 hl (by decide) rfl (fun ls hl => ?_)
      obtain ⟨v8, hM, hNv8⟩ := xbd hM
      have hQv8 := hM
      have Kv8 : ∀ (H : Heap) (locs : List Loc) (ls : Array Slot), va_P D vwCl [((x 0), .inr (7, o7 x u_this)), ((x 2), .inl (T.1, 22, .inl u_this_told)), ((x 3), .inl (T.1, 11, .inl v8.2.2.2.1)), ((x 4), .inl (T.1, 7, .inl v8.2.2.2.2)), ((x 7), .inl (T.1, 6, .inl u_this_signWhat)), ((x 8), .inl (T.1, 6, .inl u_this_signHours)), ((x 9), .inl (T.1, 6, .inl u_this_signIs)), ((x 10), .inl (T.1, 6, .inl u_this_chances))] H → va_D A [((x 0), .inr (7, o7 x u_this)), ((x 2), .inl (T.1, 22, .inl u_this_told)), ((x 3), .inl (T.1, 11, .inl v8.2.2.2.1)), ((x 4), .inl (T.1, 7, .inl v8.2.2.2.2)), ((x 7), .inl (T.1, 6, .inl u_this_signWhat)), ((x 8), .inl (T.1, 6, .inl u_this_signHours)), ((x 9), .inl (T.1, 6, .inl u_this_signIs)), ((x 10), .inl (T.1, 6, .inl u_this_chances))] → va_S A s.heap H locs → lv_has ls 7 [(2, .int p2), (3, .int v8.1), (4, .int v8.2.1)] → W p l e ({ frames := 7, cells := 0, slots := 0, locals := 156 } : Room) s m ([.ref (x 0), .int p1, .int p2] : List Value).toArray below meth c H locs 0 0 (MQ below (va_Qi (fun (r : Int32) (_ : Unit) => r = rv.1) (fun _ => xPost D T [((x 0), .inr (7, o7 x u_this)), ((x 2), .inl (T.1, 22, .inl u_this_told)), ((x 3), .inl (T.1, 11, .inl rv.2.1)), ((x 4), .inl (T.1, 7, .inl rv.2.2)), ((x 7), .inl (T.1, 6, .inl u_this_signWhat)), ((x 8), .inl (T.1, 6, .inl u_this_signHours)), ((x 9), .inl (T.1, 6, .inl u_this_signIs)), ((x 10), .inl (T.1, 6, .inl u_this_chances))] A) A) ([.ref (x 0), .int p1, .int p2] : List Value).toArray s 0 0 A) (F0 m 75 ls []) := by
        intro H locs ls hP hD hS hl
        have hM := hNv8
        refine lv_iload_n hx hb dX7_odds_75 rfl (lv_at hl 1 rfl) ?_
        refine lv_if_ne (tgt := 84) hx hb dX7_odds_76 (by decide) (fun c9 => ?_) (fun c9 => ?_)
        · have hM := xif c9 hM
          refine lv_iload hx hb dX7_odds_84 (lv_at hl 2 rfl) ?_
          refine lv_i2l (v := v8.2.1.toInt64) hx hb dX7_odds_86 rfl ?_
          refine lv_iload_n hx hb dX7_odds_87 rfl (lv_at hl 1 rfl) ?_
          refine lv_i2l (v := v8.1.toInt64) hx hb dX7_odds_88 rfl ?_
          refine lv_iload_n hx hb dX7_odds_89 rfl (lv_at hl 0 rfl) ?_
          obtain ⟨r10, er10, hM⟩ := xbd hM
          refine xaftl (rv := r10) (W2 := [((x 0), .inr (7, o7 x u_this)), ((x 2), .inl (T.1, 22, .inl u_this_told)), ((x 3), .inl (T.1, 11, .inl v8.2.2.2.1)), ((x 4), .inl (T.1, 7, .inl v8.2.2.2.2)), ((x 7), .inl (T.1, 6, .inl u_this_signWhat)), ((x 8), .inl (T.1, 6, .inl u_this_signHours)), ((x 9), .inl (T.1, 6, .inl u_this_signIs)), ((x 10), .inl (T.1, 6, .inl u_this_chances))]) (va_runS (As := [.long v8.2.1.toInt64, .long v8.1.toInt64, .int p2]) (rest := []) ⟨hx, hb, hml, hown, hts⟩ (c_X7_inLeast l D T v8.2.1.toInt64 v8.1.toInt64 p2 er10) (cwS 3 hts gX7_odds_X7_inLeast rfl rfl rfl (by decide +kernel) ⟨Nat.le_of_ble_eq_true rfl, Nat.le_of_ble_eq_true rfl⟩) (xpvs hP hD hK [] (by decide) rfl (fun _ _ _ => trivial) (fun _ _ _ _ _ _ => trivial)) rfl rfl hl.1 rfl (lv_room (Nat.le_of_ble_eq_true rfl)) dX7_odds_90 ⟨Nat.le_of_ble_eq_true rfl, Nat.le_of_ble_eq_true rfl⟩) hP hD hS hA [] rfl rfl rfl rfl (fun H locs hP hD hS => ?_)
          refine lv_l2i (v := r10.toInt32) hx hb dX7_odds_93 rfl ?_
          obtain rfl := Option.some.inj hM
          exact xreti hx hb hr hlocks hP hK hD hS dX7_odds_94 rfl
        · have hM := xit c9 hM
          refine lv_bipush (v := (-2)) hx hb dX7_odds_79 (by decide) ?_
          refine lv_goto (tgt := 94) hx hb dX7_odds_81 (by decide) ?_
          obtain rfl := Option.some.inj hM
          exact xreti hx hb hr hlocks hP hK hD hS dX7_odds_94 rfl
      have Lv3 : ∀ (n : Nat) (v3 : Int32 × Int32 × Int32 × (Nat → Int32) × (Nat → Int32)), xlp (s_X7_odds_26 N u_this u_this_told u_this_signWhat u_this_signHours u_this_signIs u_this_chances p1) n v3 = some v8 → ∀ (H : Heap) (locs : List Loc) (ls : Array Slot), va_P D vwCl [((x 0), .inr (7, o7 x u_this)), ((x 2), .inl (T.1, 22, .inl u_this_told)), ((x 3), .inl (T.1, 11, .inl v3.2.2.2.1)), ((x 4), .inl (T.1, 7, .inl v3.2.2.2.2)), ((x 7), .inl (T.1, 6, .inl u_this_signWhat)), ((x 8), .inl (T.1, 6, .inl u_this_signHours)), ((x 9), .inl (T.1, 6, .inl u_this_signIs)), ((x 10), .inl (T.1, 6, .inl u_this_chances))] H → va_D A [((x 0), .inr (7, o7 x u_this)), ((x 2), .inl (T.1, 22, .inl u_this_told)), ((x 3), .inl (T.1, 11, .inl v3.2.2.2.1)), ((x 4), .inl (T.1, 7, .inl v3.2.2.2.2)), ((x 7), .inl (T.1, 6, .inl u_this_signWhat)), ((x 8), .inl (T.1, 6, .inl u_this_signHours)), ((x 9), .inl (T.1, 6, .inl u_this_signIs)), ((x 10), .inl (T.1, 6, .inl u_this_chances))] → va_S A s.heap H locs → lv_has ls 7 [(0, .ref (x 0)), (1, .int p1), (2, .int p2), (3, .int v3.1), (4, .int v3.2.1), (5, .int v3.2.2.1)] → W p l e ({ frames := 7, cells := 0, slots := 0, locals := 156 } : Room) s m ([.ref (x 0), .int p1, .int p2] : List Value).toArray below meth c H locs 0 0 (MQ below (va_Qi (fun (r : Int32) (_ : Unit) => r = rv.1) (fun _ => xPost D T [((x 0), .inr (7, o7 x u_this)), ((x 2), .inl (T.1, 22, .inl u_this_told)), ((x 3), .inl (T.1, 11, .inl rv.2.1)), ((x 4), .inl (T.1, 7, .inl rv.2.2)), ((x 7), .inl (T.1, 6, .inl u_this_signWhat)), ((x 8), .inl (T.1, 6, .inl u_this_signHours)), ((x 9), .inl (T.1, 6, .inl u_this_signIs)), ((x 10), .inl (T.1, 6, .inl u_this_chances))] A) A) ([.ref (x 0), .int p1, .int p2] : List Value).toArray s 0 0 A) (F0 m 26 ls []) := by
        intro n
        induction n with
        | zero => exact fun _ h => (xlp_0 h).elim
        | succ n ih =>
          intro v3 hM H locs ls hP hD hS hl
          obtain ⟨z, hM, hz1, hz2⟩ := xlp_s hM
          unfold s_X7_odds_26 at hM
          refine lv_iload hx hb dX7_odds_26 (lv_at hl 5 rfl) ?_
          refine lv_bipush (v := 6) hx hb dX7_odds_28 (by decide) ?_
          refine lv_icmp_ge (tgt := 75) hx hb dX7_odds_30 (by decide) (fun c4 => ?_) (fun c4 => ?_)
          · have hM := xit c4 hM
            obtain rfl := hz2 _ (Option.some.inj hM).symm
            exact Kv8 _ _ _ hP hD hS (lv_sub hl [2, 3, 4] rfl)
          · have hM := xif c4 hM
            refine lv_aload_n hx hb dX7_odds_33 rfl (lv_at hl 0 rfl) ?_
            refine va_get (D := D) (ci := 7) (v := .ref (x 10)) (C := RX7) (T := TX7) (N := 30) hx hb hts (fun w h => List.mem_cons_of_mem _ (List.mem_append_right _ h)) hown hK hP 0 rfl rfl 17 (by decide) (hts _ (List.mem_of_getElem? (i := 1) rfl)) (fun _ h9 => h9) rfl dX7_odds_34 ?_
            refine lv_iload hx hb dX7_odds_37 (lv_at hl 5 rfl) ?_
            obtain ⟨g5, hM⟩ := xck hM
            refine xald (v := (u_this_chances v3.2.2.1.toNatClampNeg)) hx hb hK hP 7 0 rfl rfl g5 rfl dX7_odds_39 ?_
            refine lv_aload_n hx hb dX7_odds_40 rfl (lv_at hl 0 rfl) ?_
            refine lv_iload hx hb dX7_odds_41 (lv_at hl 5 rfl) ?_
            obtain ⟨r6, er6, hM⟩ := xbd hM
            refine xafti (rv := r6.1) (W2 := [((x 0), .inr (7, o7 x u_this)), ((x 2), .inl (T.1, 22, .inl u_this_told)), ((x 3), .inl (T.1, 11, .inl r6.2.1)), ((x 4), .inl (T.1, 7, .inl r6.2.2)), ((x 7), .inl (T.1, 6, .inl u_this_signWhat)), ((x 8), .inl (T.1, 6, .inl u_this_signHours)), ((x 9), .inl (T.1, 6, .inl u_this_signIs)), ((x 10), .inl (T.1, 6, .inl u_this_chances))]) (va_runV (As := [.int v3.2.2.1]) (rest := [.int (u_this_chances v3.2.2.1.toNatClampNeg)]) ⟨hx, hb, hml, hown, hts⟩ (c_X7_fittingOf l D T x u_this u_this_told v3.2.2.2.1 v3.2.2.2.2 u_this_signWhat u_this_signHours u_this_signIs v3.2.2.1 er6) (cwV 1 hts gX7_odds_X7_fittingOf rfl rfl rfl (by decide +kernel) ⟨Nat.le_of_ble_eq_true rfl, Nat.le_of_ble_eq_true rfl⟩) (xpvv hP hD hK [0, 1, 2, 3, 4, 5, 6] (by decide) rfl 0 7 rfl rfl (fun _ _ _ => trivial) (fun _ _ _ _ _ _ => trivial)) rfl rfl hl.1 rfl (lv_room (Nat.le_of_ble_eq_true rfl)) dX7_odds_43 ⟨Nat.le_of_ble_eq_true rfl, Nat.le_of_ble_eq_true rfl⟩) hP hD hS hA [0, 1, 2, 3, 4, 5, 6] rfl rfl rfl rfl (fun H locs hP hD hS => ?_)
            refine lv_imul hx hb dX7_odds_46 ?_
            refine lv_istore (lv' := [(6, .int ((u_this_chances v3.2.2.1.toNatClampNeg) * r6.1)), (0, .ref (x 0)), (1, .int p1), (2, .int p2), (3, .int v3.1), (4, .int v3.2.1), (5, .int v3.2.2.1)]) hx hb dX7_odds_47 hl (by decide) rfl (fun ls hl => ?_)
            refine lv_iload_n hx hb dX7_odds_49 rfl (lv_at hl 4 rfl) ?_
            refine lv_iload hx hb dX7_odds_50 (lv_at hl 0 rfl) ?_
            refine lv_iadd hx hb dX7_odds_52 ?_
            refine lv_istore_n (lv' := [(3, .int (v3.1 + ((u_this_chances v3.2.2.1.toNatClampNeg) * r6.1))), (6, .int ((u_this_chances v3.2.2.1.toNatClampNeg) * r6.1)), (0, .ref (x 0)), (1, .int p1), (2, .int p2), (4, .int v3.2.1), (5, .int v3.2.2.1)]) hx hb dX7_odds_53 rfl hl (by decide) rfl (fun ls hl => ?_)
            refine lv_iload hx hb dX7_odds_54 (lv_at hl 6 rfl) ?_
            refine lv_iload_n hx hb dX7_odds_56 rfl (lv_at hl 3 rfl) ?_
            refine lv_icmp_ne (tgt := 65) hx hb dX7_odds_57 (by decide) (fun c7 => ?_) (fun c7 => ?_)
            · have hM := xif c7 hM
              refine lv_iload hx hb dX7_odds_65 (lv_at hl 5 rfl) ?_
              refine lv_istore (lv' := [(4, .int v3.2.1), (3, .int (v3.1 + ((u_this_chances v3.2.2.1.toNatClampNeg) * r6.1))), (6, .int ((u_this_chances v3.2.2.1.toNatClampNeg) * r6.1)), (0, .ref (x 0)), (1, .int p1), (2, .int p2), (5, .int v3.2.2.1)]) hx hb dX7_odds_67 hl (by decide) rfl (fun ls hl => ?_)
              refine lv_iinc (v := v3.2.2.1 + 1) (lv' := [(5, .int (v3.2.2.1 + 1)), (4, .int v3.2.1), (3, .int (v3.1 + ((u_this_chances v3.2.2.1.toNatClampNeg) * r6.1))), (6, .int ((u_this_chances v3.2.2.1.toNatClampNeg) * r6.1)), (0, .ref (x 0)), (1, .int p1), (2, .int p2)]) hx hb dX7_odds_69 hl (k := 6) rfl rfl (by decide) rfl (fun ls hl => ?_)
              refine lv_goto (tgt := 26) hx hb dX7_odds_72 (by decide) ?_
              exact ih _ (hz1 _ (Option.some.inj hM).symm) _ _ _ hP hD hS (lv_sub hl [4, 5, 6, 2, 1, 0] rfl)
            · have hM := xit c7 hM
              refine lv_iload hx hb dX7_odds_60 (lv_at hl 1 rfl) ?_
              refine lv_goto (tgt := 67) hx hb dX7_odds_62 (by decide) ?_
              refine lv_istore (lv' := [(4, .int ((u_this_chances v3.2.2.1.toNatClampNeg) * r6.1)), (3, .int (v3.1 + ((u_this_chances v3.2.2.1.toNatClampNeg) * r6.1))), (6, .int ((u_this_chances v3.2.2.1.toNatClampNeg) * r6.1)), (0, .ref (x 0)), (1, .int p1), (2, .int p2), (5, .int v3.2.2.1)]) hx hb dX7_odds_67 hl (by decide) rfl (fun ls hl => ?_)
              refine lv_iinc (v := v3.2.2.1 + 1) (lv' := [(5, .int (v3.2.2.1 + 1)), (4, .int ((u_this_chances v3.2.2.1.toNatClampNeg) * r6.1)), (3, .int (v3.1 + ((u_this_chances v3.2.2.1.toNatClampNeg) * r6.1))), (6, .int ((u_this_chances v3.2.2.1.toNatClampNeg) * r6.1)), (0, .ref (x 0)), (1, .int p1), (2, .int p2)]) hx hb dX7_odds_69 hl (k := 6) rfl rfl (by decide) rfl (fun ls hl => ?_)
              refine lv_goto (tgt := 26) hx hb dX7_odds_72 (by decide) ?_
              exact ih _ (hz1 _ (Option.some.inj hM).symm) _ _ _ hP hD hS (lv_sub hl [4, 5, 6, 2, 1, 0] rfl)
      exact Lv3 _ _ hM _ _ _ hP hD hS (lv_sub hl [3, 4, 5, 2, 1, 0] rfl)
    · have hM := xit c2 hM
      refine lv_iconst (v := (-1)) hx hb dX7_odds_16 (by decide) ?_
      obtain rfl := Option.some.inj hM
      exact xreti hx hb hr hlocks hP hK hD hS dX7_odds_17 rfl
def s_X7_greatestOf_16 (u_this_answers : (Nat → Int32)) (p1 : Int32) (v1 : Int32 × Int32) (v3 : Int32 × Int32) : Option ((Int32 × Int32) ⊕ (Int32 × Int32)) :=
  if (9) ≤ v3.2 then
   (some (.inr (v3.1, v3.2)))
  else
   (if xin (((9) * v1.2) + v3.2) 54 = true then
    (if (u_this_answers (((9) * v1.2) + v3.2).toNatClampNeg) = p1 then
      (some (.inl ((v3.1 + (1)), v3.2 + 1)))
     else
      (some (.inl ((v3.1 + (0)), v3.2 + 1))))
    else none)
def s_X7_greatestOf_4 (N : Nat) (u_this_chances : (Nat → Int32)) (u_this_answers : (Nat → Int32)) (p1 : Int32) (v1 : Int32 × Int32) : Option ((Int32 × Int32) ⊕ (Int32 × Int32)) :=
  if (6) ≤ v1.2 then
   (some (.inr (v1.1, v1.2)))
  else
   ((xlp (s_X7_greatestOf_16 u_this_answers p1 v1) N (0, 0)).bind fun v7 =>
    if xin v1.2 6 = true then
    (if (v7.1 * (u_this_chances v1.2.toNatClampNeg)) ≤ v1.1 then
      (some (.inl (v1.1, v1.2 + 1)))
     else
      (some (.inl ((v7.1 * (u_this_chances v1.2.toNatClampNeg)), v1.2 + 1))))
    else none)
def f_X7_greatestOf (N : Nat) (u_this : K7) (u_this_chances : (Nat → Int32)) (u_this_answers : (Nat → Int32)) (p1 : Int32) : Option (Int32) :=
  (xlp (s_X7_greatestOf_4 N u_this_chances u_this_answers p1) N (0, 0)).bind fun v10 =>
  some v10.1
set_option maxHeartbeats 4000000 in
set_option maxRecDepth 100000 in
theorem c_X7_greatestOf (l : Launch) (D : va_G) (T : xT) (x : Nat → Nat) {sz : Nat} {N : Nat} (u_this : K7) (u_this_chances : (Nat → Int32)) (u_this_answers : (Nat → Int32)) (p1 : Int32) {rv : Int32} (hM : f_X7_greatestOf N u_this u_this_chances u_this_answers p1 = some rv) : Met l yX7_greatestOf wsX7_greatestOf ({ frames := 0, cells := 0, slots := 0, locals := 0 } : Room) (va_Pc [.ref (x 0), .int p1] (xPre D T [((x 0), .inr (7, o7 x u_this)), ((x 10), .inl (T.1, 6, .inl u_this_chances)), ((x 11), .inl (T.1, 54, .inl u_this_answers))] sz xE0)) (va_Qi (fun (r : Int32) (_ : Unit) => r = rv) (fun _ => xPost D T [((x 0), .inr (7, o7 x u_this)), ((x 10), .inl (T.1, 6, .inl u_this_chances)), ((x 11), .inl (T.1, 54, .inl u_this_answers))] (va_A [((x 0), .inr (7, o7 x u_this)), ((x 10), .inl (T.1, 6, .inl u_this_chances)), ((x 11), .inl (T.1, 54, .inl u_this_answers))] sz)) (va_A [((x 0), .inr (7, o7 x u_this)), ((x 10), .inl (T.1, 6, .inl u_this_chances)), ((x 11), .inl (T.1, 54, .inl u_this_answers))] sz)) 0 0 (va_A [((x 0), .inr (7, o7 x u_this)), ((x 10), .inl (T.1, 6, .inl u_this_chances)), ((x 11), .inl (T.1, 54, .inl u_this_answers))] sz) := by
  refine xMet (av := [.ref (x 0), .int p1]) (Wd := [((x 0), .inr (7, o7 x u_this)), ((x 10), .inl (T.1, 6, .inl u_this_chances)), ((x 11), .inl (T.1, 54, .inl u_this_answers))]) (E := xE0) (Qc := fun A => (va_Qi (fun (r : Int32) (_ : Unit) => r = rv) (fun _ => xPost D T [((x 0), .inr (7, o7 x u_this)), ((x 10), .inl (T.1, 6, .inl u_this_chances)), ((x 11), .inl (T.1, 54, .inl u_this_answers))] A) A)) (cc := cX7_greatestOf) (maxL := 6) (ret := (some .int)) (by decide) rfl (Nat.le_of_ble_eq_true rfl) ?_
  intro p e s m below meth c A ls hx hb hr hml hts hown hlocks hnm hP hK hD hS hA hE hl
  have hown : s.vm.findClass RX7 = some m.cls := hown
  have hl : lv_has ls 6 [(0, .ref (x 0)), (1, .int p1)] := hl
  unfold f_X7_greatestOf at hM
  refine lv_iconst (v := 0) hx hb dX7_greatestOf_0 (by decide) ?_
  refine lv_istore_n (lv' := [(2, .int (0)), (0, .ref (x 0)), (1, .int p1)]) hx hb dX7_greatestOf_1 rfl hl (by decide) rfl (fun ls hl => ?_)
  refine lv_iconst (v := 0) hx hb dX7_greatestOf_2 (by decide) ?_
  refine lv_istore_n (lv' := [(3, .int (0)), (2, .int (0)), (0, .ref (x 0)), (1, .int p1)]) hx hb dX7_greatestOf_3 rfl hl (by decide) rfl (fun ls hl => ?_)
  obtain ⟨v10, hM, hNv10⟩ := xbd hM
  have hQv10 := hM
  have Kv10 : ∀ (H : Heap) (locs : List Loc) (ls : Array Slot), va_P D vwCl [((x 0), .inr (7, o7 x u_this)), ((x 10), .inl (T.1, 6, .inl u_this_chances)), ((x 11), .inl (T.1, 54, .inl u_this_answers))] H → va_D A [((x 0), .inr (7, o7 x u_this)), ((x 10), .inl (T.1, 6, .inl u_this_chances)), ((x 11), .inl (T.1, 54, .inl u_this_answers))] → va_S A s.heap H locs → lv_has ls 6 [(2, .int v10.1)] → W p l e ({ frames := 0, cells := 0, slots := 0, locals := 0 } : Room) s m ([.ref (x 0), .int p1] : List Value).toArray below meth c H locs 0 0 (MQ below (va_Qi (fun (r : Int32) (_ : Unit) => r = rv) (fun _ => xPost D T [((x 0), .inr (7, o7 x u_this)), ((x 10), .inl (T.1, 6, .inl u_this_chances)), ((x 11), .inl (T.1, 54, .inl u_this_answers))] A) A) ([.ref (x 0), .int p1] : List Value).toArray s 0 0 A) (F0 m 88 ls []) := by
    intro H locs ls hP hD hS hl
    have hM := hNv10
    refine lv_iload_n hx hb dX7_greatestOf_88 rfl (lv_at hl 0 rfl) ?_
    obtain rfl := Option.some.inj hM
    exact xreti hx hb hr hlocks hP hK hD hS dX7_greatestOf_89 rfl
  have Lv1 : ∀ (n : Nat) (v1 : Int32 × Int32), xlp (s_X7_greatestOf_4 N u_this_chances u_this_answers p1) n v1 = some v10 → ∀ (H : Heap) (locs : List Loc) (ls : Array Slot), va_P D vwCl [((x 0), .inr (7, o7 x u_this)), ((x 10), .inl (T.1, 6, .inl u_this_chances)), ((x 11), .inl (T.1, 54, .inl u_this_answers))] H → va_D A [((x 0), .inr (7, o7 x u_this)), ((x 10), .inl (T.1, 6, .inl u_this_chances)), ((x 11), .inl (T.1, 54, .inl u_this_answers))] → va_S A s.heap H locs → lv_has ls 6 [(0, .ref (x 0)), (1, .int p1), (2, .int v1.1), (3, .int v1.2)] → W p l e ({ frames := 0, cells := 0, slots := 0, locals := 0 } : Room) s m ([.ref (x 0), .int p1] : List Value).toArray below meth c H locs 0 0 (MQ below (va_Qi (fun (r : Int32) (_ : Unit) => r = rv) (fun _ => xPost D T [((x 0), .inr (7, o7 x u_this)), ((x 10), .inl (T.1, 6, .inl u_this_chances)), ((x 11), .inl (T.1, 54, .inl u_this_answers))] A) A) ([.ref (x 0), .int p1] : List Value).toArray s 0 0 A) (F0 m 4 ls []) := by
    intro n
    induction n with
    | zero => exact fun _ h => (xlp_0 h).elim
    | succ n ih =>
      intro v1 hM H locs ls hP hD hS hl
      obtain ⟨z, hM, hz1, hz2⟩ := xlp_s hM
      unfold s_X7_greatestOf_4 at hM
      refine lv_iload_n hx hb dX7_greatestOf_4 rfl (lv_at hl 3 rfl) ?_
      refine lv_bipush (v := 6) hx hb dX7_greatestOf_5 (by decide) ?_
      refine lv_icmp_ge (tgt := 88) hx hb dX7_greatestOf_7 (by decide) (fun c2 => ?_) (fun c2 => ?_)
      · have hM := xit c2 hM
        obtain rfl := hz2 _ (Option.some.inj hM).symm
        exact Kv10 _ _ _ hP hD hS (lv_sub hl [2] rfl)
      · have hM := xif c2 hM
        refine lv_iconst (v := 0) hx hb dX7_greatestOf_10 (by decide) ?_
        refine lv_istore (lv' := [(4, .int (0)), (0, .ref (x 0)), (1, .int p1), (2, .int v1.1), (3, .int v1.2)]) hx hb dX7_greatestOf_11 hl (by decide) rfl (fun ls hl => ?_)
        refine lv_iconst (v := 0) hx hb dX7_greatestOf_13 (by decide) ?_
        refine lv_istore (lv' := [(5, .int (0)), (4, .int (0)), (0, .ref (x 0)), (1, .int p1), (2, .int v1.1), (3, .int v1.2)]) hx hb dX7_greatestOf_14 hl (by decide) rfl (fun ls hl => ?_)
        obtain ⟨v7, hM, hNv7⟩ := xbd hM
        have hQv7 := hM
        have Kv7 : ∀ (H : Heap) (locs : List Loc) (ls : Array Slot), va_P D vwCl [((x 0), .inr (7, o7 x u_this)), ((x 10), .inl (T.1, 6, .inl u_this_chances)), ((x 11), .inl (T.1, 54, .inl u_this_answers))] H → va_D A [((x 0), .inr (7, o7 x u_this)), ((x 10), .inl (T.1, 6, .inl u_this_chances)), ((x 11), .inl (T.1, 54, .inl u_this_answers))] → va_S A s.heap H locs → lv_has ls 6 [(0, .ref (x 0)), (1, .int p1), (2, .int v1.1), (3, .int v1.2), (4, .int v7.1)] → W p l e ({ frames := 0, cells := 0, slots := 0, locals := 0 } : Room) s m ([.ref (x 0), .int p1] : List Value).toArray below meth c H locs 0 0 (MQ below (va_Qi (fun (r : Int32) (_ : Unit) => r = rv) (fun _ => xPost D T [((x 0), .inr (7, o7 x u_this)), ((x 10), .inl (T.1, 6, .inl u_this_chances)), ((x 11), .inl (T.1, 54, .inl u_this_answers))] A) A) ([.ref (x 0), .int p1] : List Value).toArray s 0 0 A) (F0 m 55 ls []) := by
          intro H locs ls hP hD hS hl
          have hM := hNv7
          refine lv_iload hx hb dX7_greatestOf_55 (lv_at hl 4 rfl) ?_
          refine lv_aload_n hx hb dX7_greatestOf_57 rfl (lv_at hl 0 rfl) ?_
          refine va_get (D := D) (ci := 7) (v := .ref (x 10)) (C := RX7) (T := TX7) (N := 30) hx hb hts (fun w h => List.mem_cons_of_mem _ (List.mem_append_right _ h)) hown hK hP 0 rfl rfl 17 (by decide) (hts _ (List.mem_of_getElem? (i := 2) rfl)) (fun _ h9 => h9) rfl dX7_greatestOf_58 ?_
          refine lv_iload_n hx hb dX7_greatestOf_61 rfl (lv_at hl 3 rfl) ?_
          obtain ⟨g8, hM⟩ := xck hM
          refine xald (v := (u_this_chances v1.2.toNatClampNeg)) hx hb hK hP 1 0 rfl rfl g8 rfl dX7_greatestOf_62 ?_
          refine lv_imul hx hb dX7_greatestOf_63 ?_
          refine lv_iload_n hx hb dX7_greatestOf_64 rfl (lv_at hl 2 rfl) ?_
          refine lv_icmp_le (tgt := 80) hx hb dX7_greatestOf_65 (by decide) (fun c9 => ?_) (fun c9 => ?_)
          · have hM := xit c9 hM
            refine lv_iload_n hx hb dX7_greatestOf_80 rfl (lv_at hl 2 rfl) ?_
            refine lv_istore_n (lv' := [(2, .int v1.1), (0, .ref (x 0)), (1, .int p1), (3, .int v1.2), (4, .int v7.1)]) hx hb dX7_greatestOf_81 rfl hl (by decide) rfl (fun ls hl => ?_)
            refine lv_iinc (v := v1.2 + 1) (lv' := [(3, .int (v1.2 + 1)), (2, .int v1.1), (0, .ref (x 0)), (1, .int p1), (4, .int v7.1)]) hx hb dX7_greatestOf_82 hl (k := 3) rfl rfl (by decide) rfl (fun ls hl => ?_)
            refine lv_goto (tgt := 4) hx hb dX7_greatestOf_85 (by decide) ?_
            exact ih _ (hz1 _ (Option.some.inj hM).symm) _ _ _ hP hD hS (lv_sub hl [2, 3, 1, 0] rfl)
          · have hM := xif c9 hM
            refine lv_iload hx hb dX7_greatestOf_68 (lv_at hl 4 rfl) ?_
            refine lv_aload_n hx hb dX7_greatestOf_70 rfl (lv_at hl 0 rfl) ?_
            refine va_get (D := D) (ci := 7) (v := .ref (x 10)) (C := RX7) (T := TX7) (N := 30) hx hb hts (fun w h => List.mem_cons_of_mem _ (List.mem_append_right _ h)) hown hK hP 0 rfl rfl 17 (by decide) (hts _ (List.mem_of_getElem? (i := 2) rfl)) (fun _ h9 => h9) rfl dX7_greatestOf_71 ?_
            refine lv_iload_n hx hb dX7_greatestOf_74 rfl (lv_at hl 3 rfl) ?_
            refine xald (v := (u_this_chances v1.2.toNatClampNeg)) hx hb hK hP 1 0 rfl rfl g8 rfl dX7_greatestOf_75 ?_
            refine lv_imul hx hb dX7_greatestOf_76 ?_
            refine lv_goto (tgt := 81) hx hb dX7_greatestOf_77 (by decide) ?_
            refine lv_istore_n (lv' := [(2, .int (v7.1 * (u_this_chances v1.2.toNatClampNeg))), (0, .ref (x 0)), (1, .int p1), (3, .int v1.2), (4, .int v7.1)]) hx hb dX7_greatestOf_81 rfl hl (by decide) rfl (fun ls hl => ?_)
            refine lv_iinc (v := v1.2 + 1) (lv' := [(3, .int (v1.2 + 1)), (2, .int (v7.1 * (u_this_chances v1.2.toNatClampNeg))), (0, .ref (x 0)), (1, .int p1), (4, .int v7.1)]) hx hb dX7_greatestOf_82 hl (k := 3) rfl rfl (by decide) rfl (fun ls hl => ?_)
            refine lv_goto (tgt := 4) hx hb dX7_greatestOf_85 (by decide) ?_
            exact ih _ (hz1 _ (Option.some.inj hM).symm) _ _ _ hP hD hS (lv_sub hl [2, 3, 1, 0] rfl)
        have Lv3 : ∀ (n : Nat) (v3 : Int32 × Int32), xlp (s_X7_greatestOf_16 u_this_answers p1 v1) n v3 = some v7 → ∀ (H : Heap) (locs : List Loc) (ls : Array Slot), va_P D vwCl [((x 0), .inr (7, o7 x u_this)), ((x 10), .inl (T.1, 6, .inl u_this_chances)), ((x 11), .inl (T.1, 54, .inl u_this_answers))] H → va_D A [((x 0), .inr (7, o7 x u_this)), ((x 10), .inl (T.1, 6, .inl u_this_chances)), ((x 11), .inl (T.1, 54, .inl u_this_answers))] → va_S A s.heap H locs → lv_has ls 6 [(0, .ref (x 0)), (1, .int p1), (2, .int v1.1), (3, .int v1.2), (4, .int v3.1), (5, .int v3.2)] → W p l e ({ frames := 0, cells := 0, slots := 0, locals := 0 } : Room) s m ([.ref (x 0), .int p1] : List Value).toArray below meth c H locs 0 0 (MQ below (va_Qi (fun (r : Int32) (_ : Unit) => r = rv) (fun _ => xPost D T [((x 0), .inr (7, o7 x u_this)), ((x 10), .inl (T.1, 6, .inl u_this_chances)), ((x 11), .inl (T.1, 54, .inl u_this_answers))] A) A) ([.ref (x 0), .int p1] : List Value).toArray s 0 0 A) (F0 m 16 ls []) := by
          intro n
          induction n with
          | zero => exact fun _ h => (xlp_0 h).elim
          | succ n ih =>
            intro v3 hM H locs ls hP hD hS hl
            obtain ⟨z, hM, hz1, hz2⟩ := xlp_s hM
            unfold s_X7_greatestOf_16 at hM
            refine lv_iload hx hb dX7_greatestOf_16 (lv_at hl 5 rfl) ?_
            refine lv_bipush (v := 9) hx hb dX7_greatestOf_18 (by decide) ?_
            refine lv_icmp_ge (tgt := 55) hx hb dX7_greatestOf_20 (by decide) (fun c4 => ?_) (fun c4 => ?_)
            · have hM := xit c4 hM
              obtain rfl := hz2 _ (Option.some.inj hM).symm
              exact Kv7 _ _ _ hP hD hS (lv_sub hl [0, 1, 2, 3, 4] rfl)
            · have hM := xif c4 hM
              refine lv_iload hx hb dX7_greatestOf_23 (lv_at hl 4 rfl) ?_
              refine lv_aload_n hx hb dX7_greatestOf_25 rfl (lv_at hl 0 rfl) ?_
              refine va_get (D := D) (ci := 7) (v := .ref (x 11)) (C := RX7) (T := TX7) (N := 30) hx hb hts (fun w h => List.mem_cons_of_mem _ (List.mem_append_right _ h)) hown hK hP 0 rfl rfl 18 (by decide) (hts _ (List.mem_of_getElem? (i := 1) rfl)) (fun _ h9 => h9) rfl dX7_greatestOf_26 ?_
              refine lv_bipush (v := 9) hx hb dX7_greatestOf_29 (by decide) ?_
              refine lv_iload_n hx hb dX7_greatestOf_31 rfl (lv_at hl 3 rfl) ?_
              refine lv_imul hx hb dX7_greatestOf_32 ?_
              refine lv_iload hx hb dX7_greatestOf_33 (lv_at hl 5 rfl) ?_
              refine lv_iadd hx hb dX7_greatestOf_35 ?_
              obtain ⟨g5, hM⟩ := xck hM
              refine xald (v := (u_this_answers (((9) * v1.2) + v3.2).toNatClampNeg)) hx hb hK hP 2 0 rfl rfl g5 rfl dX7_greatestOf_36 ?_
              refine lv_iload_n hx hb dX7_greatestOf_37 rfl (lv_at hl 1 rfl) ?_
              refine lv_icmp_ne (tgt := 45) hx hb dX7_greatestOf_38 (by decide) (fun c6 => ?_) (fun c6 => ?_)
              · have hM := xif c6 hM
                refine lv_iconst (v := 0) hx hb dX7_greatestOf_45 (by decide) ?_
                refine lv_iadd hx hb dX7_greatestOf_46 ?_
                refine lv_istore (lv' := [(4, .int (v3.1 + (0))), (0, .ref (x 0)), (1, .int p1), (2, .int v1.1), (3, .int v1.2), (5, .int v3.2)]) hx hb dX7_greatestOf_47 hl (by decide) rfl (fun ls hl => ?_)
                refine lv_iinc (v := v3.2 + 1) (lv' := [(5, .int (v3.2 + 1)), (4, .int (v3.1 + (0))), (0, .ref (x 0)), (1, .int p1), (2, .int v1.1), (3, .int v1.2)]) hx hb dX7_greatestOf_49 hl (k := 5) rfl rfl (by decide) rfl (fun ls hl => ?_)
                refine lv_goto (tgt := 16) hx hb dX7_greatestOf_52 (by decide) ?_
                exact ih _ (hz1 _ (Option.some.inj hM).symm) _ _ _ hP hD hS (lv_sub hl [2, 3, 4, 5, 1, 0] rfl)
              · have hM := xit c6 hM
                refine lv_iconst (v := 1) hx hb dX7_greatestOf_41 (by decide) ?_
                refine lv_goto (tgt := 46) hx hb dX7_greatestOf_42 (by decide) ?_
                refine lv_iadd hx hb dX7_greatestOf_46 ?_
                refine lv_istore (lv' := [(4, .int (v3.1 + (1))), (0, .ref (x 0)), (1, .int p1), (2, .int v1.1), (3, .int v1.2), (5, .int v3.2)]) hx hb dX7_greatestOf_47 hl (by decide) rfl (fun ls hl => ?_)
                refine lv_iinc (v := v3.2 + 1) (lv' := [(5, .int (v3.2 + 1)), (4, .int (v3.1 + (1))), (0, .ref (x 0)), (1, .int p1), (2, .int v1.1), (3, .int v1.2)]) hx hb dX7_greatestOf_49 hl (k := 5) rfl rfl (by decide) rfl (fun ls hl => ?_)
                refine lv_goto (tgt := 16) hx hb dX7_greatestOf_52 (by decide) ?_
                exact ih _ (hz1 _ (Option.some.inj hM).symm) _ _ _ hP hD hS (lv_sub hl [2, 3, 4, 5, 1, 0] rfl)
        exact Lv3 _ _ hM _ _ _ hP hD hS (lv_sub hl [2, 3, 4, 5, 1, 0] rfl)
  exact Lv1 _ _ hM _ _ _ hP hD hS (lv_sub hl [2, 3, 1, 0] rfl)
def s_X7_toldBy_2 (N : Nat) (u_this : K7) (u_this_told : (Nat → Int32)) (p1 : Int32) (v1 : Int32 × (Nat → Int32) × (Nat → Int32) × (Nat → Int32)) : Option ((Int32 × (Nat → Int32) × (Nat → Int32) × (Nat → Int32)) ⊕ (Int32 × (Nat → Int32) × (Nat → Int32) × (Nat → Int32))) :=
  if (54) ≤ v1.1 then
   (some (.inr (v1.1, v1.2.1, v1.2.2.1, v1.2.2.2)))
  else
   ((f_X7_takeTrouble N u_this u_this_told v1.2.1 (v1.1 / (9)) ((v1.1 - v1.1 / (9) * (9)) + (1))).bind fun r3 =>
    (f_X7_signBy N u_this r3 v1.2.2.1 p1 (12)).bind fun r4 =>
    if xin v1.1 54 = true then
    (some (.inl (v1.1 + 1, r3, r4.2, (upd v1.2.2.2 v1.1.toNatClampNeg r4.1))))
    else none)
def s_X7_toldBy_57 (v6 : Int32 × (Nat → Int32) × (Nat → Int32) × (Nat → Int32)) (v7 : Int32 × Int32) (v9 : Int32 × Int32) : Option ((Int32 × Int32) ⊕ (Int32 × Int32)) :=
  if v7.2 ≤ v9.2 then
   (some (.inr (v9.1, v9.2)))
  else
   (if v9.1 = (0) then
     (some (.inl (0, v9.2 + 1)))
    else
     (if xin v9.2 54 = true then
      (if xin v7.2 54 = true then
       (if (v6.2.2.2 v9.2.toNatClampNeg) = (v6.2.2.2 v7.2.toNatClampNeg) then
         (some (.inl (0, v9.2 + 1)))
        else
         (some (.inl (1, v9.2 + 1))))
       else none)
      else none))
def s_X7_toldBy_45 (N : Nat) (u_this : K7) (u_this_chances : (Nat → Int32)) (v6 : Int32 × (Nat → Int32) × (Nat → Int32) × (Nat → Int32)) (v7 : Int32 × Int32) : Option ((Int32 × Int32) ⊕ (Int32 × Int32)) :=
  if (54) ≤ v7.2 then
   (some (.inr (v7.1, v7.2)))
  else
   ((xlp (s_X7_toldBy_57 v6 v7) N (1, 0)).bind fun v15 =>
    if v15.1 = (0) then
     (some (.inl ((v7.1 + (0)), v7.2 + 1)))
    else
     (if xin v7.2 54 = true then
      ((f_X7_greatestOf N u_this u_this_chances v6.2.2.2 (v6.2.2.2 v7.2.toNatClampNeg)).bind fun r18 =>
       some (.inl ((v7.1 + r18), v7.2 + 1)))
      else none))
def f_X7_toldBy (N : Nat) (u_this : K7) (u_this_told : (Nat → Int32)) (u_this_par : (Nat → Int32)) (u_this_try0 : (Nat → Int32)) (u_this_chances : (Nat → Int32)) (u_this_answers : (Nat → Int32)) (p1 : Int32) : Option (Int32 × (Nat → Int32) × (Nat → Int32) × (Nat → Int32)) :=
  (xlp (s_X7_toldBy_2 N u_this u_this_told p1) N (0, u_this_par, u_this_try0, u_this_answers)).bind fun v6 =>
  (xlp (s_X7_toldBy_45 N u_this u_this_chances v6) N (0, 0)).bind fun v19 =>
  some (v19.1, v6.2.1, v6.2.2.1, v6.2.2.2)
set_option maxHeartbeats 4000000 in
set_option maxRecDepth 100000 in
theorem c_X7_toldBy (l : Launch) (D : va_G) (T : xT) (x : Nat → Nat) {sz : Nat} {N : Nat} (u_this : K7) (u_this_told : (Nat → Int32)) (u_this_par : (Nat → Int32)) (u_this_try0 : (Nat → Int32)) (u_this_chances : (Nat → Int32)) (u_this_answers : (Nat → Int32)) (p1 : Int32) {rv : Int32 × (Nat → Int32) × (Nat → Int32) × (Nat → Int32)} (hM : f_X7_toldBy N u_this u_this_told u_this_par u_this_try0 u_this_chances u_this_answers p1 = some rv) : Met l yX7_toldBy wsX7_toldBy ({ frames := 6, cells := 0, slots := 0, locals := 131 } : Room) (va_Pc [.ref (x 0), .int p1] (xPre D T [((x 0), .inr (7, o7 x u_this)), ((x 2), .inl (T.1, 22, .inl u_this_told)), ((x 3), .inl (T.1, 11, .inl u_this_par)), ((x 4), .inl (T.1, 7, .inl u_this_try0)), ((x 10), .inl (T.1, 6, .inl u_this_chances)), ((x 11), .inl (T.1, 54, .inl u_this_answers))] sz xE0)) (va_Qi (fun (r : Int32) (_ : Unit) => r = rv.1) (fun _ => xPost D T [((x 0), .inr (7, o7 x u_this)), ((x 2), .inl (T.1, 22, .inl u_this_told)), ((x 3), .inl (T.1, 11, .inl rv.2.1)), ((x 4), .inl (T.1, 7, .inl rv.2.2.1)), ((x 10), .inl (T.1, 6, .inl u_this_chances)), ((x 11), .inl (T.1, 54, .inl rv.2.2.2))] (va_A [((x 0), .inr (7, o7 x u_this)), ((x 2), .inl (T.1, 22, .inl u_this_told)), ((x 3), .inl (T.1, 11, .inl u_this_par)), ((x 4), .inl (T.1, 7, .inl u_this_try0)), ((x 10), .inl (T.1, 6, .inl u_this_chances)), ((x 11), .inl (T.1, 54, .inl u_this_answers))] sz)) (va_A [((x 0), .inr (7, o7 x u_this)), ((x 2), .inl (T.1, 22, .inl u_this_told)), ((x 3), .inl (T.1, 11, .inl u_this_par)), ((x 4), .inl (T.1, 7, .inl u_this_try0)), ((x 10), .inl (T.1, 6, .inl u_this_chances)), ((x 11), .inl (T.1, 54, .inl u_this_answers))] sz)) 0 0 (va_A [((x 0), .inr (7, o7 x u_this)), ((x 2), .inl (T.1, 22, .inl u_this_told)), ((x 3), .inl (T.1, 11, .inl u_this_par)), ((x 4), .inl (T.1, 7, .inl u_this_try0)), ((x 10), .inl (T.1, 6, .inl u_this_chances)), ((x 11), .inl (T.1, 54, .inl u_this_answers))] sz) := by
  refine xMet (av := [.ref (x 0), .int p1]) (Wd := [((x 0), .inr (7, o7 x u_this)), ((x 2), .inl (T.1, 22, .inl u_this_told)), ((x 3), .inl (T.1, 11, .inl u_this_par)), ((x 4), .inl (T.1, 7, .inl u_this_try0)), ((x 10), .inl (T.1, 6, .inl u_this_chances)), ((x 11), .inl (T.1, 54, .inl u_this_answers))]) (E := xE0) (Qc := fun A => (va_Qi (fun (r : Int32) (_ : Unit) => r = rv.1) (fun _ => xPost D T [((x 0), .inr (7, o7 x u_this)), ((x 2), .inl (T.1, 22, .inl u_this_told)), ((x 3), .inl (T.1, 11, .inl rv.2.1)), ((x 4), .inl (T.1, 7, .inl rv.2.2.1)), ((x 10), .inl (T.1, 6, .inl u_this_chances)), ((x 11), .inl (T.1, 54, .inl rv.2.2.2))] A) A)) (cc := cX7_toldBy) (maxL := 6) (ret := (some .int)) (by decide) rfl (Nat.le_of_ble_eq_true rfl) ?_
  intro p e s m below meth c A ls hx hb hr hml hts hown hlocks hnm hP hK hD hS hA hE hl
  have hown : s.vm.findClass RX7 = some m.cls := hown
  have hl : lv_has ls 6 [(0, .ref (x 0)), (1, .int p1)] := hl
  unfold f_X7_toldBy at hM
  refine lv_iconst (v := 0) hx hb dX7_toldBy_0 (by decide) ?_
  refine lv_istore_n (lv' := [(2, .int (0)), (0, .ref (x 0)), (1, .int p1)]) hx hb dX7_toldBy_1 rfl hl (by decide) rfl (fun ls hl => ?_)
  obtain ⟨v6, hM, hNv6⟩ := xbd hM
  have hQv6 := hM
  have Kv6 : ∀ (H : Heap) (locs : List Loc) (ls : Array Slot), va_P D vwCl [((x 0), .inr (7, o7 x u_this)), ((x 2), .inl (T.1, 22, .inl u_this_told)), ((x 3), .inl (T.1, 11, .inl v6.2.1)), ((x 4), .inl (T.1, 7, .inl v6.2.2.1)), ((x 10), .inl (T.1, 6, .inl u_this_chances)), ((x 11), .inl (T.1, 54, .inl v6.2.2.2))] H → va_D A [((x 0), .inr (7, o7 x u_this)), ((x 2), .inl (T.1, 22, .inl u_this_told)), ((x 3), .inl (T.1, 11, .inl v6.2.1)), ((x 4), .inl (T.1, 7, .inl v6.2.2.1)), ((x 10), .inl (T.1, 6, .inl u_this_chances)), ((x 11), .inl (T.1, 54, .inl v6.2.2.2))] → va_S A s.heap H locs → lv_has ls 6 [(0, .ref (x 0))] → W p l e ({ frames := 6, cells := 0, slots := 0, locals := 131 } : Room) s m ([.ref (x 0), .int p1] : List Value).toArray below meth c H locs 0 0 (MQ below (va_Qi (fun (r : Int32) (_ : Unit) => r = rv.1) (fun _ => xPost D T [((x 0), .inr (7, o7 x u_this)), ((x 2), .inl (T.1, 22, .inl u_this_told)), ((x 3), .inl (T.1, 11, .inl rv.2.1)), ((x 4), .inl (T.1, 7, .inl rv.2.2.1)), ((x 10), .inl (T.1, 6, .inl u_this_chances)), ((x 11), .inl (T.1, 54, .inl rv.2.2.2))] A) A) ([.ref (x 0), .int p1] : List Value).toArray s 0 0 A) (F0 m 41 ls []) := by
    intro H locs ls hP hD hS hl
    have hM := hNv6
    refine lv_iconst (v := 0) hx hb dX7_toldBy_41 (by decide) ?_
    refine lv_istore_n (lv' := [(2, .int (0)), (0, .ref (x 0))]) hx hb dX7_toldBy_42 rfl hl (by decide) rfl (fun ls hl => ?_)
    refine lv_iconst (v := 0) hx hb dX7_toldBy_43 (by decide) ?_
    refine lv_istore_n (lv' := [(3, .int (0)), (2, .int (0)), (0, .ref (x 0))]) hx hb dX7_toldBy_44 rfl hl (by decide) rfl (fun ls hl => ?_)
    obtain ⟨v19, hM, hNv19⟩ := xbd hM
    have hQv19 := hM
    have Kv19 : ∀ (H : Heap) (locs : List Loc) (ls : Array Slot), va_P D vwCl [((x 0), .inr (7, o7 x u_this)), ((x 2), .inl (T.1, 22, .inl u_this_told)), ((x 3), .inl (T.1, 11, .inl v6.2.1)), ((x 4), .inl (T.1, 7, .inl v6.2.2.1)), ((x 10), .inl (T.1, 6, .inl u_this_chances)), ((x 11), .inl (T.1, 54, .inl v6.2.2.2))] H → va_D A [((x 0), .inr (7, o7 x u_this)), ((x 2), .inl (T.1, 22, .inl u_this_told)), ((x 3), .inl (T.1, 11, .inl v6.2.1)), ((x 4), .inl (T.1, 7, .inl v6.2.2.1)), ((x 10), .inl (T.1, 6, .inl u_this_chances)), ((x 11), .inl (T.1, 54, .inl v6.2.2.2))] → va_S A s.heap H locs → lv_has ls 6 [(2, .int v19.1)] → W p l e ({ frames := 6, cells := 0, slots := 0, locals := 131 } : Room) s m ([.ref (x 0), .int p1] : List Value).toArray below meth c H locs 0 0 (MQ below (va_Qi (fun (r : Int32) (_ : Unit) => r = rv.1) (fun _ => xPost D T [((x 0), .inr (7, o7 x u_this)), ((x 2), .inl (T.1, 22, .inl u_this_told)), ((x 3), .inl (T.1, 11, .inl rv.2.1)), ((x 4), .inl (T.1, 7, .inl rv.2.2.1)), ((x 10), .inl (T.1, 6, .inl u_this_chances)), ((x 11), .inl (T.1, 54, .inl rv.2.2.2))] A) A) ([.ref (x 0), .int p1] : List Value).toArray s 0 0 A) (F0 m 125 ls []) := by
      intro H locs ls hP hD hS hl
      have hM := hNv19
      refine lv_iload_n hx hb dX7_toldBy_125 rfl (lv_at hl 0 rfl) ?_
      obtain rfl := Option.some.inj hM
      exact xreti hx hb hr hlocks hP hK hD hS dX7_toldBy_126 rfl
    have Lv7 : ∀ (n : Nat) (v7 : Int32 × Int32), xlp (s_X7_toldBy_45 N u_this u_this_chances v6) n v7 = some v19 → ∀ (H : Heap) (locs : List Loc) (ls : Array Slot), va_P D vwCl [((x 0), .inr (7, o7 x u_this)), ((x 2), .inl (T.1, 22, .inl u_this_told)), ((x 3), .inl (T.1, 11, .inl v6.2.1)), ((x 4), .inl (T.1, 7, .inl v6.2.2.1)), ((x 10), .inl (T.1, 6, .inl u_this_chances)), ((x 11), .inl (T.1, 54, .inl v6.2.2.2))] H → va_D A [((x 0), .inr (7, o7 x u_this)), ((x 2), .inl (T.1, 22, .inl u_this_told)), ((x 3), .inl (T.1, 11, .inl v6.2.1)), ((x 4), .inl (T.1, 7, .inl v6.2.2.1)), ((x 10), .inl (T.1, 6, .inl u_this_chances)), ((x 11), .inl (T.1, 54, .inl v6.2.2.2))] → va_S A s.heap H locs → lv_has ls 6 [(0, .ref (x 0)), (2, .int v7.1), (3, .int v7.2)] → W p l e ({ frames := 6, cells := 0, slots := 0, locals := 131 } : Room) s m ([.ref (x 0), .int p1] : List Value).toArray below meth c H locs 0 0 (MQ below (va_Qi (fun (r : Int32) (_ : Unit) => r = rv.1) (fun _ => xPost D T [((x 0), .inr (7, o7 x u_this)), ((x 2), .inl (T.1, 22, .inl u_this_told)), ((x 3), .inl (T.1, 11, .inl rv.2.1)), ((x 4), .inl (T.1, 7, .inl rv.2.2.1)), ((x 10), .inl (T.1, 6, .inl u_this_chances)), ((x 11), .inl (T.1, 54, .inl rv.2.2.2))] A) A) ([.ref (x 0), .int p1] : List Value).toArray s 0 0 A) (F0 m 45 ls []) := by
      intro n
      induction n with
      | zero => exact fun _ h => (xlp_0 h).elim
      | succ n ih =>
        intro v7 hM H locs ls hP hD hS hl
        obtain ⟨z, hM, hz1, hz2⟩ := xlp_s hM
        unfold s_X7_toldBy_45 at hM
        refine lv_iload_n hx hb dX7_toldBy_45 rfl (lv_at hl 2 rfl) ?_
        refine lv_bipush (v := 54) hx hb dX7_toldBy_46 (by decide) ?_
        refine lv_icmp_ge (tgt := 125) hx hb dX7_toldBy_48 (by decide) (fun c8 => ?_) (fun c8 => ?_)
        · have hM := xit c8 hM
          obtain rfl := hz2 _ (Option.some.inj hM).symm
          exact Kv19 _ _ _ hP hD hS (lv_sub hl [1] rfl)
        · have hM := xif c8 hM
          refine lv_iconst (v := 1) hx hb dX7_toldBy_51 (by decide) ?_
          refine lv_istore (lv' := [(4, .int (1)), (0, .ref (x 0)), (2, .int v7.1), (3, .int v7.2)]) hx hb dX7_toldBy_52 hl (by decide) rfl (fun ls hl => ?_)
          refine lv_iconst (v := 0) hx hb dX7_toldBy_54 (by decide) ?_
          refine lv_istore (lv' := [(5, .int (0)), (4, .int (1)), (0, .ref (x 0)), (2, .int v7.1), (3, .int v7.2)]) hx hb dX7_toldBy_55 hl (by decide) rfl (fun ls hl => ?_)
          obtain ⟨v15, hM, hNv15⟩ := xbd hM
          have hQv15 := hM
          have Kv15 : ∀ (H : Heap) (locs : List Loc) (ls : Array Slot), va_P D vwCl [((x 0), .inr (7, o7 x u_this)), ((x 2), .inl (T.1, 22, .inl u_this_told)), ((x 3), .inl (T.1, 11, .inl v6.2.1)), ((x 4), .inl (T.1, 7, .inl v6.2.2.1)), ((x 10), .inl (T.1, 6, .inl u_this_chances)), ((x 11), .inl (T.1, 54, .inl v6.2.2.2))] H → va_D A [((x 0), .inr (7, o7 x u_this)), ((x 2), .inl (T.1, 22, .inl u_this_told)), ((x 3), .inl (T.1, 11, .inl v6.2.1)), ((x 4), .inl (T.1, 7, .inl v6.2.2.1)), ((x 10), .inl (T.1, 6, .inl u_this_chances)), ((x 11), .inl (T.1, 54, .inl v6.2.2.2))] → va_S A s.heap H locs → lv_has ls 6 [(0, .ref (x 0)), (2, .int v7.1), (3, .int v7.2), (4, .int v15.1)] → W p l e ({ frames := 6, cells := 0, slots := 0, locals := 131 } : Room) s m ([.ref (x 0), .int p1] : List Value).toArray below meth c H locs 0 0 (MQ below (va_Qi (fun (r : Int32) (_ : Unit) => r = rv.1) (fun _ => xPost D T [((x 0), .inr (7, o7 x u_this)), ((x 2), .inl (T.1, 22, .inl u_this_told)), ((x 3), .inl (T.1, 11, .inl rv.2.1)), ((x 4), .inl (T.1, 7, .inl rv.2.2.1)), ((x 10), .inl (T.1, 6, .inl u_this_chances)), ((x 11), .inl (T.1, 54, .inl rv.2.2.2))] A) A) ([.ref (x 0), .int p1] : List Value).toArray s 0 0 A) (F0 m 97 ls []) := by
            intro H locs ls hP hD hS hl
            have hM := hNv15
            refine lv_iload_n hx hb dX7_toldBy_97 rfl (lv_at hl 1 rfl) ?_
            refine lv_iload hx hb dX7_toldBy_98 (lv_at hl 3 rfl) ?_
            refine lv_if_eq (tgt := 116) hx hb dX7_toldBy_100 (by decide) (fun c16 => ?_) (fun c16 => ?_)
            · have hM := xit c16 hM
              refine lv_iconst (v := 0) hx hb dX7_toldBy_116 (by decide) ?_
              refine lv_iadd hx hb dX7_toldBy_117 ?_
              refine lv_istore_n (lv' := [(2, .int (v7.1 + (0))), (0, .ref (x 0)), (3, .int v7.2), (4, .int v15.1)]) hx hb dX7_toldBy_118 rfl hl (by decide) rfl (fun ls hl => ?_)
              refine lv_iinc (v := v7.2 + 1) (lv' := [(3, .int (v7.2 + 1)), (2, .int (v7.1 + (0))), (0, .ref (x 0)), (4, .int v15.1)]) hx hb dX7_toldBy_119 hl (k := 2) rfl rfl (by decide) rfl (fun ls hl => ?_)
              refine lv_goto (tgt := 45) hx hb dX7_toldBy_122 (by decide) ?_
              exact ih _ (hz1 _ (Option.some.inj hM).symm) _ _ _ hP hD hS (lv_sub hl [2, 1, 0] rfl)
            · have hM := xif c16 hM
              refine lv_aload_n hx hb dX7_toldBy_103 rfl (lv_at hl 0 rfl) ?_
              refine lv_aload_n hx hb dX7_toldBy_104 rfl (lv_at hl 0 rfl) ?_
              refine va_get (D := D) (ci := 7) (v := .ref (x 11)) (C := RX7) (T := TX7) (N := 30) hx hb hts (fun w h => List.mem_cons_of_mem _ (List.mem_append_right _ h)) hown hK hP 0 rfl rfl 18 (by decide) (hts _ (List.mem_of_getElem? (i := 1) rfl)) (fun _ h9 => h9) rfl dX7_toldBy_105 ?_
              refine lv_iload_n hx hb dX7_toldBy_108 rfl (lv_at hl 2 rfl) ?_
              obtain ⟨g17, hM⟩ := xck hM
              refine xald (v := (v6.2.2.2 v7.2.toNatClampNeg)) hx hb hK hP 5 0 rfl rfl g17 rfl dX7_toldBy_109 ?_
              obtain ⟨r18, er18, hM⟩ := xbd hM
              refine xafti (rv := r18) (W2 := [((x 0), .inr (7, o7 x u_this)), ((x 2), .inl (T.1, 22, .inl u_this_told)), ((x 3), .inl (T.1, 11, .inl v6.2.1)), ((x 4), .inl (T.1, 7, .inl v6.2.2.1)), ((x 10), .inl (T.1, 6, .inl u_this_chances)), ((x 11), .inl (T.1, 54, .inl v6.2.2.2))]) (va_runV (As := [.int (v6.2.2.2 v7.2.toNatClampNeg)]) (rest := [.int v7.1]) ⟨hx, hb, hml, hown, hts⟩ (c_X7_greatestOf l D T x u_this u_this_chances v6.2.2.2 (v6.2.2.2 v7.2.toNatClampNeg) er18) (cwV 1 hts gX7_toldBy_X7_greatestOf rfl rfl rfl (by decide +kernel) ⟨Nat.le_of_ble_eq_true rfl, Nat.le_of_ble_eq_true rfl⟩) (xpvv hP hD hK [0, 4, 5] (by decide) rfl 0 7 rfl rfl (fun _ _ _ => trivial) (fun _ _ _ _ _ _ => trivial)) rfl rfl hl.1 rfl (lv_room (Nat.le_of_ble_eq_true rfl)) dX7_toldBy_110 ⟨Nat.le_of_ble_eq_true rfl, Nat.le_of_ble_eq_true rfl⟩) hP hD hS hA [0, 4, 5] rfl rfl rfl rfl (fun H locs hP hD hS => ?_)
              refine lv_goto (tgt := 117) hx hb dX7_toldBy_113 (by decide) ?_
              refine lv_iadd hx hb dX7_toldBy_117 ?_
              refine lv_istore_n (lv' := [(2, .int (v7.1 + r18)), (0, .ref (x 0)), (3, .int v7.2), (4, .int v15.1)]) hx hb dX7_toldBy_118 rfl hl (by decide) rfl (fun ls hl => ?_)
              refine lv_iinc (v := v7.2 + 1) (lv' := [(3, .int (v7.2 + 1)), (2, .int (v7.1 + r18)), (0, .ref (x 0)), (4, .int v15.1)]) hx hb dX7_toldBy_119 hl (k := 2) rfl rfl (by decide) rfl (fun ls hl => ?_)
              refine lv_goto (tgt := 45) hx hb dX7_toldBy_122 (by decide) ?_
              exact ih _ (hz1 _ (Option.some.inj hM).symm) _ _ _ hP hD hS (lv_sub hl [2, 1, 0] rfl)
          have Lv9 : ∀ (n : Nat) (v9 : Int32 × Int32), xlp (s_X7_toldBy_57 v6 v7) n v9 = some v15 → ∀ (H : Heap) (locs : List Loc) (ls : Array Slot), va_P D vwCl [((x 0), .inr (7, o7 x u_this)), ((x 2), .inl (T.1, 22, .inl u_this_told)), ((x 3), .inl (T.1, 11, .inl v6.2.1)), ((x 4), .inl (T.1, 7, .inl v6.2.2.1)), ((x 10), .inl (T.1, 6, .inl u_this_chances)), ((x 11), .inl (T.1, 54, .inl v6.2.2.2))] H → va_D A [((x 0), .inr (7, o7 x u_this)), ((x 2), .inl (T.1, 22, .inl u_this_told)), ((x 3), .inl (T.1, 11, .inl v6.2.1)), ((x 4), .inl (T.1, 7, .inl v6.2.2.1)), ((x 10), .inl (T.1, 6, .inl u_this_chances)), ((x 11), .inl (T.1, 54, .inl v6.2.2.2))] → va_S A s.heap H locs → lv_has ls 6 [(0, .ref (x 0)), (2, .int v7.1), (3, .int v7.2), (4, .int v9.1), (5, .int v9.2)] → W p l e ({ frames := 6, cells := 0, slots := 0, locals := 131 } : Room) s m ([.ref (x 0), .int p1] : List Value).toArray below meth c H locs 0 0 (MQ below (va_Qi (fun (r : Int32) (_ : Unit) => r = rv.1) (fun _ => xPost D T [((x 0), .inr (7, o7 x u_this)), ((x 2), .inl (T.1, 22, .inl u_this_told)), ((x 3), .inl (T.1, 11, .inl rv.2.1)), ((x 4), .inl (T.1, 7, .inl rv.2.2.1)), ((x 10), .inl (T.1, 6, .inl u_this_chances)), ((x 11), .inl (T.1, 54, .inl rv.2.2.2))] A) A) ([.ref (x 0), .int p1] : List Value).toArray s 0 0 A) (F0 m 57 ls []) := by
            intro n
            induction n with
            | zero => exact fun _ h => (xlp_0 h).elim
            | succ n ih =>
              intro v9 hM H locs ls hP hD hS hl
              obtain ⟨z, hM, hz1, hz2⟩ := xlp_s hM
              unfold s_X7_toldBy_57 at hM
              refine lv_iload hx hb dX7_toldBy_57 (lv_at hl 4 rfl) ?_
              refine lv_iload_n hx hb dX7_toldBy_59 rfl (lv_at hl 2 rfl) ?_
              refine lv_icmp_ge (tgt := 97) hx hb dX7_toldBy_60 (by decide) (fun c10 => ?_) (fun c10 => ?_)
              · have hM := xit c10 hM
                obtain rfl := hz2 _ (Option.some.inj hM).symm
                exact Kv15 _ _ _ hP hD hS (lv_sub hl [0, 1, 2, 3] rfl)
              · have hM := xif c10 hM
                refine lv_iload hx hb dX7_toldBy_63 (lv_at hl 3 rfl) ?_
                refine lv_if_eq (tgt := 88) hx hb dX7_toldBy_65 (by decide) (fun c11 => ?_) (fun c11 => ?_)
                · have hM := xit c11 hM
                  refine lv_iconst (v := 0) hx hb dX7_toldBy_88 (by decide) ?_
                  refine lv_istore (lv' := [(4, .int (0)), (0, .ref (x 0)), (2, .int v7.1), (3, .int v7.2), (5, .int v9.2)]) hx hb dX7_toldBy_89 hl (by decide) rfl (fun ls hl => ?_)
                  refine lv_iinc (v := v9.2 + 1) (lv' := [(5, .int (v9.2 + 1)), (4, .int (0)), (0, .ref (x 0)), (2, .int v7.1), (3, .int v7.2)]) hx hb dX7_toldBy_91 hl (k := 4) rfl rfl (by decide) rfl (fun ls hl => ?_)
                  refine lv_goto (tgt := 57) hx hb dX7_toldBy_94 (by decide) ?_
                  exact ih _ (hz1 _ (Option.some.inj hM).symm) _ _ _ hP hD hS (lv_sub hl [2, 3, 4, 1, 0] rfl)
                · have hM := xif c11 hM
                  refine lv_aload_n hx hb dX7_toldBy_68 rfl (lv_at hl 0 rfl) ?_
                  refine va_get (D := D) (ci := 7) (v := .ref (x 11)) (C := RX7) (T := TX7) (N := 30) hx hb hts (fun w h => List.mem_cons_of_mem _ (List.mem_append_right _ h)) hown hK hP 0 rfl rfl 18 (by decide) (hts _ (List.mem_of_getElem? (i := 1) rfl)) (fun _ h9 => h9) rfl dX7_toldBy_69 ?_
                  refine lv_iload hx hb dX7_toldBy_72 (lv_at hl 4 rfl) ?_
                  obtain ⟨g12, hM⟩ := xck hM
                  refine xald (v := (v6.2.2.2 v9.2.toNatClampNeg)) hx hb hK hP 5 0 rfl rfl g12 rfl dX7_toldBy_74 ?_
                  refine lv_aload_n hx hb dX7_toldBy_75 rfl (lv_at hl 0 rfl) ?_
                  refine va_get (D := D) (ci := 7) (v := .ref (x 11)) (C := RX7) (T := TX7) (N := 30) hx hb hts (fun w h => List.mem_cons_of_mem _ (List.mem_append_right _ h)) hown hK hP 0 rfl rfl 18 (by decide) (hts _ (List.mem_of_getElem? (i := 1) rfl)) (fun _ h9 => h9) rfl dX7_toldBy_76 ?_
                  refine lv_iload_n hx hb dX7_toldBy_79 rfl (lv_at hl 2 rfl) ?_
                  obtain ⟨g13, hM⟩ := xck hM
                  refine xald (v := (v6.2.2.2 v7.2.toNatClampNeg)) hx hb hK hP 5 0 rfl rfl g13 rfl dX7_toldBy_80 ?_
                  refine lv_icmp_eq (tgt := 88) hx hb dX7_toldBy_81 (by decide) (fun c14 => ?_) (fun c14 => ?_)
                  · have hM := xit c14 hM
                    refine lv_iconst (v := 0) hx hb dX7_toldBy_88 (by decide) ?_
                    refine lv_istore (lv' := [(4, .int (0)), (0, .ref (x 0)), (2, .int v7.1), (3, .int v7.2), (5, .int v9.2)]) hx hb dX7_toldBy_89 hl (by decide) rfl (fun ls hl => ?_)
                    refine lv_iinc (v := v9.2 + 1) (lv' := [(5, .int (v9.2 + 1)), (4, .int (0)), (0, .ref (x 0)), (2, .int v7.1), (3, .int v7.2)]) hx hb dX7_toldBy_91 hl (k := 4) rfl rfl (by decide) rfl (fun ls hl => ?_)
                    refine lv_goto (tgt := 57) hx hb dX7_toldBy_94 (by decide) ?_
                    exact ih _ (hz1 _ (Option.some.inj hM).symm) _ _ _ hP hD hS (lv_sub hl [2, 3, 4, 1, 0] rfl)
                  · have hM := xif c14 hM
                    refine lv_iconst (v := 1) hx hb dX7_toldBy_84 (by decide) ?_
                    refine lv_goto (tgt := 89) hx hb dX7_toldBy_85 (by decide) ?_
                    refine lv_istore (lv' := [(4, .int (1)), (0, .ref (x 0)), (2, .int v7.1), (3, .int v7.2), (5, .int v9.2)]) hx hb dX7_toldBy_89 hl (by decide) rfl (fun ls hl => ?_)
                    refine lv_iinc (v := v9.2 + 1) (lv' := [(5, .int (v9.2 + 1)), (4, .int (1)), (0, .ref (x 0)), (2, .int v7.1), (3, .int v7.2)]) hx hb dX7_toldBy_91 hl (k := 4) rfl rfl (by decide) rfl (fun ls hl => ?_)
                    refine lv_goto (tgt := 57) hx hb dX7_toldBy_94 (by decide) ?_
                    exact ih _ (hz1 _ (Option.some.inj hM).symm) _ _ _ hP hD hS (lv_sub hl [2, 3, 4, 1, 0] rfl)
          exact Lv9 _ _ hM _ _ _ hP hD hS (lv_sub hl [2, 3, 4, 1, 0] rfl)
    exact Lv7 _ _ hM _ _ _ hP hD hS (lv_sub hl [2, 1, 0] rfl)
  have Lv1 : ∀ (n : Nat) (v1 : Int32 × (Nat → Int32) × (Nat → Int32) × (Nat → Int32)), xlp (s_X7_toldBy_2 N u_this u_this_told p1) n v1 = some v6 → ∀ (H : Heap) (locs : List Loc) (ls : Array Slot), va_P D vwCl [((x 0), .inr (7, o7 x u_this)), ((x 2), .inl (T.1, 22, .inl u_this_told)), ((x 3), .inl (T.1, 11, .inl v1.2.1)), ((x 4), .inl (T.1, 7, .inl v1.2.2.1)), ((x 10), .inl (T.1, 6, .inl u_this_chances)), ((x 11), .inl (T.1, 54, .inl v1.2.2.2))] H → va_D A [((x 0), .inr (7, o7 x u_this)), ((x 2), .inl (T.1, 22, .inl u_this_told)), ((x 3), .inl (T.1, 11, .inl v1.2.1)), ((x 4), .inl (T.1, 7, .inl v1.2.2.1)), ((x 10), .inl (T.1, 6, .inl u_this_chances)), ((x 11), .inl (T.1, 54, .inl v1.2.2.2))] → va_S A s.heap H locs → lv_has ls 6 [(0, .ref (x 0)), (1, .int p1), (2, .int v1.1)] → W p l e ({ frames := 6, cells := 0, slots := 0, locals := 131 } : Room) s m ([.ref (x 0), .int p1] : List Value).toArray below meth c H locs 0 0 (MQ below (va_Qi (fun (r : Int32) (_ : Unit) => r = rv.1) (fun _ => xPost D T [((x 0), .inr (7, o7 x u_this)), ((x 2), .inl (T.1, 22, .inl u_this_told)), ((x 3), .inl (T.1, 11, .inl rv.2.1)), ((x 4), .inl (T.1, 7, .inl rv.2.2.1)), ((x 10), .inl (T.1, 6, .inl u_this_chances)), ((x 11), .inl (T.1, 54, .inl rv.2.2.2))] A) A) ([.ref (x 0), .int p1] : List Value).toArray s 0 0 A) (F0 m 2 ls []) := by
    intro n
    induction n with
    | zero => exact fun _ h => (xlp_0 h).elim
    | succ n ih =>
      intro v1 hM H locs ls hP hD hS hl
      obtain ⟨z, hM, hz1, hz2⟩ := xlp_s hM
      unfold s_X7_toldBy_2 at hM
      refine lv_iload_n hx hb dX7_toldBy_2 rfl (lv_at hl 2 rfl) ?_
      refine lv_bipush (v := 54) hx hb dX7_toldBy_3 (by decide) ?_
      refine lv_icmp_ge (tgt := 41) hx hb dX7_toldBy_5 (by decide) (fun c2 => ?_) (fun c2 => ?_)
      · have hM := xit c2 hM
        obtain rfl := hz2 _ (Option.some.inj hM).symm
        exact Kv6 _ _ _ hP hD hS (lv_sub hl [0] rfl)
      · have hM := xif c2 hM
        refine lv_aload_n hx hb dX7_toldBy_8 rfl (lv_at hl 0 rfl) ?_
        refine lv_iload_n hx hb dX7_toldBy_9 rfl (lv_at hl 2 rfl) ?_
        refine lv_bipush (v := 9) hx hb dX7_toldBy_10 (by decide) ?_
        refine lv_idiv hx hb dX7_toldBy_12 (by decide) ?_
        refine lv_iload_n hx hb dX7_toldBy_13 rfl (lv_at hl 2 rfl) ?_
        refine lv_bipush (v := 9) hx hb dX7_toldBy_14 (by decide) ?_
        refine lv_irem hx hb dX7_toldBy_16 (by decide) ?_
        refine lv_iconst (v := 1) hx hb dX7_toldBy_17 (by decide) ?_
        refine lv_iadd hx hb dX7_toldBy_18 ?_
        obtain ⟨r3, er3, hM⟩ := xbd hM
        refine xaftv (W2 := [((x 0), .inr (7, o7 x u_this)), ((x 2), .inl (T.1, 22, .inl u_this_told)), ((x 3), .inl (T.1, 11, .inl r3)), ((x 4), .inl (T.1, 7, .inl v1.2.2.1)), ((x 10), .inl (T.1, 6, .inl u_this_chances)), ((x 11), .inl (T.1, 54, .inl v1.2.2.2))]) (va_runV (As := [.int (v1.1 / (9)), .int ((v1.1 - v1.1 / (9) * (9)) + (1))]) (rest := []) ⟨hx, hb, hml, hown, hts⟩ (c_X7_takeTrouble l D T x u_this u_this_told v1.2.1 (v1.1 / (9)) ((v1.1 - v1.1 / (9) * (9)) + (1)) er3) (cwV 2 hts gX7_toldBy_X7_takeTrouble rfl rfl rfl (by decide +kernel) ⟨Nat.le_of_ble_eq_true rfl, Nat.le_of_ble_eq_true rfl⟩) (xpvv hP hD hK [0, 1, 2] (by decide) rfl 0 7 rfl rfl (fun _ _ _ => trivial) (fun _ _ _ _ _ _ => trivial)) rfl rfl hl.1 rfl (lv_room (Nat.le_of_ble_eq_true rfl)) dX7_toldBy_19 ⟨Nat.le_of_ble_eq_true rfl, Nat.le_of_ble_eq_true rfl⟩) hP hD hS hA [0, 1, 2] rfl rfl rfl rfl (fun H locs hP hD hS => ?_)
        refine lv_aload_n hx hb dX7_toldBy_22 rfl (lv_at hl 0 rfl) ?_
        refine va_get (D := D) (ci := 7) (v := .ref (x 11)) (C := RX7) (T := TX7) (N := 30) hx hb hts (fun w h => List.mem_cons_of_mem _ (List.mem_append_right _ h)) hown hK hP 0 rfl rfl 18 (by decide) (hts _ (List.mem_of_getElem? (i := 1) rfl)) (fun _ h9 => h9) rfl dX7_toldBy_23 ?_
        refine lv_iload_n hx hb dX7_toldBy_26 rfl (lv_at hl 2 rfl) ?_
        refine lv_aload_n hx hb dX7_toldBy_27 rfl (lv_at hl 0 rfl) ?_
        refine lv_iload_n hx hb dX7_toldBy_28 rfl (lv_at hl 1 rfl) ?_
        refine lv_bipush (v := 12) hx hb dX7_toldBy_29 (by decide) ?_
        obtain ⟨r4, er4, hM⟩ := xbd hM
        refine xafti (rv := r4.1) (W2 := [((x 0), .inr (7, o7 x u_this)), ((x 2), .inl (T.1, 22, .inl u_this_told)), ((x 3), .inl (T.1, 11, .inl r3)), ((x 4), .inl (T.1, 7, .inl r4.2)), ((x 10), .inl (T.1, 6, .inl u_this_chances)), ((x 11), .inl (T.1, 54, .inl v1.2.2.2))]) (va_runV (As := [.int p1, .int (12)]) (rest := [.int v1.1, .ref (x 11)]) ⟨hx, hb, hml, hown, hts⟩ (c_X7_signBy l D T x u_this r3 v1.2.2.1 p1 (12) er4) (cwV 2 hts gX7_toldBy_X7_signBy rfl rfl rfl (by decide +kernel) ⟨Nat.le_of_ble_eq_true rfl, Nat.le_of_ble_eq_true rfl⟩) (xpvv hP hD hK [0, 2, 3] (by decide) rfl 0 7 rfl rfl (fun _ _ _ => trivial) (fun _ _ _ _ _ _ => trivial)) rfl rfl hl.1 rfl (lv_room (Nat.le_of_ble_eq_true rfl)) dX7_toldBy_31 ⟨Nat.le_of_ble_eq_true rfl, Nat.le_of_ble_eq_true rfl⟩) hP hD hS hA [0, 2, 3] rfl rfl rfl rfl (fun H locs hP hD hS => ?_)
        obtain ⟨g5, hM⟩ := xck hM
        refine xast hx hb hK hP hD hS 5 0 rfl rfl g5 rfl dX7_toldBy_34 (fun H locs hP hD hS => ?_)
        have hP : va_P D vwCl [((x 0), .inr (7, o7 x u_this)), ((x 2), .inl (T.1, 22, .inl u_this_told)), ((x 3), .inl (T.1, 11, .inl r3)), ((x 4), .inl (T.1, 7, .inl r4.2)), ((x 10), .inl (T.1, 6, .inl u_this_chances)), ((x 11), .inl (T.1, 54, .inl (upd v1.2.2.2 v1.1.toNatClampNeg r4.1)))] H := hP
        have hD : va_D A [((x 0), .inr (7, o7 x u_this)), ((x 2), .inl (T.1, 22, .inl u_this_told)), ((x 3), .inl (T.1, 11, .inl r3)), ((x 4), .inl (T.1, 7, .inl r4.2)), ((x 10), .inl (T.1, 6, .inl u_this_chances)), ((x 11), .inl (T.1, 54, .inl (upd v1.2.2.2 v1.1.toNatClampNeg r4.1)))] := hD
        refine lv_iinc (v := v1.1 + 1) (lv' := [(2, .int (v1.1 + 1)), (0, .ref (x 0)), (1, .int p1)]) hx hb dX7_toldBy_35 hl (k := 2) rfl rfl (by decide) rfl (fun ls hl => ?_)
        refine lv_goto (tgt := 2) hx hb dX7_toldBy_38 (by decide) ?_
        exact ih _ (hz1 _ (Option.some.inj hM).symm) _ _ _ hP hD hS (lv_sub hl [1, 2, 0] rfl)
  exact Lv1 _ _ hM _ _ _ hP hD hS (lv_sub hl [1, 2, 0] rfl)
def s_X7_tells_10 (N : Nat) (u_this : K7) (u_this_told : (Nat → Int32)) (u_this_chances : (Nat → Int32)) (v2 : Int32 × Int32 × Int32 × (Nat → Int32) × (Nat → Int32) × (Nat → Int32)) : Option ((Int32 × Int32 × Int32 × (Nat → Int32) × (Nat → Int32) × (Nat → Int32)) ⊕ (Int32 × Int32 × Int32 × (Nat → Int32) × (Nat → Int32) × (Nat → Int32))) :=
  if (3) ≤ v2.2.2.1 then
   (some (.inr (v2.1, v2.2.1, v2.2.2.1, v2.2.2.2.1, v2.2.2.2.2.1, v2.2.2.2.2.2)))
  else
   ((f_X7_toldBy N u_this u_this_told v2.2.2.2.1 v2.2.2.2.2.1 u_this_chances v2.2.2.2.2.2 v2.2.2.1).bind fun r4 =>
    ((if r4.1 ≤ v2.2.1 then
       (some v2.1)
      else
       (some v2.2.2.1) : Option (Int32))).bind fun v6 =>
    if r4.1 ≤ v2.2.1 then
     (some (.inl (v6, v2.2.1, v2.2.2.1 + 1, r4.2.1, r4.2.2.1, r4.2.2.2)))
    else
     (some (.inl (v6, r4.1, v2.2.2.1 + 1, r4.2.1, r4.2.2.1, r4.2.2.2))))
def f_X7_tells (N : Nat) (u_this : K7) (u_this_told : (Nat → Int32)) (u_this_par : (Nat → Int32)) (u_this_try0 : (Nat → Int32)) (u_this_chances : (Nat → Int32)) (u_this_answers : (Nat → Int32)) : Option (Int32 × (Nat → Int32) × (Nat → Int32) × (Nat → Int32)) :=
  (f_X7_toldBy N u_this u_this_told u_this_par u_this_try0 u_this_chances u_this_answers (0)).bind fun r1 =>
  (xlp (s_X7_tells_10 N u_this u_this_told u_this_chances) N (0, r1.1, 1, r1.2.1, r1.2.2.1, r1.2.2.2)).bind fun v8 =>
  some (v8.1, v8.2.2.2.1, v8.2.2.2.2.1, v8.2.2.2.2.2)
set_option maxHeartbeats 4000000 in
set_option maxRecDepth 100000 in
theorem c_X7_tells (l : Launch) (D : va_G) (T : xT) (x : Nat → Nat) {sz : Nat} {N : Nat} (u_this : K7) (u_this_told : (Nat → Int32)) (u_this_par : (Nat → Int32)) (u_this_try0 : (Nat → Int32)) (u_this_chances : (Nat → Int32)) (u_this_answers : (Nat → Int32)) {rv : Int32 × (Nat → Int32) × (Nat → Int32) × (Nat → Int32)} (hM : f_X7_tells N u_this u_this_told u_this_par u_this_try0 u_this_chances u_this_answers = some rv) : Met l yX7_tells wsX7_tells ({ frames := 7, cells := 0, slots := 0, locals := 156 } : Room) (va_Pc [.ref (x 0)] (xPre D T [((x 0), .inr (7, o7 x u_this)), ((x 2), .inl (T.1, 22, .inl u_this_told)), ((x 3), .inl (T.1, 11, .inl u_this_par)), ((x 4), .inl (T.1, 7, .inl u_this_try0)), ((x 10), .inl (T.1, 6, .inl u_this_chances)), ((x 11), .inl (T.1, 54, .inl u_this_answers))] sz xE0)) (va_Qi (fun (r : Int32) (_ : Unit) => r = rv.1) (fun _ => xPost D T [((x 0), .inr (7, o7 x u_this)), ((x 2), .inl (T.1, 22, .inl u_this_told)), ((x 3), .inl (T.1, 11, .inl rv.2.1)), ((x 4), .inl (T.1, 7, .inl rv.2.2.1)), ((x 10), .inl (T.1, 6, .inl u_this_chances)), ((x 11), .inl (T.1, 54, .inl rv.2.2.2))] (va_A [((x 0), .inr (7, o7 x u_this)), ((x 2), .inl (T.1, 22, .inl u_this_told)), ((x 3), .inl (T.1, 11, .inl u_this_par)), ((x 4), .inl (T.1, 7, .inl u_this_try0)), ((x 10), .inl (T.1, 6, .inl u_this_chances)), ((x 11), .inl (T.1, 54, .inl u_this_answers))] sz)) (va_A [((x 0), .inr (7, o7 x u_this)), ((x 2), .inl (T.1, 22, .inl u_this_told)), ((x 3), .inl (T.1, 11, .inl u_this_par)), ((x 4), .inl (T.1, 7, .inl u_this_try0)), ((x 10), .inl (T.1, 6, .inl u_this_chances)), ((x 11), .inl (T.1, 54, .inl u_this_answers))] sz)) 0 0 (va_A [((x 0), .inr (7, o7 x u_this)), ((x 2), .inl (T.1, 22, .inl u_this_told)), ((x 3), .inl (T.1, 11, .inl u_this_par)), ((x 4), .inl (T.1, 7, .inl u_this_try0)), ((x 10), .inl (T.1, 6, .inl u_this_chances)), ((x 11), .inl (T.1, 54, .inl u_this_answers))] sz) := by
  refine xMet (av := [.ref (x 0)]) (Wd := [((x 0), .inr (7, o7 x u_this)), ((x 2), .inl (T.1, 22, .inl u_this_told)), ((x 3), .inl (T.1, 11, .inl u_this_par)), ((x 4), .inl (T.1, 7, .inl u_this_try0)), ((x 10), .inl (T.1, 6, .inl u_this_chances)), ((x 11), .inl (T.1, 54, .inl u_this_answers))]) (E := xE0) (Qc := fun A => (va_Qi (fun (r : Int32) (_ : Unit) => r = rv.1) (fun _ => xPost D T [((x 0), .inr (7, o7 x u_this)), ((x 2), .inl (T.1, 22, .inl u_this_told)), ((x 3), .inl (T.1, 11, .inl rv.2.1)), ((x 4), .inl (T.1, 7, .inl rv.2.2.1)), ((x 10), .inl (T.1, 6, .inl u_this_chances)), ((x 11), .inl (T.1, 54, .inl rv.2.2.2))] A) A)) (cc := cX7_tells) (maxL := 5) (ret := (some .int)) (by decide) rfl (Nat.le_of_ble_eq_true rfl) ?_
  intro p e s m below meth c A ls hx hb hr hml hts hown hlocks hnm hP hK hD hS hA hE hl
  have hown : s.vm.findClass RX7 = some m.cls := hown
  have hl : lv_has ls 5 [(0, .ref (x 0))] := hl
  unfold f_X7_tells at hM
  refine lv_iconst (v := 0) hx hb dX7_tells_0 (by decide) ?_
  refine lv_istore_n (lv' := [(1, .int (0)), (0, .ref (x 0))]) hx hb dX7_tells_1 rfl hl (by decide) rfl (fun ls hl => ?_)
  refine lv_aload_n hx hb dX7_tells_2 rfl (lv_at hl 1 rfl) ?_
  refine lv_iconst (v := 0) hx hb dX7_tells_3 (by decide) ?_
  obtain ⟨r1, er1, hM⟩ := xbd hM
  refine xafti (rv := r1.1) (W2 := [((x 0), .inr (7, o7 x u_this)), ((x 2), .inl (T.1, 22, .inl u_this_told)), ((x 3), .inl (T.1, 11, .inl r1.2.1)), ((x 4), .inl (T.1, 7, .inl r1.2.2.1)), ((x 10), .inl (T.1, 6, .inl u_this_chances)), ((x 11), .inl (T.1, 54, .inl r1.2.2.2))]) (va_runV (As := [.int (0)]) (rest := []) ⟨hx, hb, hml, hown, hts⟩ (c_X7_toldBy l D T x u_this u_this_told u_this_par u_this_try0 u_this_chances u_this_answers (0) er1) (cwV 1 hts gX7_tells_X7_toldBy rfl rfl rfl (by decide +kernel) ⟨Nat.le_of_ble_eq_true rfl, Nat.le_of_ble_eq_true rfl⟩) (xpvv hP hD hK [0, 1, 2, 3, 4, 5] (by decide) rfl 0 7 rfl rfl (fun _ _ _ => trivial) (fun _ _ _ _ _ _ => trivial)) rfl rfl hl.1 rfl (lv_room (Nat.le_of_ble_eq_true rfl)) dX7_tells_4 ⟨Nat.le_of_ble_eq_true rfl, Nat.le_of_ble_eq_true rfl⟩) hP hD hS hA [0, 1, 2, 3, 4, 5] rfl rfl rfl rfl (fun H locs hP hD hS => ?_)
  refine lv_istore_n (lv' := [(2, .int r1.1), (1, .int (0)), (0, .ref (x 0))]) hx hb dX7_tells_7 rfl hl (by decide) rfl (fun ls hl => ?_)
  refine lv_iconst (v := 1) hx hb dX7_tells_8 (by decide) ?_
  refine lv_istore_n (lv' := [(3, .int (1)), (2, .int r1.1), (1, .int (0)), (0, .ref (x 0))]) hx hb dX7_tells_9 rfl hl (by decide) rfl (fun ls hl => ?_)
  obtain ⟨v8, hM, hNv8⟩ := xbd hM
  have hQv8 := hM
  have Kv8 : ∀ (H : Heap) (locs : List Loc) (ls : Array Slot), va_P D vwCl [((x 0), .inr (7, o7 x u_this)), ((x 2), .inl (T.1, 22, .inl u_this_told)), ((x 3), .inl (T.1, 11, .inl v8.2.2.2.1)), ((x 4), .inl (T.1, 7, .inl v8.2.2.2.2.1)), ((x 10), .inl (T.1, 6, .inl u_this_chances)), ((x 11), .inl (T.1, 54, .inl v8.2.2.2.2.2))] H → va_D A [((x 0), .inr (7, o7 x u_this)), ((x 2), .inl (T.1, 22, .inl u_this_told)), ((x 3), .inl (T.1, 11, .inl v8.2.2.2.1)), ((x 4), .inl (T.1, 7, .inl v8.2.2.2.2.1)), ((x 10), .inl (T.1, 6, .inl u_this_chances)), ((x 11), .inl (T.1, 54, .inl v8.2.2.2.2.2))] → va_S A s.heap H locs → lv_has ls 5 [(1, .int v8.1)] → W p l e ({ frames := 7, cells := 0, slots := 0, locals := 156 } : Room) s m ([.ref (x 0)] : List Value).toArray below meth c H locs 0 0 (MQ below (va_Qi (fun (r : Int32) (_ : Unit) => r = rv.1) (fun _ => xPost D T [((x 0), .inr (7, o7 x u_this)), ((x 2), .inl (T.1, 22, .inl u_this_told)), ((x 3), .inl (T.1, 11, .inl rv.2.1)), ((x 4), .inl (T.1, 7, .inl rv.2.2.1)), ((x 10), .inl (T.1, 6, .inl u_this_chances)), ((x 11), .inl (T.1, 54, .inl rv.2.2.2))] A) A) ([.ref (x 0)] : List Value).toArray s 0 0 A) (F0 m 53 ls []) := by
    intro H locs ls hP hD hS hl
    have hM := hNv8
    refine lv_iload_n hx hb dX7_tells_53 rfl (lv_at hl 0 rfl) ?_
    obtain rfl := Option.some.inj hM
    exact xreti hx hb hr hlocks hP hK hD hS dX7_tells_54 rfl
  have Lv2 : ∀ (n : Nat) (v2 : Int32 × Int32 × Int32 × (Nat → Int32) × (Nat → Int32) × (Nat → Int32)), xlp (s_X7_tells_10 N u_this u_this_told u_this_chances) n v2 = some v8 → ∀ (H : Heap) (locs : List Loc) (ls : Array Slot), va_P D vwCl [((x 0), .inr (7, o7 x u_this)), ((x 2), .inl (T.1, 22, .inl u_this_told)), ((x 3), .inl (T.1, 11, .inl v2.2.2.2.1)), ((x 4), .inl (T.1, 7, .inl v2.2.2.2.2.1)), ((x 10), .inl (T.1, 6, .inl u_this_chances)), ((x 11), .inl (T.1, 54, .inl v2.2.2.2.2.2))] H → va_D A [((x 0), .inr (7, o7 x u_this)), ((x 2), .inl (T.1, 22, .inl u_this_told)), ((x 3), .inl (T.1, 11, .inl v2.2.2.2.1)), ((x 4), .inl (T.1, 7, .inl v2.2.2.2.2.1)), ((x 10), .inl (T.1, 6, .inl u_this_chances)), ((x 11), .inl (T.1, 54, .inl v2.2.2.2.2.2))] → va_S A s.heap H locs → lv_has ls 5 [(0, .ref (x 0)), (1, .int v2.1), (2, .int v2.2.1), (3, .int v2.2.2.1)] → W p l e ({ frames := 7, cells := 0, slots := 0, locals := 156 } : Room) s m ([.ref (x 0)] : List Value).toArray below meth c H locs 0 0 (MQ below (va_Qi (fun (r : Int32) (_ : Unit) => r = rv.1) (fun _ => xPost D T [((x 0), .inr (7, o7 x u_this)), ((x 2), .inl (T.1, 22, .inl u_this_told)), ((x 3), .inl (T.1, 11, .inl rv.2.1)), ((x 4), .inl (T.1, 7, .inl rv.2.2.1)), ((x 10), .inl (T.1, 6, .inl u_this_chances)), ((x 11), .inl (T.1, 54, .inl rv.2.2.2))] A) A) ([.ref (x 0)] : List Value).toArray s 0 0 A) (F0 m 10 ls []) := by
    intro n
    induction n with
    | zero => exact fun _ h => (xlp_0 h).elim
    | succ n ih =>
      intro v2 hM H locs ls hP hD hS hl
      obtain ⟨z, hM, hz1, hz2⟩ := xlp_s hM
      unfold s_X7_tells_10 at hM
      refine lv_iload_n hx hb dX7_tells_10 rfl (lv_at hl 3 rfl) ?_
      refine lv_iconst (v := 3) hx hb dX7_tells_11 (by decide) ?_
      refine lv_icmp_ge (tgt := 53) hx hb dX7_tells_12 (by decide) (fun c3 => ?_) (fun c3 => ?_)
      · have hM := xit c3 hM
        obtain rfl := hz2 _ (Option.some.inj hM).symm
        exact Kv8 _ _ _ hP hD hS (lv_sub hl [1] rfl)
      · have hM := xif c3 hM
        refine lv_aload_n hx hb dX7_tells_15 rfl (lv_at hl 0 rfl) ?_
        refine lv_iload_n hx hb dX7_tells_16 rfl (lv_at hl 3 rfl) ?_
        obtain ⟨r4, er4, hM⟩ := xbd hM
        refine xafti (rv := r4.1) (W2 := [((x 0), .inr (7, o7 x u_this)), ((x 2), .inl (T.1, 22, .inl u_this_told)), ((x 3), .inl (T.1, 11, .inl r4.2.1)), ((x 4), .inl (T.1, 7, .inl r4.2.2.1)), ((x 10), .inl (T.1, 6, .inl u_this_chances)), ((x 11), .inl (T.1, 54, .inl r4.2.2.2))]) (va_runV (As := [.int v2.2.2.1]) (rest := []) ⟨hx, hb, hml, hown, hts⟩ (c_X7_toldBy l D T x u_this u_this_told v2.2.2.2.1 v2.2.2.2.2.1 u_this_chances v2.2.2.2.2.2 v2.2.2.1 er4) (cwV 1 hts gX7_tells_X7_toldBy rfl rfl rfl (by decide +kernel) ⟨Nat.le_of_ble_eq_true rfl, Nat.le_of_ble_eq_true rfl⟩) (xpvv hP hD hK [0, 1, 2, 3, 4, 5] (by decide) rfl 0 7 rfl rfl (fun _ _ _ => trivial) (fun _ _ _ _ _ _ => trivial)) rfl rfl hl.1 rfl (lv_room (Nat.le_of_ble_eq_true rfl)) dX7_tells_17 ⟨Nat.le_of_ble_eq_true rfl, Nat.le_of_ble_eq_true rfl⟩) hP hD hS hA [0, 1, 2, 3, 4, 5] rfl rfl rfl rfl (fun H locs hP hD hS => ?_)
        refine lv_istore (lv' := [(4, .int r4.1), (0, .ref (x 0)), (1, .int v2.1), (2, .int v2.2.1), (3, .int v2.2.2.1)]) hx hb dX7_tells_20 hl (by decide) rfl (fun ls hl => ?_)
        refine lv_iload hx hb dX7_tells_22 (lv_at hl 0 rfl) ?_
        refine lv_iload_n hx hb dX7_tells_24 rfl (lv_at hl 3 rfl) ?_
        obtain ⟨v6, hM, hNv6⟩ := xbd hM
        have Kv6 : ∀ (H : Heap) (locs : List Loc) (ls : Array Slot), va_P D vwCl [((x 0), .inr (7, o7 x u_this)), ((x 2), .inl (T.1, 22, .inl u_this_told)), ((x 3), .inl (T.1, 11, .inl r4.2.1)), ((x 4), .inl (T.1, 7, .inl r4.2.2.1)), ((x 10), .inl (T.1, 6, .inl u_this_chances)), ((x 11), .inl (T.1, 54, .inl r4.2.2.2))] H → va_D A [((x 0), .inr (7, o7 x u_this)), ((x 2), .inl (T.1, 22, .inl u_this_told)), ((x 3), .inl (T.1, 11, .inl r4.2.1)), ((x 4), .inl (T.1, 7, .inl r4.2.2.1)), ((x 10), .inl (T.1, 6, .inl u_this_chances)), ((x 11), .inl (T.1, 54, .inl r4.2.2.2))] → va_S A s.heap H locs → lv_has ls 5 [(0, .ref (x 0)), (2, .int v2.2.1), (3, .int v2.2.2.1), (4, .int r4.1)] → W p l e ({ frames := 7, cells := 0, slots := 0, locals := 156 } : Room) s m ([.ref (x 0)] : List Value).toArray below meth c H locs 0 0 (MQ below (va_Qi (fun (r : Int32) (_ : Unit) => r = rv.1) (fun _ => xPost D T [((x 0), .inr (7, o7 x u_this)), ((x 2), .inl (T.1, 22, .inl u_this_told)), ((x 3), .inl (T.1, 11, .inl rv.2.1)), ((x 4), .inl (T.1, 7, .inl rv.2.2.1)), ((x 10), .inl (T.1, 6, .inl u_this_chances)), ((x 11), .inl (T.1, 54, .inl rv.2.2.2))] A) A) ([.ref (x 0)] : List Value).toArray s 0 0 A) (F0 m 33 ls [.int v6]) := by
          intro H locs ls hP hD hS hl
          have hM := hNv6
          refine lv_istore_n (lv' := [(1, .int v6), (0, .ref (x 0)), (2, .int v2.2.1), (3, .int v2.2.2.1), (4, .int r4.1)]) hx hb dX7_tells_33 rfl hl (by decide) rfl (fun ls hl => ?_)
          refine lv_iload hx hb dX7_tells_34 (lv_at hl 4 rfl) ?_
          refine lv_iload_n hx hb dX7_tells_36 rfl (lv_at hl 2 rfl) ?_
          refine lv_icmp_le (tgt := 45) hx hb dX7_tells_37 (by decide) (fun c7 => ?_) (fun c7 => ?_)
          · have hM := xit c7 hM
            refine lv_iload_n hx hb dX7_tells_45 rfl (lv_at hl 2 rfl) ?_
            refine lv_istore_n (lv' := [(2, .int v2.2.1), (1, .int v6), (0, .ref (x 0)), (3, .int v2.2.2.1), (4, .int r4.1)]) hx hb dX7_tells_46 rfl hl (by decide) rfl (fun ls hl => ?_)
            refine lv_iinc (v := v2.2.2.1 + 1) (lv' := [(3, .int (v2.2.2.1 + 1)), (2, .int v2.2.1), (1, .int v6), (0, .ref (x 0)), (4, .int r4.1)]) hx hb dX7_tells_47 hl (k := 3) rfl rfl (by decide) rfl (fun ls hl => ?_)
            refine lv_goto (tgt := 10) hx hb dX7_tells_50 (by decide) ?_
            exact ih _ (hz1 _ (Option.some.inj hM).symm) _ _ _ hP hD hS (lv_sub hl [3, 2, 1, 0] rfl)
          · have hM := xif c7 hM
            refine lv_iload hx hb dX7_tells_40 (lv_at hl 4 rfl) ?_
            refine lv_goto (tgt := 46) hx hb dX7_tells_42 (by decide) ?_
            refine lv_istore_n (lv' := [(2, .int r4.1), (1, .int v6), (0, .ref (x 0)), (3, .int v2.2.2.1), (4, .int r4.1)]) hx hb dX7_tells_46 rfl hl (by decide) rfl (fun ls hl => ?_)
            refine lv_iinc (v := v2.2.2.1 + 1) (lv' := [(3, .int (v2.2.2.1 + 1)), (2, .int r4.1), (1, .int v6), (0, .ref (x 0)), (4, .int r4.1)]) hx hb dX7_tells_47 hl (k := 3) rfl rfl (by decide) rfl (fun ls hl => ?_)
            refine lv_goto (tgt := 10) hx hb dX7_tells_50 (by decide) ?_
            exact ih _ (hz1 _ (Option.some.inj hM).symm) _ _ _ hP hD hS (lv_sub hl [3, 2, 1, 0] rfl)
        refine lv_icmp_le (tgt := 32) hx hb dX7_tells_25 (by decide) (fun c5 => ?_) (fun c5 => ?_)
        · have hM := xit c5 hM
          refine lv_iload_n hx hb dX7_tells_32 rfl (lv_at hl 2 rfl) ?_
          obtain rfl := Option.some.inj hM
          exact Kv6 _ _ _ hP hD hS (lv_sub hl [1, 3, 4, 0] rfl)
        · have hM := xif c5 hM
          refine lv_iload_n hx hb dX7_tells_28 rfl (lv_at hl 4 rfl) ?_
          refine lv_goto (tgt := 33) hx hb dX7_tells_29 (by decide) ?_
          obtain rfl := Option.some.inj hM
          exact Kv6 _ _ _ hP hD hS (lv_sub hl [1, 3, 4, 0] rfl)
  exact Lv2 _ _ hM _ _ _ hP hD hS (lv_sub hl [3, 2, 1, 0] rfl)
def s_X7_where_28 (N : Nat) (u_this : K7) (u_this_told : (Nat → Int32)) (p1 : Int32) (p2 : Int32) (v3 : Int32 × Int32 × (Nat → Int32) × (Nat → Int32)) : Option ((Int32 × Int32 × (Nat → Int32) × (Nat → Int32)) ⊕ (Int32 × Int32 × (Nat → Int32) × (Nat → Int32))) :=
  if (99) < v3.2.1 then
   (some (.inr (v3.1, v3.2.1, v3.2.2.1, v3.2.2.2)))
  else
   ((f_X7_takeTold N u_this u_this_told v3.2.2.1).bind fun r5 =>
    (f_X7_signBy N u_this (upd r5 (6) v3.2.1) v3.2.2.2 (0) (0)).bind fun r6 =>
    ((if r6.1 = p1 then
       (some (1))
      else
       (some (0)) : Option (Int32))).bind fun v8 =>
    if v8 = (0) then
     (some (.inl (v3.1, v3.2.1 + 1, (upd r5 (6) v3.2.1), r6.2)))
    else
     (if p2 = (1) then
       (some (.inl (v3.2.1, v3.2.1 + 1, (upd r5 (6) v3.2.1), r6.2)))
      else
       (if v3.1 = (-9) then
         (some (.inl (v3.2.1, v3.2.1 + 1, (upd r5 (6) v3.2.1), r6.2)))
        else
         (some (.inl (v3.1, v3.2.1 + 1, (upd r5 (6) v3.2.1), r6.2))))))
def f_X7_where (N : Nat) (u_this : K7) (u_this_told : (Nat → Int32)) (u_this_par : (Nat → Int32)) (u_this_try0 : (Nat → Int32)) (p1 : Int32) (p2 : Int32) : Option (Int32 × (Nat → Int32) × (Nat → Int32)) :=
  if (f_X7_in p1 (0) (200)) = (0) then
   (some ((-1), u_this_par, u_this_try0))
  else
   (if (f_X7_in p2 (0) (1)) = (0) then
     (some ((-1), u_this_par, u_this_try0))
    else
     ((xlp (s_X7_where_28 N u_this u_this_told p1 p2) N ((-9), 1, u_this_par, u_this_try0)).bind fun v12 =>
      some (v12.1, v12.2.2.1, v12.2.2.2)))
set_option maxHeartbeats 4000000 in
set_option maxRecDepth 100000 in
theorem c_X7_where (l : Launch) (D : va_G) (T : xT) (x : Nat → Nat) {sz : Nat} {N : Nat} (u_this : K7) (u_this_told : (Nat → Int32)) (u_this_par : (Nat → Int32)) (u_this_try0 : (Nat → Int32)) (p1 : Int32) (p2 : Int32) {rv : Int32 × (Nat → Int32) × (Nat → Int32)} (hM : f_X7_where N u_this u_this_told u_this_par u_this_try0 p1 p2 = some rv) : Met l yX7_where wsX7_where ({ frames := 6, cells := 0, slots := 0, locals := 131 } : Room) (va_Pc [.ref (x 0), .int p1, .int p2] (xPre D T [((x 0), .inr (7, o7 x u_this)), ((x 2), .inl (T.1, 22, .inl u_this_told)), ((x 3), .inl (T.1, 11, .inl u_this_par)), ((x 4), .inl (T.1, 7, .inl u_this_try0))] sz xE0)) (va_Qi (fun (r : Int32) (_ : Unit) => r = rv.1) (fun _ => xPost D T [((x 0), .inr (7, o7 x u_this)), ((x 2), .inl (T.1, 22, .inl u_this_told)), ((x 3), .inl (T.1, 11, .inl rv.2.1)), ((x 4), .inl (T.1, 7, .inl rv.2.2))] (va_A [((x 0), .inr (7, o7 x u_this)), ((x 2), .inl (T.1, 22, .inl u_this_told)), ((x 3), .inl (T.1, 11, .inl u_this_par)), ((x 4), .inl (T.1, 7, .inl u_this_try0))] sz)) (va_A [((x 0), .inr (7, o7 x u_this)), ((x 2), .inl (T.1, 22, .inl u_this_told)), ((x 3), .inl (T.1, 11, .inl u_this_par)), ((x 4), .inl (T.1, 7, .inl u_this_try0))] sz)) 0 0 (va_A [((x 0), .inr (7, o7 x u_this)), ((x 2), .inl (T.1, 22, .inl u_this_told)), ((x 3), .inl (T.1, 11, .inl u_this_par)), ((x 4), .inl (T.1, 7, .inl u_this_try0))] sz) := by
  refine xMet (av := [.ref (x 0), .int p1, .int p2]) (Wd := [((x 0), .inr (7, o7 x u_this)), ((x 2), .inl (T.1, 22, .inl u_this_told)), ((x 3), .inl (T.1, 11, .inl u_this_par)), ((x 4), .inl (T.1, 7, .inl u_this_try0))]) (E := xE0) (Qc := fun A => (va_Qi (fun (r : Int32) (_ : Unit) => r = rv.1) (fun _ => xPost D T [((x 0), .inr (7, o7 x u_this)), ((x 2), .inl (T.1, 22, .inl u_this_told)), ((x 3), .inl (T.1, 11, .inl rv.2.1)), ((x 4), .inl (T.1, 7, .inl rv.2.2))] A) A)) (cc := cX7_where) (maxL := 6) (ret := (some .int)) (by decide) rfl (Nat.le_of_ble_eq_true rfl) ?_
  intro p e s m below meth c A ls hx hb hr hml hts hown hlocks hnm hP hK hD hS hA hE hl
  have hown : s.vm.findClass RX7 = some m.cls := hown
  have hl : lv_has ls 6 [(0, .ref (x 0)), (1, .int p1), (2, .int p2)] := hl
  unfold f_X7_where at hM
  refine lv_iload_n hx hb dX7_where_0 rfl (lv_at hl 1 rfl) ?_
  refine lv_iconst (v := 0) hx hb dX7_where_1 (by decide) ?_
  refine lv_sipush (v := 200) hx hb dX7_where_2 (by decide) ?_
  refine xafti (rv := (f_X7_in p1 (0) (200))) (W2 := [((x 0), .inr (7, o7 x u_this)), ((x 2), .inl (T.1, 22, .inl u_this_told)), ((x 3), .inl (T.1, 11, .inl u_this_par)), ((x 4), .inl (T.1, 7, .inl u_this_try0))]) (va_runS (As := [.int p1, .int (0), .int (200)]) (rest := []) ⟨hx, hb, hml, hown, hts⟩ (c_X7_in (rv := (f_X7_in p1 (0) (200))) l D T p1 (0) (200) rfl) (cwS 3 hts gX7_where_X7_in rfl rfl rfl (by decide +kernel) ⟨Nat.le_of_ble_eq_true rfl, Nat.le_of_ble_eq_true rfl⟩) (xpvs hP hD hK [] (by decide) rfl (fun _ _ _ => trivial) (fun _ _ _ _ _ _ => trivial)) rfl rfl hl.1 rfl (lv_room (Nat.le_of_ble_eq_true rfl)) dX7_where_5 ⟨Nat.le_of_ble_eq_true rfl, Nat.le_of_ble_eq_true rfl⟩) hP hD hS hA [] rfl rfl rfl rfl (fun H locs hP hD hS => ?_)
  refine lv_if_eq (tgt := 20) hx hb dX7_where_8 (by decide) (fun c1 => ?_) (fun c1 => ?_)
  · have hM := xit c1 hM
    refine lv_iconst (v := (-1)) hx hb dX7_where_20 (by decide) ?_
    obtain rfl := Option.some.inj hM
    exact xreti hx hb hr hlocks hP hK hD hS dX7_where_21 rfl
  · have hM := xif c1 hM
    refine lv_iload_n hx hb dX7_where_11 rfl (lv_at hl 2 rfl) ?_
    refine lv_iconst (v := 0) hx hb dX7_where_12 (by decide) ?_
    refine lv_iconst (v := 1) hx hb dX7_where_13 (by decide) ?_
    refine xafti (rv := (f_X7_in p2 (0) (1))) (W2 := [((x 0), .inr (7, o7 x u_this)), ((x 2), .inl (T.1, 22, .inl u_this_told)), ((x 3), .inl (T.1, 11, .inl u_this_par)), ((x 4), .inl (T.1, 7, .inl u_this_try0))]) (va_runS (As := [.int p2, .int (0), .int (1)]) (rest := []) ⟨hx, hb, hml, hown, hts⟩ (c_X7_in (rv := (f_X7_in p2 (0) (1))) l D T p2 (0) (1) rfl) (cwS 3 hts gX7_where_X7_in rfl rfl rfl (by decide +kernel) ⟨Nat.le_of_ble_eq_true rfl, Nat.le_of_ble_eq_true rfl⟩) (xpvs hP hD hK [] (by decide) rfl (fun _ _ _ => trivial) (fun _ _ _ _ _ _ => trivial)) rfl rfl hl.1 rfl (lv_room (Nat.le_of_ble_eq_true rfl)) dX7_where_14 ⟨Nat.le_of_ble_eq_true rfl, Nat.le_of_ble_eq_true rfl⟩) hP hD hS hA [] rfl rfl rfl rfl (fun H locs hP hD hS => ?_)
    refine lv_if_ne (tgt := 22) hx hb dX7_where_17 (by decide) (fun c2 => ?_) (fun c2 => ?_)
    · have hM := xif c2 hM
      refine lv_bipush (v := (-9)) hx hb dX7_where_22 (by decide) ?_
      refine lv_istore_n (lv' := [(3, .int (-9)), (0, .ref (x 0)), (1, .int p1), (2, .int p2)]) hx hb dX7_where_24 rfl hl (by decide) rfl (fun ls hl => ?_)
      refine lv_iconst (v := 1) hx hb dX7_where_25 (by decide) ?_
      refine lv_istore (lv' := [(4, .int (1)), (3, .int (-9)), (0, .ref (x 0)), (1, .int p1), (2, .int p2)]) hx hb dX7_where_26 hl (by decide) rfl (fun ls hl => ?_)
      obtain ⟨v12, hM, hNv12⟩ := xbd hM
      have hQv12 := hM
      have Kv12 : ∀ (H : Heap) (locs : List Loc) (ls : Array Slot), va_P D vwCl [((x 0), .inr (7, o7 x u_this)), ((x 2), .inl (T.1, 22, .inl u_this_told)), ((x 3), .inl (T.1, 11, .inl v12.2.2.1)), ((x 4), .inl (T.1, 7, .inl v12.2.2.2))] H → va_D A [((x 0), .inr (7, o7 x u_this)), ((x 2), .inl (T.1, 22, .inl u_this_told)), ((x 3), .inl (T.1, 11, .inl v12.2.2.1)), ((x 4), .inl (T.1, 7, .inl v12.2.2.2))] → va_S A s.heap H locs → lv_has ls 6 [(3, .int v12.1)] → W p l e ({ frames := 6, cells := 0, slots := 0, locals := 131 } : Room) s m ([.ref (x 0), .int p1, .int p2] : List Value).toArray below meth c H locs 0 0 (MQ below (va_Qi (fun (r : Int32) (_ : Unit) => r = rv.1) (fun _ => xPost D T [((x 0), .inr (7, o7 x u_this)), ((x 2), .inl (T.1, 22, .inl u_this_told)), ((x 3), .inl (T.1, 11, .inl rv.2.1)), ((x 4), .inl (T.1, 7, .inl rv.2.2))] A) A) ([.ref (x 0), .int p1, .int p2] : List Value).toArray s 0 0 A) (F0 m 94 ls []) := by
        intro H locs ls hP hD hS hl
        have hM := hNv12
        refine lv_iload_n hx hb dX7_where_94 rfl (lv_at hl 0 rfl) ?_
        obtain rfl := Option.some.inj hM
        exact xreti hx hb hr hlocks hP hK hD hS dX7_where_95 rfl
      have Lv3 : ∀ (n : Nat) (v3 : Int32 × Int32 × (Nat → Int32) × (Nat → Int32)), xlp (s_X7_where_28 N u_this u_this_told p1 p2) n v3 = some v12 → ∀ (H : Heap) (locs : List Loc) (ls : Array Slot), va_P D vwCl [((x 0), .inr (7, o7 x u_this)), ((x 2), .inl (T.1, 22, .inl u_this_told)), ((x 3), .inl (T.1, 11, .inl v3.2.2.1)), ((x 4), .inl (T.1, 7, .inl v3.2.2.2))] H → va_D A [((x 0), .inr (7, o7 x u_this)), ((x 2), .inl (T.1, 22, .inl u_this_told)), ((x 3), .inl (T.1, 11, .inl v3.2.2.1)), ((x 4), .inl (T.1, 7, .inl v3.2.2.2))] → va_S A s.heap H locs → lv_has ls 6 [(0, .ref (x 0)), (1, .int p1), (2, .int p2), (3, .int v3.1), (4, .int v3.2.1)] → W p l e ({ frames := 6, cells := 0, slots := 0, locals := 131 } : Room) s m ([.ref (x 0), .int p1, .int p2] : List Value).toArray below meth c H locs 0 0 (MQ below (va_Qi (fun (r : Int32) (_ : Unit) => r = rv.1) (fun _ => xPost D T [((x 0), .inr (7, o7 x u_this)), ((x 2), .inl (T.1, 22, .inl u_this_told)), ((x 3), .inl (T.1, 11, .inl rv.2.1)), ((x 4), .inl (T.1, 7, .inl rv.2.2))] A) A) ([.ref (x 0), .int p1, .int p2] : List Value).toArray s 0 0 A) (F0 m 28 ls []) := by
        intro n
        induction n with
        | zero => exact fun _ h => (xlp_0 h).elim
        | succ n ih =>
          intro v3 hM H locs ls hP hD hS hl
          obtain ⟨z, hM, hz1, hz2⟩ := xlp_s hM
          unfold s_X7_where_28 at hM
          refine lv_iload hx hb dX7_where_28 (lv_at hl 4 rfl) ?_
          refine lv_bipush (v := 99) hx hb dX7_where_30 (by decide) ?_
          refine lv_icmp_gt (tgt := 94) hx hb dX7_where_32 (by decide) (fun c4 => ?_) (fun c4 => ?_)
          · have hM := xit c4 hM
            obtain rfl := hz2 _ (Option.some.inj hM).symm
            exact Kv12 _ _ _ hP hD hS (lv_sub hl [3] rfl)
          · have hM := xif c4 hM
            refine lv_aload_n hx hb dX7_where_35 rfl (lv_at hl 0 rfl) ?_
            obtain ⟨r5, er5, hM⟩ := xbd hM
            refine xaftv (W2 := [((x 0), .inr (7, o7 x u_this)), ((x 2), .inl (T.1, 22, .inl u_this_told)), ((x 3), .inl (T.1, 11, .inl r5)), ((x 4), .inl (T.1, 7, .inl v3.2.2.2))]) (va_runV (As := []) (rest := []) ⟨hx, hb, hml, hown, hts⟩ (c_X7_takeTold l D T x u_this u_this_told v3.2.2.1 er5) (cwV 0 hts gX7_where_X7_takeTold rfl rfl rfl (by decide +kernel) ⟨Nat.le_of_ble_eq_true rfl, Nat.le_of_ble_eq_true rfl⟩) (xpvv hP hD hK [0, 1, 2] (by decide) rfl 0 7 rfl rfl (fun _ _ _ => trivial) (fun _ _ _ _ _ _ => trivial)) rfl rfl hl.1 rfl (lv_room (Nat.le_of_ble_eq_true rfl)) dX7_where_36 ⟨Nat.le_of_ble_eq_true rfl, Nat.le_of_ble_eq_true rfl⟩) hP hD hS hA [0, 1, 2] rfl rfl rfl rfl (fun H locs hP hD hS => ?_)
            refine lv_aload_n hx hb dX7_where_39 rfl (lv_at hl 0 rfl) ?_
            refine va_get (D := D) (ci := 7) (v := .ref (x 3)) (C := RX7) (T := TX7) (N := 30) hx hb hts (fun w h => List.mem_cons_of_mem _ (List.mem_append_right _ h)) hown hK hP 0 rfl rfl 9 (by decide) (hts _ (List.mem_of_getElem? (i := 1) rfl)) (fun _ h9 => h9) rfl dX7_where_40 ?_
            refine lv_bipush (v := 6) hx hb dX7_where_43 (by decide) ?_
            refine lv_iload hx hb dX7_where_45 (lv_at hl 4 rfl) ?_
            refine xast hx hb hK hP hD hS 2 0 rfl rfl (xin_vp (by decide)) (show (6 : Int32).toNatClampNeg = 6 by decide) dX7_where_47 (fun H locs hP hD hS => ?_)
            have hP : va_P D vwCl [((x 0), .inr (7, o7 x u_this)), ((x 2), .inl (T.1, 22, .inl u_this_told)), ((x 3), .inl (T.1, 11, .inl (upd r5 (6) v3.2.1))), ((x 4), .inl (T.1, 7, .inl v3.2.2.2))] H := hP
            have hD : va_D A [((x 0), .inr (7, o7 x u_this)), ((x 2), .inl (T.1, 22, .inl u_this_told)), ((x 3), .inl (T.1, 11, .inl (upd r5 (6) v3.2.1))), ((x 4), .inl (T.1, 7, .inl v3.2.2.2))] := hD
            refine lv_aload_n hx hb dX7_where_48 rfl (lv_at hl 0 rfl) ?_
            refine lv_iconst (v := 0) hx hb dX7_where_49 (by decide) ?_
            refine lv_iconst (v := 0) hx hb dX7_where_50 (by decide) ?_
            obtain ⟨r6, er6, hM⟩ := xbd hM
            refine xafti (rv := r6.1) (W2 := [((x 0), .inr (7, o7 x u_this)), ((x 2), .inl (T.1, 22, .inl u_this_told)), ((x 3), .inl (T.1, 11, .inl (upd r5 (6) v3.2.1))), ((x 4), .inl (T.1, 7, .inl r6.2))]) (va_runV (As := [.int (0), .int (0)]) (rest := []) ⟨hx, hb, hml, hown, hts⟩ (c_X7_signBy l D T x u_this (upd r5 (6) v3.2.1) v3.2.2.2 (0) (0) er6) (cwV 2 hts gX7_where_X7_signBy rfl rfl rfl (by decide +kernel) ⟨Nat.le_of_ble_eq_true rfl, Nat.le_of_ble_eq_true rfl⟩) (xpvv hP hD hK [0, 2, 3] (by decide) rfl 0 7 rfl rfl (fun _ _ _ => trivial) (fun _ _ _ _ _ _ => trivial)) rfl rfl hl.1 rfl (lv_room (Nat.le_of_ble_eq_true rfl)) dX7_where_51 ⟨Nat.le_of_ble_eq_true rfl, Nat.le_of_ble_eq_true rfl⟩) hP hD hS hA [0, 2, 3] rfl rfl rfl rfl (fun H locs hP hD hS => ?_)
            refine lv_iload_n hx hb dX7_where_54 rfl (lv_at hl 1 rfl) ?_
            obtain ⟨v8, hM, hNv8⟩ := xbd hM
            have Kv8 : ∀ (H : Heap) (locs : List Loc) (ls : Array Slot), va_P D vwCl [((x 0), .inr (7, o7 x u_this)), ((x 2), .inl (T.1, 22, .inl u_this_told)), ((x 3), .inl (T.1, 11, .inl (upd r5 (6) v3.2.1))), ((x 4), .inl (T.1, 7, .inl r6.2))] H → va_D A [((x 0), .inr (7, o7 x u_this)), ((x 2), .inl (T.1, 22, .inl u_this_told)), ((x 3), .inl (T.1, 11, .inl (upd r5 (6) v3.2.1))), ((x 4), .inl (T.1, 7, .inl r6.2))] → va_S A s.heap H locs → lv_has ls 6 [(0, .ref (x 0)), (1, .int p1), (2, .int p2), (3, .int v3.1), (4, .int v3.2.1)] → W p l e ({ frames := 6, cells := 0, slots := 0, locals := 131 } : Room) s m ([.ref (x 0), .int p1, .int p2] : List Value).toArray below meth c H locs 0 0 (MQ below (va_Qi (fun (r : Int32) (_ : Unit) => r = rv.1) (fun _ => xPost D T [((x 0), .inr (7, o7 x u_this)), ((x 2), .inl (T.1, 22, .inl u_this_told)), ((x 3), .inl (T.1, 11, .inl rv.2.1)), ((x 4), .inl (T.1, 7, .inl rv.2.2))] A) A) ([.ref (x 0), .int p1, .int p2] : List Value).toArray s 0 0 A) (F0 m 63 ls [.int v8]) := by
              intro H locs ls hP hD hS hl
              have hM := hNv8
              refine lv_istore (lv' := [(5, .int v8), (0, .ref (x 0)), (1, .int p1), (2, .int p2), (3, .int v3.1), (4, .int v3.2.1)]) hx hb dX7_where_63 hl (by decide) rfl (fun ls hl => ?_)
              refine lv_iload hx hb dX7_where_65 (lv_at hl 0 rfl) ?_
              refine lv_if_eq (tgt := 86) hx hb dX7_where_67 (by decide) (fun c9 => ?_) (fun c9 => ?_)
              · have hM := xit c9 hM
                refine lv_iload_n hx hb dX7_where_86 rfl (lv_at hl 4 rfl) ?_
                refine lv_istore_n (lv' := [(3, .int v3.1), (5, .int v8), (0, .ref (x 0)), (1, .int p1), (2, .int p2), (4, .int v3.2.1)]) hx hb dX7_where_87 rfl hl (by decide) rfl (fun ls hl => ?_)
                refine lv_iinc (v := v3.2.1 + 1) (lv' := [(4, .int (v3.2.1 + 1)), (3, .int v3.1), (5, .int v8), (0, .ref (x 0)), (1, .int p1), (2, .int p2)]) hx hb dX7_where_88 hl (k := 5) rfl rfl (by decide) rfl (fun ls hl => ?_)
                refine lv_goto (tgt := 28) hx hb dX7_where_91 (by decide) ?_
                exact ih _ (hz1 _ (Option.some.inj hM).symm) _ _ _ hP hD hS (lv_sub hl [3, 4, 5, 1, 0] rfl)
              · have hM := xif c9 hM
                refine lv_iload_n hx hb dX7_where_70 rfl (lv_at hl 3 rfl) ?_
                refine lv_iconst (v := 1) hx hb dX7_where_71 (by decide) ?_
                refine lv_icmp_eq (tgt := 81) hx hb dX7_where_72 (by decide) (fun c10 => ?_) (fun c10 => ?_)
                · have hM := xit c10 hM
                  refine lv_iload hx hb dX7_where_81 (lv_at hl 5 rfl) ?_
                  refine lv_goto (tgt := 87) hx hb dX7_where_83 (by decide) ?_
                  refine lv_istore_n (lv' := [(3, .int v3.2.1), (5, .int v8), (0, .ref (x 0)), (1, .int p1), (2, .int p2), (4, .int v3.2.1)]) hx hb dX7_where_87 rfl hl (by decide) rfl (fun ls hl => ?_)
                  refine lv_iinc (v := v3.2.1 + 1) (lv' := [(4, .int (v3.2.1 + 1)), (3, .int v3.2.1), (5, .int v8), (0, .ref (x 0)), (1, .int p1), (2, .int p2)]) hx hb dX7_where_88 hl (k := 5) rfl rfl (by decide) rfl (fun ls hl => ?_)
                  refine lv_goto (tgt := 28) hx hb dX7_where_91 (by decide) ?_
                  exact ih _ (hz1 _ (Option.some.inj hM).symm) _ _ _ hP hD hS (lv_sub hl [3, 4, 5, 1, 0] rfl)
                · have hM := xif c10 hM
                  refine lv_iload_n hx hb dX7_where_75 rfl (lv_at hl 4 rfl) ?_
                  refine lv_bipush (v := (-9)) hx hb dX7_where_76 (by decide) ?_
                  refine lv_icmp_ne (tgt := 86) hx hb dX7_where_78 (by decide) (fun c11 => ?_) (fun c11 => ?_)
                  · have hM := xif c11 hM
                    refine lv_iload_n hx hb dX7_where_86 rfl (lv_at hl 4 rfl) ?_
                    refine lv_istore_n (lv' := [(3, .int v3.1), (5, .int v8), (0, .ref (x 0)), (1, .int p1), (2, .int p2), (4, .int v3.2.1)]) hx hb dX7_where_87 rfl hl (by decide) rfl (fun ls hl => ?_)
                    refine lv_iinc (v := v3.2.1 + 1) (lv' := [(4, .int (v3.2.1 + 1)), (3, .int v3.1), (5, .int v8), (0, .ref (x 0)), (1, .int p1), (2, .int p2)]) hx hb dX7_where_88 hl (k := 5) rfl rfl (by decide) rfl (fun ls hl => ?_)
                    refine lv_goto (tgt := 28) hx hb dX7_where_91 (by decide) ?_
                    exact ih _ (hz1 _ (Option.some.inj hM).symm) _ _ _ hP hD hS (lv_sub hl [3, 4, 5, 1, 0] rfl)
                  · have hM := xit c11 hM
                    refine lv_iload hx hb dX7_where_81 (lv_at hl 5 rfl) ?_
                    refine lv_goto (tgt := 87) hx hb dX7_where_83 (by decide) ?_
                    refine lv_istore_n (lv' := [(3, .int v3.2.1), (5, .int v8), (0, .ref (x 0)), (1, .int p1), (2, .int p2), (4, .int v3.2.1)]) hx hb dX7_where_87 rfl hl (by decide) rfl (fun ls hl => ?_)
                    refine lv_iinc (v := v3.2.1 + 1) (lv' := [(4, .int (v3.2.1 + 1)), (3, .int v3.2.1), (5, .int v8), (0, .ref (x 0)), (1, .int p1), (2, .int p2)]) hx hb dX7_where_88 hl (k := 5) rfl rfl (by decide) rfl (fun ls hl => ?_)
                    refine lv_goto (tgt := 28) hx hb dX7_where_91 (by decide) ?_
                    exact ih _ (hz1 _ (Option.some.inj hM).symm) _ _ _ hP hD hS (lv_sub hl [3, 4, 5, 1, 0] rfl)
            refine lv_icmp_ne (tgt := 62) hx hb dX7_where_55 (by decide) (fun c7 => ?_) (fun c7 => ?_)
            · have hM := xif c7 hM
              refine lv_iconst (v := 0) hx hb dX7_where_62 (by decide) ?_
              obtain rfl := Option.some.inj hM
              exact Kv8 _ _ _ hP hD hS (lv_sub hl [0, 1, 2, 3, 4] rfl)
            · have hM := xit c7 hM
              refine lv_iconst (v := 1) hx hb dX7_where_58 (by decide) ?_
              refine lv_goto (tgt := 63) hx hb dX7_where_59 (by decide) ?_
              obtain rfl := Option.some.inj hM
              exact Kv8 _ _ _ hP hD hS (lv_sub hl [0, 1, 2, 3, 4] rfl)
      exact Lv3 _ _ hM _ _ _ hP hD hS (lv_sub hl [2, 3, 4, 1, 0] rfl)
    · have hM := xit c2 hM
      refine lv_iconst (v := (-1)) hx hb dX7_where_20 (by decide) ?_
      obtain rfl := Option.some.inj hM
      exact xreti hx hb hr hlocks hP hK hD hS dX7_where_21 rfl
