/-! laid by wip/whole/gen.py out of the decode rows: functional readings and contracts -/
def s_X5_look_14 (u_this : K5) (u_this_springs : (Nat → Int32)) (u_this_summers : (Nat → Int32)) (v1 : Int64 × Int64 × Int64 × Int64 × Int32) : Option ((Int64 × Int64 × Int64 × Int64 × Int32) ⊕ (Int64 × Int64 × Int64 × Int64 × Int32)) :=
  if u_this ≤ v1.2.2.2.2 then
   (some (.inr (v1.1, v1.2.1, v1.2.2.1, v1.2.2.2.1, v1.2.2.2.2)))
  else
   (if xin v1.2.2.2.2 20 = true then
    (some (.inl ((v1.1 + ((u_this_springs v1.2.2.2.2.toNatClampNeg).toInt64)), (v1.2.1 + ((u_this_summers v1.2.2.2.2.toNatClampNeg).toInt64)), (v1.2.2.1 + (((u_this_springs v1.2.2.2.2.toNatClampNeg) * (u_this_springs v1.2.2.2.2.toNatClampNeg)).toInt64)), (v1.2.2.2.1 + (((u_this_springs v1.2.2.2.2.toNatClampNeg) * (u_this_summers v1.2.2.2.2.toNatClampNeg)).toInt64)), v1.2.2.2.2 + 1)))
    else none)
def f_X5_look (N : Nat) (u_this : K5) (u_this_springs : (Nat → Int32)) (u_this_summers : (Nat → Int32)) (p1 : Int32) (p2 : Int32) : Option (Int64) :=
  (xlp (s_X5_look_14 u_this u_this_springs u_this_summers) N (0, 0, 0, 0, 0)).bind fun v4 =>
  if (0) < (lg_cmp ((u_this.toInt64 * v4.2.2.1) - (v4.1 * v4.1)) (0)) then
   (if (2) ≤ p2 then
     (((if p2 = (2) then
         (some (1))
        else
         (some (0)) : Option (Int32))).bind fun v8 =>
      (f_X6_leastTerms N ((v4.2.1 * ((u_this.toInt64 * v4.2.2.1) - (v4.1 * v4.1))) + (((u_this.toInt64 * v4.2.2.2.1) - (v4.1 * v4.2.1)) * (((u_this * p1).toInt64) - v4.1))) (u_this.toInt64 * ((u_this.toInt64 * v4.2.2.1) - (v4.1 * v4.1))) v8).bind fun r9 =>
      some r9)
    else
     (((if p2 = (0) then
         (some (1))
        else
         (some (0)) : Option (Int32))).bind fun v11 =>
      (f_X6_leastTerms N ((u_this.toInt64 * v4.2.2.2.1) - (v4.1 * v4.2.1)) ((u_this.toInt64 * v4.2.2.1) - (v4.1 * v4.1)) v11).bind fun r12 =>
      some r12))
  else
   (some (-1000000000000000000))
set_option maxHeartbeats 4000000 in
set_option maxRecDepth 100000 in
theorem c_X5_look (l : Launch) (D : va_G) (T : xT) (k : xK) (h_this h_this_springs h_this_summers : Nat) {sz : Nat} {N : Nat} (u_this : K5) (u_this_springs : (Nat → Int32)) (u_this_summers : (Nat → Int32)) (p1 : Int32) (p2 : Int32) {rv : Int64} (hM : f_X5_look N u_this u_this_springs u_this_summers p1 p2 = some rv) : Met l yX5_look wsX5_look ({ frames := 2, cells := 0, slots := 0, locals := 56 } : Room) (va_Pc [.ref h_this, .int p1, .int p2] (xPre D T [(h_this, .inr (5, o5 h_this_springs h_this_summers u_this)), (h_this_springs, .inl (T.1, 20, .inl u_this_springs)), (h_this_summers, .inl (T.1, 20, .inl u_this_summers))] sz (xE1 k))) (va_Ql (fun (r : Int64) (_ : Unit) => r = rv) (fun _ => xPost D T [(h_this, .inr (5, o5 h_this_springs h_this_summers u_this)), (h_this_springs, .inl (T.1, 20, .inl u_this_springs)), (h_this_summers, .inl (T.1, 20, .inl u_this_summers))] (va_A [(h_this, .inr (5, o5 h_this_springs h_this_summers u_this)), (h_this_springs, .inl (T.1, 20, .inl u_this_springs)), (h_this_summers, .inl (T.1, 20, .inl u_this_summers))] sz)) (va_A [(h_this, .inr (5, o5 h_this_springs h_this_summers u_this)), (h_this_springs, .inl (T.1, 20, .inl u_this_springs)), (h_this_summers, .inl (T.1, 20, .inl u_this_summers))] sz)) 0 0 (va_A [(h_this, .inr (5, o5 h_this_springs h_this_summers u_this)), (h_this_springs, .inl (T.1, 20, .inl u_this_springs)), (h_this_summers, .inl (T.1, 20, .inl u_this_summers))] sz) := by
  refine xMet (av := [.ref h_this, .int p1, .int p2]) (Wd := [(h_this, .inr (5, o5 h_this_springs h_this_summers u_this)), (h_this_springs, .inl (T.1, 20, .inl u_this_springs)), (h_this_summers, .inl (T.1, 20, .inl u_this_summers))]) (E := (xE1 k)) (Qc := fun A => (va_Ql (fun (r : Int64) (_ : Unit) => r = rv) (fun _ => xPost D T [(h_this, .inr (5, o5 h_this_springs h_this_summers u_this)), (h_this_springs, .inl (T.1, 20, .inl u_this_springs)), (h_this_summers, .inl (T.1, 20, .inl u_this_summers))] A) A)) (cc := cX5_look) (maxL := 15) (ret := (some .long)) (by decide) rfl (Nat.le_of_ble_eq_true rfl) ?_
  intro p e s m below meth c A ls hx hb hr hml hts hown hlocks hnm hP hK hD hS hA hE hl
  have hown : s.vm.findClass RX5 = some m.cls := hown
  have hl : lv_has ls 15 [(0, .ref h_this), (1, .int p1), (2, .int p2)] := hl
  unfold f_X5_look at hM
  refine lv_lconst (v := 0) hx hb dX5_look_0 (by decide) ?_
  refine lv_lstore_n (lv' := [(3, .long (0)), (0, .ref h_this), (1, .int p1), (2, .int p2)]) hx hb dX5_look_1 rfl hl (by decide) rfl (fun ls hl => ?_)
  refine lv_lconst (v := 0) hx hb dX5_look_2 (by decide) ?_
  refine lv_lstore (lv' := [(5, .long (0)), (3, .long (0)), (0, .ref h_this), (1, .int p1), (2, .int p2)]) hx hb dX5_look_3 hl (by decide) rfl (fun ls hl => ?_)
  refine lv_lconst (v := 0) hx hb dX5_look_5 (by decide) ?_
  refine lv_lstore (lv' := [(7, .long (0)), (5, .long (0)), (3, .long (0)), (0, .ref h_this), (1, .int p1), (2, .int p2)]) hx hb dX5_look_6 hl (by decide) rfl (fun ls hl => ?_)
  refine lv_lconst (v := 0) hx hb dX5_look_8 (by decide) ?_
  refine lv_lstore (lv' := [(9, .long (0)), (7, .long (0)), (5, .long (0)), (3, .long (0)), (0, .ref h_this), (1, .int p1), (2, .int p2)]) hx hb dX5_look_9 hl (by decide) rfl (fun ls hl => ?_)
  refine lv_iconst (v := 0) hx hb dX5_look_11 (by decide) ?_
  refine lv_istore (lv' := [(11, .int (0)), (9, .long (0)), (7, .long (0)), (5, .long (0)), (3, .long (0)), (0, .ref h_this), (1, .int p1), (2, .int p2)]) hx hb dX5_look_12 hl (by decide) rfl (fun ls hl => ?_)
  obtain ⟨v4, hM, hNv4⟩ := xbd hM
  have hQv4 := hM
  have Kv4 : ∀ (H : Heap) (locs : List Loc) (ls : Array Slot), va_P D vwCl [(h_this, .inr (5, o5 h_this_springs h_this_summers u_this)), (h_this_springs, .inl (T.1, 20, .inl u_this_springs)), (h_this_summers, .inl (T.1, 20, .inl u_this_summers))] H → va_D A [(h_this, .inr (5, o5 h_this_springs h_this_summers u_this)), (h_this_springs, .inl (T.1, 20, .inl u_this_springs)), (h_this_summers, .inl (T.1, 20, .inl u_this_summers))] → va_S A s.heap H locs → lv_has ls 15 [(0, .ref h_this), (1, .int p1), (2, .int p2), (3, .long v4.1), (5, .long v4.2.1), (7, .long v4.2.2.1), (9, .long v4.2.2.2.1)] → W p l e ({ frames := 2, cells := 0, slots := 0, locals := 56 } : Room) s m ([.ref h_this, .int p1, .int p2] : List Value).toArray below meth c H locs 0 0 (MQ below (va_Ql (fun (r : Int64) (_ : Unit) => r = rv) (fun _ => xPost D T [(h_this, .inr (5, o5 h_this_springs h_this_summers u_this)), (h_this_springs, .inl (T.1, 20, .inl u_this_springs)), (h_this_summers, .inl (T.1, 20, .inl u_this_summers))] A) A) ([.ref h_this, .int p1, .int p2] : List Value).toArray s 0 0 A) (F0 m 95 ls []) := by
    intro H locs ls hP hD hS hl
    have hM := hNv4
    refine lv_aload_n hx hb dX5_look_95 rfl (lv_at hl 0 rfl) ?_
    refine va_get (D := D) (ci := 5) (v := .int u_this) (C := RX5) (T := TX5) (N := 3) hx hb hts (fun w h => List.mem_cons_of_mem _ (List.mem_append_right _ h)) hown hK hP 0 rfl rfl 2 (by decide) (hts _ (List.mem_of_getElem? (i := 1) rfl)) (fun _ h9 => h9) rfl dX5_look_96 ?_
    refine lv_i2l (v := u_this.toInt64) hx hb dX5_look_99 rfl ?_
    refine lv_lload hx hb dX5_look_100 (lv_at hl 5 rfl) ?_
    refine lv_lmul hx hb dX5_look_102 ?_
    refine lv_lload_n hx hb dX5_look_103 rfl (lv_at hl 3 rfl) ?_
    refine lv_lload_n hx hb dX5_look_104 rfl (lv_at hl 3 rfl) ?_
    refine lv_lmul hx hb dX5_look_105 ?_
    refine lv_lsub hx hb dX5_look_106 ?_
    refine lv_lstore (lv' := [(11, .long ((u_this.toInt64 * v4.2.2.1) - (v4.1 * v4.1))), (0, .ref h_this), (1, .int p1), (2, .int p2), (3, .long v4.1), (5, .long v4.2.1), (7, .long v4.2.2.1), (9, .long v4.2.2.2.1)]) hx hb dX5_look_107 hl (by decide) rfl (fun ls hl => ?_)
    refine lv_aload_n hx hb dX5_look_109 rfl (lv_at hl 1 rfl) ?_
    refine va_get (D := D) (ci := 5) (v := .int u_this) (C := RX5) (T := TX5) (N := 3) hx hb hts (fun w h => List.mem_cons_of_mem _ (List.mem_append_right _ h)) hown hK hP 0 rfl rfl 2 (by decide) (hts _ (List.mem_of_getElem? (i := 1) rfl)) (fun _ h9 => h9) rfl dX5_look_110 ?_
    refine lv_i2l (v := u_this.toInt64) hx hb dX5_look_113 rfl ?_
    refine lv_lload hx hb dX5_look_114 (lv_at hl 7 rfl) ?_
    refine lv_lmul hx hb dX5_look_116 ?_
    refine lv_lload_n hx hb dX5_look_117 rfl (lv_at hl 4 rfl) ?_
    refine lv_lload hx hb dX5_look_118 (lv_at hl 5 rfl) ?_
    refine lv_lmul hx hb dX5_look_120 ?_
    refine lv_lsub hx hb dX5_look_121 ?_
    refine lv_lstore (lv' := [(13, .long ((u_this.toInt64 * v4.2.2.2.1) - (v4.1 * v4.2.1))), (11, .long ((u_this.toInt64 * v4.2.2.1) - (v4.1 * v4.1))), (0, .ref h_this), (1, .int p1), (2, .int p2), (3, .long v4.1), (5, .long v4.2.1), (7, .long v4.2.2.1), (9, .long v4.2.2.2.1)]) hx hb dX5_look_122 hl (by decide) rfl (fun ls hl => ?_)
    refine lv_lload hx hb dX5_look_124 (lv_at hl 1 rfl) ?_
    refine lv_lconst (v := 0) hx hb dX5_look_126 (by decide) ?_
    refine W.lcmp hx hb dX5_look_127 ?_
    refine lv_if_gt (tgt := 135) hx hb dX5_look_128 (by decide) (fun c5 => ?_) (fun c5 => ?_)
    · have hM := xit c5 hM
      refine lv_iload_n hx hb dX5_look_135 rfl (lv_at hl 4 rfl) ?_
      refine lv_iconst (v := 2) hx hb dX5_look_136 (by decide) ?_
      refine lv_icmp_ge (tgt := 157) hx hb dX5_look_137 (by decide) (fun c6 => ?_) (fun c6 => ?_)
      · have hM := xit c6 hM
        refine lv_lload hx hb dX5_look_157 (lv_at hl 6 rfl) ?_
        refine lv_lload hx hb dX5_look_159 (lv_at hl 1 rfl) ?_
        refine lv_lmul hx hb dX5_look_161 ?_
        refine lv_lload hx hb dX5_look_162 (lv_at hl 0 rfl) ?_
        refine lv_aload_n hx hb dX5_look_164 rfl (lv_at hl 2 rfl) ?_
        refine va_get (D := D) (ci := 5) (v := .int u_this) (C := RX5) (T := TX5) (N := 3) hx hb hts (fun w h => List.mem_cons_of_mem _ (List.mem_append_right _ h)) hown hK hP 0 rfl rfl 2 (by decide) (hts _ (List.mem_of_getElem? (i := 1) rfl)) (fun _ h9 => h9) rfl dX5_look_165 ?_
        refine lv_iload_n hx hb dX5_look_168 rfl (lv_at hl 3 rfl) ?_
        refine lv_imul hx hb dX5_look_169 ?_
        refine lv_i2l (v := (u_this * p1).toInt64) hx hb dX5_look_170 rfl ?_
        refine lv_lload_n hx hb dX5_look_171 rfl (lv_at hl 5 rfl) ?_
        refine lv_lsub hx hb dX5_look_172 ?_
        refine lv_lmul hx hb dX5_look_173 ?_
        refine lv_ladd hx hb dX5_look_174 ?_
        refine lv_aload_n hx hb dX5_look_175 rfl (lv_at hl 2 rfl) ?_
        refine va_get (D := D) (ci := 5) (v := .int u_this) (C := RX5) (T := TX5) (N := 3) hx hb hts (fun w h => List.mem_cons_of_mem _ (List.mem_append_right _ h)) hown hK hP 0 rfl rfl 2 (by decide) (hts _ (List.mem_of_getElem? (i := 1) rfl)) (fun _ h9 => h9) rfl dX5_look_176 ?_
        refine lv_i2l (v := u_this.toInt64) hx hb dX5_look_179 rfl ?_
        refine lv_lload hx hb dX5_look_180 (lv_at hl 1 rfl) ?_
        refine lv_lmul hx hb dX5_look_182 ?_
        refine lv_iload_n hx hb dX5_look_183 rfl (lv_at hl 4 rfl) ?_
        refine lv_iconst (v := 2) hx hb dX5_look_184 (by decide) ?_
        obtain ⟨v8, hM, hNv8⟩ := xbd hM
        have Kv8 : ∀ (H : Heap) (locs : List Loc) (ls : Array Slot), va_P D vwCl [(h_this, .inr (5, o5 h_this_springs h_this_summers u_this)), (h_this_springs, .inl (T.1, 20, .inl u_this_springs)), (h_this_summers, .inl (T.1, 20, .inl u_this_summers))] H → va_D A [(h_this, .inr (5, o5 h_this_springs h_this_summers u_this)), (h_this_springs, .inl (T.1, 20, .inl u_this_springs)), (h_this_summers, .inl (T.1, 20, .inl u_this_summers))] → va_S A s.heap H locs → lv_has ls 15 [] → W p l e ({ frames := 2, cells := 0, slots := 0, locals := 56 } : Room) s m ([.ref h_this, .int p1, .int p2] : List Value).toArray below meth c H locs 0 0 (MQ below (va_Ql (fun (r : Int64) (_ : Unit) => r = rv) (fun _ => xPost D T [(h_this, .inr (5, o5 h_this_springs h_this_summers u_this)), (h_this_springs, .inl (T.1, 20, .inl u_this_springs)), (h_this_summers, .inl (T.1, 20, .inl u_this_summers))] A) A) ([.ref h_this, .int p1, .int p2] : List Value).toArray s 0 0 A) (F0 m 193 ls [.int v8, .long (u_this.toInt64 * ((u_this.toInt64 * v4.2.2.1) - (v4.1 * v4.1))), .long ((v4.2.1 * ((u_this.toInt64 * v4.2.2.1) - (v4.1 * v4.1))) + (((u_this.toInt64 * v4.2.2.2.1) - (v4.1 * v4.2.1)) * (((u_this * p1).toInt64) - v4.1)))]) := by
          intro H locs ls hP hD hS hl
          have hM := hNv8
          obtain ⟨r9, er9, hM⟩ := xbd hM
          refine xaftl (rv := r9) (W2 := [(h_this, .inr (5, o5 h_this_springs h_this_summers u_this)), (h_this_springs, .inl (T.1, 20, .inl u_this_springs)), (h_this_summers, .inl (T.1, 20, .inl u_this_summers))]) (va_runSN (As := [.long ((v4.2.1 * ((u_this.toInt64 * v4.2.2.1) - (v4.1 * v4.1))) + (((u_this.toInt64 * v4.2.2.2.1) - (v4.1 * v4.2.1)) * (((u_this * p1).toInt64) - v4.1))), .long (u_this.toInt64 * ((u_this.toInt64 * v4.2.2.1) - (v4.1 * v4.1))), .int v8]) (rest := []) ⟨hx, hb, hml, hown, hts⟩ (c_X6_leastTerms l D T ((v4.2.1 * ((u_this.toInt64 * v4.2.2.1) - (v4.1 * v4.1))) + (((u_this.toInt64 * v4.2.2.2.1) - (v4.1 * v4.2.1)) * (((u_this * p1).toInt64) - v4.1))) (u_this.toInt64 * ((u_this.toInt64 * v4.2.2.1) - (v4.1 * v4.1))) v8 er9) ⟨va_cnB 3 hts gX5_look_X6_leastTerms_n24 rfl rfl rfl (xE1_lt hE) (hts _ (List.mem_of_getElem? (i := 6) rfl)) (by decide +kernel) ⟨Nat.le_of_ble_eq_true rfl, Nat.le_of_ble_eq_true rfl⟩, (hts _ (List.mem_of_getElem? (i := 5) rfl)), trivial⟩ (xpvs hP hD hK [] (by decide) rfl (fun _ _ _ => trivial) (fun _ _ _ _ _ _ => trivial)) rfl rfl hl.1 rfl (lv_room (Nat.le_of_ble_eq_true rfl)) dX5_look_193 ⟨Nat.le_of_ble_eq_true rfl, Nat.le_of_ble_eq_true rfl⟩) hP hD hS hA [] rfl rfl rfl rfl (fun H locs hP hD hS => ?_)
          obtain rfl := Option.some.inj hM
          exact xretl hx hb hr hlocks hP hK hD hS dX5_look_196 rfl
        refine lv_icmp_ne (tgt := 192) hx hb dX5_look_185 (by decide) (fun c7 => ?_) (fun c7 => ?_)
        · have hM := xif c7 hM
          refine lv_iconst (v := 0) hx hb dX5_look_192 (by decide) ?_
          obtain rfl := Option.some.inj hM
          exact Kv8 _ _ _ hP hD hS (lv_sub hl [] rfl)
        · have hM := xit c7 hM
          refine lv_iconst (v := 1) hx hb dX5_look_188 (by decide) ?_
          refine lv_goto (tgt := 193) hx hb dX5_look_189 (by decide) ?_
          obtain rfl := Option.some.inj hM
          exact Kv8 _ _ _ hP hD hS (lv_sub hl [] rfl)
      · have hM := xif c6 hM
        refine lv_lload hx hb dX5_look_140 (lv_at hl 0 rfl) ?_
        refine lv_lload hx hb dX5_look_142 (lv_at hl 1 rfl) ?_
        refine lv_iload_n hx hb dX5_look_144 rfl (lv_at hl 4 rfl) ?_
        obtain ⟨v11, hM, hNv11⟩ := xbd hM
        have Kv11 : ∀ (H : Heap) (locs : List Loc) (ls : Array Slot), va_P D vwCl [(h_this, .inr (5, o5 h_this_springs h_this_summers u_this)), (h_this_springs, .inl (T.1, 20, .inl u_this_springs)), (h_this_summers, .inl (T.1, 20, .inl u_this_summers))] H → va_D A [(h_this, .inr (5, o5 h_this_springs h_this_summers u_this)), (h_this_springs, .inl (T.1, 20, .inl u_this_springs)), (h_this_summers, .inl (T.1, 20, .inl u_this_summers))] → va_S A s.heap H locs → lv_has ls 15 [] → W p l e ({ frames := 2, cells := 0, slots := 0, locals := 56 } : Room) s m ([.ref h_this, .int p1, .int p2] : List Value).toArray below meth c H locs 0 0 (MQ below (va_Ql (fun (r : Int64) (_ : Unit) => r = rv) (fun _ => xPost D T [(h_this, .inr (5, o5 h_this_springs h_this_summers u_this)), (h_this_springs, .inl (T.1, 20, .inl u_this_springs)), (h_this_summers, .inl (T.1, 20, .inl u_this_summers))] A) A) ([.ref h_this, .int p1, .int p2] : List Value).toArray s 0 0 A) (F0 m 153 ls [.int v11, .long ((u_this.toInt64 * v4.2.2.1) - (v4.1 * v4.1)), .long ((u_this.toInt64 * v4.2.2.2.1) - (v4.1 * v4.2.1))]) := by
          intro H locs ls hP hD hS hl
          have hM := hNv11
          obtain ⟨r12, er12, hM⟩ := xbd hM
          refine xaftl (rv := r12) (W2 := [(h_this, .inr (5, o5 h_this_springs h_this_summers u_this)), (h_this_springs, .inl (T.1, 20, .inl u_this_springs)), (h_this_summers, .inl (T.1, 20, .inl u_this_summers))]) (va_runSN (As := [.long ((u_this.toInt64 * v4.2.2.2.1) - (v4.1 * v4.2.1)), .long ((u_this.toInt64 * v4.2.2.1) - (v4.1 * v4.1)), .int v11]) (rest := []) ⟨hx, hb, hml, hown, hts⟩ (c_X6_leastTerms l D T ((u_this.toInt64 * v4.2.2.2.1) - (v4.1 * v4.2.1)) ((u_this.toInt64 * v4.2.2.1) - (v4.1 * v4.1)) v11 er12) ⟨va_cnB 3 hts gX5_look_X6_leastTerms_n24 rfl rfl rfl (xE1_lt hE) (hts _ (List.mem_of_getElem? (i := 6) rfl)) (by decide +kernel) ⟨Nat.le_of_ble_eq_true rfl, Nat.le_of_ble_eq_true rfl⟩, (hts _ (List.mem_of_getElem? (i := 5) rfl)), trivial⟩ (xpvs hP hD hK [] (by decide) rfl (fun _ _ _ => trivial) (fun _ _ _ _ _ _ => trivial)) rfl rfl hl.1 rfl (lv_room (Nat.le_of_ble_eq_true rfl)) dX5_look_153 ⟨Nat.le_of_ble_eq_true rfl, Nat.le_of_ble_eq_true rfl⟩) hP hD hS hA [] rfl rfl rfl rfl (fun H locs hP hD hS => ?_)
          obtain rfl := Option.some.inj hM
          exact xretl hx hb hr hlocks hP hK hD hS dX5_look_156 rfl
        refine lv_if_ne (tgt := 152) hx hb dX5_look_145 (by decide) (fun c10 => ?_) (fun c10 => ?_)
        · have hM := xif c10 hM
          refine lv_iconst (v := 0) hx hb dX5_look_152 (by decide) ?_
          obtain rfl := Option.some.inj hM
          exact Kv11 _ _ _ hP hD hS (lv_sub hl [] rfl)
        · have hM := xit c10 hM
          refine lv_iconst (v := 1) hx hb dX5_look_148 (by decide) ?_
          refine lv_goto (tgt := 153) hx hb dX5_look_149 (by decide) ?_
          obtain rfl := Option.some.inj hM
          exact Kv11 _ _ _ hP hD hS (lv_sub hl [] rfl)
    · have hM := xif c5 hM
      refine lv_ldc2 (v := (-1000000000000000000)) hx hb hown (hts _ (List.mem_of_getElem? (i := 4) rfl)) dX5_look_131 ?_
      obtain rfl := Option.some.inj hM
      exact xretl hx hb hr hlocks hP hK hD hS dX5_look_134 rfl
  have Lv1 : ∀ (n : Nat) (v1 : Int64 × Int64 × Int64 × Int64 × Int32), xlp (s_X5_look_14 u_this u_this_springs u_this_summers) n v1 = some v4 → ∀ (H : Heap) (locs : List Loc) (ls : Array Slot), va_P D vwCl [(h_this, .inr (5, o5 h_this_springs h_this_summers u_this)), (h_this_springs, .inl (T.1, 20, .inl u_this_springs)), (h_this_summers, .inl (T.1, 20, .inl u_this_summers))] H → va_D A [(h_this, .inr (5, o5 h_this_springs h_this_summers u_this)), (h_this_springs, .inl (T.1, 20, .inl u_this_springs)), (h_this_summers, .inl (T.1, 20, .inl u_this_summers))] → va_S A s.heap H locs → lv_has ls 15 [(0, .ref h_this), (1, .int p1), (2, .int p2), (3, .long v1.1), (5, .long v1.2.1), (7, .long v1.2.2.1), (9, .long v1.2.2.2.1), (11, .int v1.2.2.2.2)] → W p l e ({ frames := 2, cells := 0, slots := 0, locals := 56 } : Room) s m ([.ref h_this, .int p1, .int p2] : List Value).toArray below meth c H locs 0 0 (MQ below (va_Ql (fun (r : Int64) (_ : Unit) => r = rv) (fun _ => xPost D T [(h_this, .inr (5, o5 h_this_springs h_this_summers u_this)), (h_this_springs, .inl (T.1, 20, .inl u_this_springs)), (h_this_summers, .inl (T.1, 20, .inl u_this_summers))] A) A) ([.ref h_this, .int p1, .int p2] : List Value).toArray s 0 0 A) (F0 m 14 ls []) := by
    intro n
    induction n with
    | zero => exact fun _ h => (xlp_0 h).elim
    | succ n ih =>
      intro v1 hM H locs ls hP hD hS hl
      obtain ⟨z, hM, hz1, hz2⟩ := xlp_s hM
      unfold s_X5_look_14 at hM
      refine lv_iload hx hb dX5_look_14 (lv_at hl 7 rfl) ?_
      refine lv_aload_n hx hb dX5_look_16 rfl (lv_at hl 0 rfl) ?_
      refine va_get (D := D) (ci := 5) (v := .int u_this) (C := RX5) (T := TX5) (N := 3) hx hb hts (fun w h => List.mem_cons_of_mem _ (List.mem_append_right _ h)) hown hK hP 0 rfl rfl 2 (by decide) (hts _ (List.mem_of_getElem? (i := 1) rfl)) (fun _ h9 => h9) rfl dX5_look_17 ?_
      refine lv_icmp_ge (tgt := 95) hx hb dX5_look_20 (by decide) (fun c2 => ?_) (fun c2 => ?_)
      · have hM := xit c2 hM
        obtain rfl := hz2 _ (Option.some.inj hM).symm
        exact Kv4 _ _ _ hP hD hS (lv_sub hl [0, 1, 2, 3, 4, 5, 6] rfl)
      · have hM := xif c2 hM
        refine lv_lload_n hx hb dX5_look_23 rfl (lv_at hl 3 rfl) ?_
        refine lv_aload_n hx hb dX5_look_24 rfl (lv_at hl 0 rfl) ?_
        refine va_get (D := D) (ci := 5) (v := .ref h_this_springs) (C := RX5) (T := TX5) (N := 3) hx hb hts (fun w h => List.mem_cons_of_mem _ (List.mem_append_right _ h)) hown hK hP 0 rfl rfl 0 (by decide) (hts _ (List.mem_of_getElem? (i := 2) rfl)) (fun _ h9 => h9) rfl dX5_look_25 ?_
        refine lv_iload hx hb dX5_look_28 (lv_at hl 7 rfl) ?_
        obtain ⟨g3, hM⟩ := xck hM
        refine xald (v := (u_this_springs v1.2.2.2.2.toNatClampNeg)) hx hb hK hP 1 0 rfl rfl g3 rfl dX5_look_30 ?_
        refine lv_i2l (v := (u_this_springs v1.2.2.2.2.toNatClampNeg).toInt64) hx hb dX5_look_31 rfl ?_
        refine lv_ladd hx hb dX5_look_32 ?_
        refine lv_lstore_n (lv' := [(3, .long (v1.1 + ((u_this_springs v1.2.2.2.2.toNatClampNeg).toInt64))), (0, .ref h_this), (1, .int p1), (2, .int p2), (5, .long v1.2.1), (7, .long v1.2.2.1), (9, .long v1.2.2.2.1), (11, .int v1.2.2.2.2)]) hx hb dX5_look_33 rfl hl (by decide) rfl (fun ls hl => ?_)
        refine lv_lload hx hb dX5_look_34 (lv_at hl 4 rfl) ?_
        refine lv_aload_n hx hb dX5_look_36 rfl (lv_at hl 1 rfl) ?_
        refine va_get (D := D) (ci := 5) (v := .ref h_this_summers) (C := RX5) (T := TX5) (N := 3) hx hb hts (fun w h => List.mem_cons_of_mem _ (List.mem_append_right _ h)) hown hK hP 0 rfl rfl 1 (by decide) (hts _ (List.mem_of_getElem? (i := 3) rfl)) (fun _ h9 => h9) rfl dX5_look_37 ?_
        refine lv_iload hx hb dX5_look_40 (lv_at hl 7 rfl) ?_
        refine xald (v := (u_this_summers v1.2.2.2.2.toNatClampNeg)) hx hb hK hP 2 0 rfl rfl g3 rfl dX5_look_42 ?_
        refine lv_i2l (v := (u_this_summers v1.2.2.2.2.toNatClampNeg).toInt64) hx hb dX5_look_43 rfl ?_
        refine lv_ladd hx hb dX5_look_44 ?_
        refine lv_lstore (lv' := [(5, .long (v1.2.1 + ((u_this_summers v1.2.2.2.2.toNatClampNeg).toInt64))), (3, .long (v1.1 + ((u_this_springs v1.2.2.2.2.toNatClampNeg).toInt64))), (0, .ref h_this), (1, .int p1), (2, .int p2), (7, .long v1.2.2.1), (9, .long v1.2.2.2.1), (11, .int v1.2.2.2.2)]) hx hb dX5_look_45 hl (by decide) rfl (fun ls hl => ?_)
        refine lv_lload hx hb dX5_look_47 (lv_at hl 5 rfl) ?_
        refine lv_aload_n hx hb dX5_look_49 rfl (lv_at hl 2 rfl) ?_
        refine va_get (D := D) (ci := 5) (v := .ref h_this_springs) (C := RX5) (T := TX5) (N := 3) hx hb hts (fun w h => List.mem_cons_of_mem _ (List.mem_append_right _ h)) hown hK hP 0 rfl rfl 0 (by decide) (hts _ (List.mem_of_getElem? (i := 2) rfl)) (fun _ h9 => h9) rfl dX5_look_50 ?_
        refine lv_iload hx hb dX5_look_53 (lv_at hl 7 rfl) ?_
        refine xald (v := (u_this_springs v1.2.2.2.2.toNatClampNeg)) hx hb hK hP 1 0 rfl rfl g3 rfl dX5_look_55 ?_
        refine lv_aload_n hx hb dX5_look_56 rfl (lv_at hl 2 rfl) ?_
        refine va_get (D := D) (ci := 5) (v := .ref h_this_springs) (C := RX5) (T := TX5) (N := 3) hx hb hts (fun w h => List.mem_cons_of_mem _ (List.mem_append_right _ h)) hown hK hP 0 rfl rfl 0 (by decide) (hts _ (List.mem_of_getElem? (i := 2) rfl)) (fun _ h9 => h9) rfl dX5_look_57 ?_
        refine lv_iload hx hb dX5_look_60 (lv_at hl 7 rfl) ?_
        refine xald (v := (u_this_springs v1.2.2.2.2.toNatClampNeg)) hx hb hK hP 1 0 rfl rfl g3 rfl dX5_look_62 ?_
        refine lv_imul hx hb dX5_look_63 ?_
        refine lv_i2l (v := ((u_this_springs v1.2.2.2.2.toNatClampNeg) * (u_this_springs v1.2.2.2.2.toNatClampNeg)).toInt64) hx hb dX5_look_64 rfl ?_
        refine lv_ladd hx hb dX5_look_65 ?_
        refine lv_lstore (lv' := [(7, .long (v1.2.2.1 + (((u_this_springs v1.2.2.2.2.toNatClampNeg) * (u_this_springs v1.2.2.2.2.toNatClampNeg)).toInt64))), (5, .long (v1.2.1 + ((u_this_summers v1.2.2.2.2.toNatClampNeg).toInt64))), (3, .long (v1.1 + ((u_this_springs v1.2.2.2.2.toNatClampNeg).toInt64))), (0, .ref h_this), (1, .int p1), (2, .int p2), (9, .long v1.2.2.2.1), (11, .int v1.2.2.2.2)]) hx hb dX5_look_66 hl (by decide) rfl (fun ls hl => ?_)
        refine lv_lload hx hb dX5_look_68 (lv_at hl 6 rfl) ?_
        refine lv_aload_n hx hb dX5_look_70 rfl (lv_at hl 3 rfl) ?_
        refine va_get (D := D) (ci := 5) (v := .ref h_this_springs) (C := RX5) (T := TX5) (N := 3) hx hb hts (fun w h => List.mem_cons_of_mem _ (List.mem_append_right _ h)) hown hK hP 0 rfl rfl 0 (by decide) (hts _ (List.mem_of_getElem? (i := 2) rfl)) (fun _ h9 => h9) rfl dX5_look_71 ?_
        refine lv_iload hx hb dX5_look_74 (lv_at hl 7 rfl) ?_
        refine xald (v := (u_this_springs v1.2.2.2.2.toNatClampNeg)) hx hb hK hP 1 0 rfl rfl g3 rfl dX5_look_76 ?_
        refine lv_aload_n hx hb dX5_look_77 rfl (lv_at hl 3 rfl) ?_
        refine va_get (D := D) (ci := 5) (v := .ref h_this_summers) (C := RX5) (T := TX5) (N := 3) hx hb hts (fun w h => List.mem_cons_of_mem _ (List.mem_append_right _ h)) hown hK hP 0 rfl rfl 1 (by decide) (hts _ (List.mem_of_getElem? (i := 3) rfl)) (fun _ h9 => h9) rfl dX5_look_78 ?_
        refine lv_iload hx hb dX5_look_81 (lv_at hl 7 rfl) ?_
        refine xald (v := (u_this_summers v1.2.2.2.2.toNatClampNeg)) hx hb hK hP 2 0 rfl rfl g3 rfl dX5_look_83 ?_
        refine lv_imul hx hb dX5_look_84 ?_
        refine lv_i2l (v := ((u_this_springs v1.2.2.2.2.toNatClampNeg) * (u_this_summers v1.2.2.2.2.toNatClampNeg)).toInt64) hx hb dX5_look_85 rfl ?_
        refine lv_ladd hx hb dX5_look_86 ?_
        refine lv_lstore (lv' := [(9, .long (v1.2.2.2.1 + (((u_this_springs v1.2.2.2.2.toNatClampNeg) * (u_this_summers v1.2.2.2.2.toNatClampNeg)).toInt64))), (7, .long (v1.2.2.1 + (((u_this_springs v1.2.2.2.2.toNatClampNeg) * (u_this_springs v1.2.2.2.2.toNatClampNeg)).toInt64))), (5, .long (v1.2.1 + ((u_this_summers v1.2.2.2.2.toNatClampNeg).toInt64))), (3, .long (v1.1 + ((u_this_springs v1.2.2.2.2.toNatClampNeg).toInt64))), (0, .ref h_this), (1, .int p1), (2, .int p2), (11, .int v1.2.2.2.2)]) hx hb dX5_look_87 hl (by decide) rfl (fun ls hl => ?_)
        refine lv_iinc (v := v1.2.2.2.2 + 1) (lv' := [(11, .int (v1.2.2.2.2 + 1)), (9, .long (v1.2.2.2.1 + (((u_this_springs v1.2.2.2.2.toNatClampNeg) * (u_this_summers v1.2.2.2.2.toNatClampNeg)).toInt64))), (7, .long (v1.2.2.1 + (((u_this_springs v1.2.2.2.2.toNatClampNeg) * (u_this_springs v1.2.2.2.2.toNatClampNeg)).toInt64))), (5, .long (v1.2.1 + ((u_this_summers v1.2.2.2.2.toNatClampNeg).toInt64))), (3, .long (v1.1 + ((u_this_springs v1.2.2.2.2.toNatClampNeg).toInt64))), (0, .ref h_this), (1, .int p1), (2, .int p2)]) hx hb dX5_look_89 hl (k := 7) rfl rfl (by decide) rfl (fun ls hl => ?_)
        refine lv_goto (tgt := 14) hx hb dX5_look_92 (by decide) ?_
        exact ih _ (hz1 _ (Option.some.inj hM).symm) _ _ _ hP hD hS (lv_sub hl [5, 6, 7, 4, 3, 2, 1, 0] rfl)
  exact Lv1 _ _ hM _ _ _ hP hD hS (lv_sub hl [5, 6, 7, 4, 3, 2, 1, 0] rfl)
def f_X6_unsign (u_this : K6) (u_this_signs : K2) : Int32 × K2 :=
  ((f_X2_empty u_this_signs).1, (f_X2_empty u_this_signs).2)
set_option maxHeartbeats 4000000 in
set_option maxRecDepth 100000 in
theorem c_X6_unsign (l : Launch) (D : va_G) (T : xT) (x : Nat → Nat) {sz : Nat} (u_this : K6) (u_this_signs : K2) {rv : Int32 × K2} (hM : f_X6_unsign u_this u_this_signs = rv) : Met l yX6_unsign wsX6_unsign ({ frames := 1, cells := 0, slots := 0, locals := 21 } : Room) (va_Pc [.ref (x 0)] (xPre D T [((x 0), .inr (6, o6 x u_this)), ((x 9), .inr (2, o2 (x 10) (x 11) (x 12) u_this_signs))] sz xE0)) (va_Qi (fun (r : Int32) (_ : Unit) => r = rv.1) (fun _ => xPost D T [((x 0), .inr (6, o6 x u_this)), ((x 9), .inr (2, o2 (x 10) (x 11) (x 12) rv.2))] (va_A [((x 0), .inr (6, o6 x u_this)), ((x 9), .inr (2, o2 (x 10) (x 11) (x 12) u_this_signs))] sz)) (va_A [((x 0), .inr (6, o6 x u_this)), ((x 9), .inr (2, o2 (x 10) (x 11) (x 12) u_this_signs))] sz)) 0 0 (va_A [((x 0), .inr (6, o6 x u_this)), ((x 9), .inr (2, o2 (x 10) (x 11) (x 12) u_this_signs))] sz) := by
  refine xMet (av := [.ref (x 0)]) (Wd := [((x 0), .inr (6, o6 x u_this)), ((x 9), .inr (2, o2 (x 10) (x 11) (x 12) u_this_signs))]) (E := xE0) (Qc := fun A => (va_Qi (fun (r : Int32) (_ : Unit) => r = rv.1) (fun _ => xPost D T [((x 0), .inr (6, o6 x u_this)), ((x 9), .inr (2, o2 (x 10) (x 11) (x 12) rv.2))] A) A)) (cc := cX6_unsign) (maxL := 1) (ret := (some .int)) (by decide) rfl (Nat.le_of_ble_eq_true rfl) ?_
  intro p e s m below meth c A ls hx hb hr hml hts hown hlocks hnm hP hK hD hS hA hE hl
  have hown : s.vm.findClass RX6 = some m.cls := hown
  have hl : lv_has ls 1 [(0, .ref (x 0))] := hl
  unfold f_X6_unsign at hM
  refine lv_aload_n hx hb dX6_unsign_0 rfl (lv_at hl 0 rfl) ?_
  refine va_get (D := D) (ci := 6) (v := .ref (x 9)) (C := RX6) (T := TX6) (N := 16) hx hb hts (fun w h => List.mem_cons_of_mem _ (List.mem_append_left _ (List.mem_append_right _ h))) hown hK hP 0 rfl rfl 5 (by decide) (hts _ (List.mem_of_getElem? (i := 1) rfl)) (fun _ h9 => h9) rfl dX6_unsign_1 ?_
  refine xafti (rv := (f_X2_empty u_this_signs).1) (W2 := [((x 0), .inr (6, o6 x u_this)), ((x 9), .inr (2, o2 (x 10) (x 11) (x 12) ((f_X2_empty u_this_signs).2)))]) (va_runV (As := []) (rest := []) ⟨hx, hb, hml, hown, hts⟩ (c_X2_empty (rv := (f_X2_empty u_this_signs)) l D T (x 9) (x 10) (x 11) (x 12) u_this_signs rfl) (cwV 0 hts gX6_unsign_X2_empty rfl rfl rfl (by decide +kernel) ⟨Nat.le_of_ble_eq_true rfl, Nat.le_of_ble_eq_true rfl⟩) (xpvv hP hD hK [1] (by decide) rfl 0 2 rfl rfl (fun _ _ _ => trivial) (fun _ _ _ _ _ _ => trivial)) rfl rfl hl.1 rfl (lv_room (Nat.le_of_ble_eq_true rfl)) dX6_unsign_4 ⟨Nat.le_of_ble_eq_true rfl, Nat.le_of_ble_eq_true rfl⟩) hP hD hS hA [1] rfl rfl rfl rfl (fun H locs hP hD hS => ?_)
  obtain rfl := hM
  exact xreti hx hb hr hlocks hP hK hD hS dX6_unsign_7 rfl
def f_X6_chance (u_this : K6) (u_this_chances : (Nat → Int32)) (p1 : Int32) (p2 : Int32) : Option (Int32 × (Nat → Int32)) :=
  if (f_X6_outside p1 (0) (5)) = (0) then
   (if (f_X6_outside p2 (0) (9)) = (0) then
     (if xin p1 6 = true then
      (some ((u_this_chances p1.toNatClampNeg), (upd u_this_chances p1.toNatClampNeg p2)))
      else none)
    else
     (some ((-1), u_this_chances)))
  else
   (some ((-1), u_this_chances))
set_option maxHeartbeats 4000000 in
set_option maxRecDepth 100000 in
theorem c_X6_chance (l : Launch) (D : va_G) (T : xT) (x : Nat → Nat) {sz : Nat} (u_this : K6) (u_this_chances : (Nat → Int32)) (p1 : Int32) (p2 : Int32) {rv : Int32 × (Nat → Int32)} (hM : f_X6_chance u_this u_this_chances p1 p2 = some rv) : Met l yX6_chance wsX6_chance ({ frames := 1, cells := 0, slots := 0, locals := 22 } : Room) (va_Pc [.ref (x 0), .int p1, .int p2] (xPre D T [((x 0), .inr (6, o6 x u_this)), ((x 13), .inl (T.1, 6, .inl u_this_chances))] sz xE0)) (va_Qi (fun (r : Int32) (_ : Unit) => r = rv.1) (fun _ => xPost D T [((x 0), .inr (6, o6 x u_this)), ((x 13), .inl (T.1, 6, .inl rv.2))] (va_A [((x 0), .inr (6, o6 x u_this)), ((x 13), .inl (T.1, 6, .inl u_this_chances))] sz)) (va_A [((x 0), .inr (6, o6 x u_this)), ((x 13), .inl (T.1, 6, .inl u_this_chances))] sz)) 0 0 (va_A [((x 0), .inr (6, o6 x u_this)), ((x 13), .inl (T.1, 6, .inl u_this_chances))] sz) := by
  refine xMet (av := [.ref (x 0), .int p1, .int p2]) (Wd := [((x 0), .inr (6, o6 x u_this)), ((x 13), .inl (T.1, 6, .inl u_this_chances))]) (E := xE0) (Qc := fun A => (va_Qi (fun (r : Int32) (_ : Unit) => r = rv.1) (fun _ => xPost D T [((x 0), .inr (6, o6 x u_this)), ((x 13), .inl (T.1, 6, .inl rv.2))] A) A)) (cc := cX6_chance) (maxL := 4) (ret := (some .int)) (by decide) rfl (Nat.le_of_ble_eq_true rfl) ?_
  intro p e s m below meth c A ls hx hb hr hml hts hown hlocks hnm hP hK hD hS hA hE hl
  have hown : s.vm.findClass RX6 = some m.cls := hown
  have hl : lv_has ls 4 [(0, .ref (x 0)), (1, .int p1), (2, .int p2)] := hl
  unfold f_X6_chance at hM
  refine lv_iload_n hx hb dX6_chance_0 rfl (lv_at hl 1 rfl) ?_
  refine lv_iconst (v := 0) hx hb dX6_chance_1 (by decide) ?_
  refine lv_iconst (v := 5) hx hb dX6_chance_2 (by decide) ?_
  refine xafti (rv := (f_X6_outside p1 (0) (5))) (W2 := [((x 0), .inr (6, o6 x u_this)), ((x 13), .inl (T.1, 6, .inl u_this_chances))]) (va_runS (As := [.int p1, .int (0), .int (5)]) (rest := []) ⟨hx, hb, hml, hown, hts⟩ (c_X6_outside (rv := (f_X6_outside p1 (0) (5))) l D T p1 (0) (5) rfl) (cwS 3 hts gX6_chance_X6_outside rfl rfl rfl (by decide +kernel) ⟨Nat.le_of_ble_eq_true rfl, Nat.le_of_ble_eq_true rfl⟩) (xpvs hP hD hK [] (by decide) rfl (fun _ _ _ => trivial) (fun _ _ _ _ _ _ => trivial)) rfl rfl hl.1 rfl (lv_room (Nat.le_of_ble_eq_true rfl)) dX6_chance_3 ⟨Nat.le_of_ble_eq_true rfl, Nat.le_of_ble_eq_true rfl⟩) hP hD hS hA [] rfl rfl rfl rfl (fun H locs hP hD hS => ?_)
  refine lv_if_ne (tgt := 19) hx hb dX6_chance_6 (by decide) (fun c1 => ?_) (fun c1 => ?_)
  · have hM := xif c1 hM
    refine lv_iconst (v := (-1)) hx hb dX6_chance_19 (by decide) ?_
    obtain rfl := Option.some.inj hM
    exact xreti hx hb hr hlocks hP hK hD hS dX6_chance_20 rfl
  · have hM := xit c1 hM
    refine lv_iload_n hx hb dX6_chance_9 rfl (lv_at hl 2 rfl) ?_
    refine lv_iconst (v := 0) hx hb dX6_chance_10 (by decide) ?_
    refine lv_bipush (v := 9) hx hb dX6_chance_11 (by decide) ?_
    refine xafti (rv := (f_X6_outside p2 (0) (9))) (W2 := [((x 0), .inr (6, o6 x u_this)), ((x 13), .inl (T.1, 6, .inl u_this_chances))]) (va_runS (As := [.int p2, .int (0), .int (9)]) (rest := []) ⟨hx, hb, hml, hown, hts⟩ (c_X6_outside (rv := (f_X6_outside p2 (0) (9))) l D T p2 (0) (9) rfl) (cwS 3 hts gX6_chance_X6_outside rfl rfl rfl (by decide +kernel) ⟨Nat.le_of_ble_eq_true rfl, Nat.le_of_ble_eq_true rfl⟩) (xpvs hP hD hK [] (by decide) rfl (fun _ _ _ => trivial) (fun _ _ _ _ _ _ => trivial)) rfl rfl hl.1 rfl (lv_room (Nat.le_of_ble_eq_true rfl)) dX6_chance_13 ⟨Nat.le_of_ble_eq_true rfl, Nat.le_of_ble_eq_true rfl⟩) hP hD hS hA [] rfl rfl rfl rfl (fun H locs hP hD hS => ?_)
    refine lv_if_eq (tgt := 21) hx hb dX6_chance_16 (by decide) (fun c2 => ?_) (fun c2 => ?_)
    · have hM := xit c2 hM
      refine lv_aload_n hx hb dX6_chance_21 rfl (lv_at hl 0 rfl) ?_
      refine va_get (D := D) (ci := 6) (v := .ref (x 13)) (C := RX6) (T := TX6) (N := 16) hx hb hts (fun w h => List.mem_cons_of_mem _ (List.mem_append_right _ h)) hown hK hP 0 rfl rfl 6 (by decide) (hts _ (List.mem_of_getElem? (i := 1) rfl)) (fun _ h9 => h9) rfl dX6_chance_22 ?_
      refine lv_iload_n hx hb dX6_chance_25 rfl (lv_at hl 1 rfl) ?_
      obtain ⟨g3, hM⟩ := xck hM
      refine xald (v := (u_this_chances p1.toNatClampNeg)) hx hb hK hP 1 0 rfl rfl g3 rfl dX6_chance_26 ?_
      refine lv_istore_n (lv' := [(3, .int (u_this_chances p1.toNatClampNeg)), (0, .ref (x 0)), (1, .int p1), (2, .int p2)]) hx hb dX6_chance_27 rfl hl (by decide) rfl (fun ls hl => ?_)
      refine lv_aload_n hx hb dX6_chance_28 rfl (lv_at hl 1 rfl) ?_
      refine va_get (D := D) (ci := 6) (v := .ref (x 13)) (C := RX6) (T := TX6) (N := 16) hx hb hts (fun w h => List.mem_cons_of_mem _ (List.mem_append_right _ h)) hown hK hP 0 rfl rfl 6 (by decide) (hts _ (List.mem_of_getElem? (i := 1) rfl)) (fun _ h9 => h9) rfl dX6_chance_29 ?_
      refine lv_iload_n hx hb dX6_chance_32 rfl (lv_at hl 2 rfl) ?_
      refine lv_iload_n hx hb dX6_chance_33 rfl (lv_at hl 3 rfl) ?_
      refine xast hx hb hK hP hD hS 1 0 rfl rfl g3 rfl dX6_chance_34 (fun H locs hP hD hS => ?_)
      have hP : va_P D vwCl [((x 0), .inr (6, o6 x u_this)), ((x 13), .inl (T.1, 6, .inl (upd u_this_chances p1.toNatClampNeg p2)))] H := hP
      have hD : va_D A [((x 0), .inr (6, o6 x u_this)), ((x 13), .inl (T.1, 6, .inl (upd u_this_chances p1.toNatClampNeg p2)))] := hD
      refine lv_iload_n hx hb dX6_chance_35 rfl (lv_at hl 0 rfl) ?_
      obtain rfl := Option.some.inj hM
      exact xreti hx hb hr hlocks hP hK hD hS dX6_chance_36 rfl
    · have hM := xif c2 hM
      refine lv_iconst (v := (-1)) hx hb dX6_chance_19 (by decide) ?_
      obtain rfl := Option.some.inj hM
      exact xreti hx hb hr hlocks hP hK hD hS dX6_chance_20 rfl
def f_X6_trouble (N : Nat) (u_this : K6) (u_this_yard : K4) (u_this_other : K4) (p1 : Int32) (p2 : Int32) : Option (K4) :=
  (f_X4_beLike N u_this_other u_this_yard).bind fun r1 =>
  (some (f_X4_worsen r1 p1 p2) : Option (K4)).bind fun r2 =>
  some r2
set_option maxHeartbeats 4000000 in
set_option maxRecDepth 100000 in
theorem c_X6_trouble (l : Launch) (D : va_G) (T : xT) (x : Nat → Nat) {sz : Nat} {N : Nat} (u_this : K6) (u_this_yard : K4) (u_this_other : K4) (p1 : Int32) (p2 : Int32) {rv : K4} (hM : f_X6_trouble N u_this u_this_yard u_this_other p1 p2 = some rv) : Met l yX6_trouble wsX6_trouble ({ frames := 2, cells := 0, slots := 0, locals := 44 } : Room) (va_Pc [.ref (x 0), .int p1, .int p2] (xPre D T [((x 0), .inr (6, o6 x u_this)), ((x 3), .inr (4, o4 u_this_yard)), ((x 21), .inr (4, o4 u_this_other))] sz xE0)) (va_Qv (fun (_ : Unit) => True) (fun _ => xPost D T [((x 0), .inr (6, o6 x u_this)), ((x 3), .inr (4, o4 u_this_yard)), ((x 21), .inr (4, o4 rv))] (va_A [((x 0), .inr (6, o6 x u_this)), ((x 3), .inr (4, o4 u_this_yard)), ((x 21), .inr (4, o4 u_this_other))] sz)) (va_A [((x 0), .inr (6, o6 x u_this)), ((x 3), .inr (4, o4 u_this_yard)), ((x 21), .inr (4, o4 u_this_other))] sz)) 0 0 (va_A [((x 0), .inr (6, o6 x u_this)), ((x 3), .inr (4, o4 u_this_yard)), ((x 21), .inr (4, o4 u_this_other))] sz) := by
  refine xMet (av := [.ref (x 0), .int p1, .int p2]) (Wd := [((x 0), .inr (6, o6 x u_this)), ((x 3), .inr (4, o4 u_this_yard)), ((x 21), .inr (4, o4 u_this_other))]) (E := xE0) (Qc := fun A => (va_Qv (fun (_ : Unit) => True) (fun _ => xPost D T [((x 0), .inr (6, o6 x u_this)), ((x 3), .inr (4, o4 u_this_yard)), ((x 21), .inr (4, o4 rv))] A) A)) (cc := cX6_trouble) (maxL := 3) (ret := none) (by decide) rfl (Nat.le_of_ble_eq_true rfl) ?_
  intro p e s m below meth c A ls hx hb hr hml hts hown hlocks hnm hP hK hD hS hA hE hl
  have hown : s.vm.findClass RX6 = some m.cls := hown
  have hl : lv_has ls 3 [(0, .ref (x 0)), (1, .int p1), (2, .int p2)] := hl
  unfold f_X6_trouble at hM
  refine lv_aload_n hx hb dX6_trouble_0 rfl (lv_at hl 0 rfl) ?_
  refine va_get (D := D) (ci := 6) (v := .ref (x 21)) (C := RX6) (T := TX6) (N := 16) hx hb hts (fun w h => List.mem_cons_of_mem _ (List.mem_append_left _ (List.mem_append_right _ h))) hown hK hP 0 rfl rfl 11 (by decide) (hts _ (List.mem_of_getElem? (i := 1) rfl)) (fun _ h9 => h9) rfl dX6_trouble_1 ?_
  refine lv_aload_n hx hb dX6_trouble_4 rfl (lv_at hl 0 rfl) ?_
  refine va_get (D := D) (ci := 6) (v := .ref (x 3)) (C := RX6) (T := TX6) (N := 16) hx hb hts (fun w h => List.mem_cons_of_mem _ (List.mem_append_left _ (List.mem_append_right _ h))) hown hK hP 0 rfl rfl 1 (by decide) (hts _ (List.mem_of_getElem? (i := 2) rfl)) (fun _ h9 => h9) rfl dX6_trouble_5 ?_
  obtain ⟨r1, er1, hM⟩ := xbd hM
  refine xaftv (W2 := [((x 0), .inr (6, o6 x u_this)), ((x 3), .inr (4, o4 u_this_yard)), ((x 21), .inr (4, o4 r1))]) (va_runV (As := [.ref (x 3)]) (rest := []) ⟨hx, hb, hml, hown, hts⟩ (c_X4_beLike l D T (x 21) (x 3) u_this_other u_this_yard er1) (cwV 1 hts gX6_trouble_X4_beLike rfl rfl rfl (by decide +kernel) ⟨Nat.le_of_ble_eq_true rfl, Nat.le_of_ble_eq_true rfl⟩) (xpvv hP hD hK [2, 1] (by decide) rfl 0 4 rfl rfl (fun _ _ _ => trivial) (fun _ _ _ _ _ _ => trivial)) rfl rfl hl.1 rfl (lv_room (Nat.le_of_ble_eq_true rfl)) dX6_trouble_8 ⟨Nat.le_of_ble_eq_true rfl, Nat.le_of_ble_eq_true rfl⟩) hP hD hS hA [2, 1] rfl rfl rfl rfl (fun H locs hP hD hS => ?_)
  refine lv_aload_n hx hb dX6_trouble_11 rfl (lv_at hl 0 rfl) ?_
  refine va_get (D := D) (ci := 6) (v := .ref (x 21)) (C := RX6) (T := TX6) (N := 16) hx hb hts (fun w h => List.mem_cons_of_mem _ (List.mem_append_left _ (List.mem_append_right _ h))) hown hK hP 0 rfl rfl 11 (by decide) (hts _ (List.mem_of_getElem? (i := 1) rfl)) (fun _ h9 => h9) rfl dX6_trouble_12 ?_
  refine lv_iload_n hx hb dX6_trouble_15 rfl (lv_at hl 1 rfl) ?_
  refine lv_iload_n hx hb dX6_trouble_16 rfl (lv_at hl 2 rfl) ?_
  obtain ⟨r2, er2, hM⟩ := xbd hM
  refine xaftv (W2 := [((x 0), .inr (6, o6 x u_this)), ((x 3), .inr (4, o4 u_this_yard)), ((x 21), .inr (4, o4 r2))]) (va_runV (As := [.int p1, .int p2]) (rest := []) ⟨hx, hb, hml, hown, hts⟩ (c_X4_worsen l D T (x 21) r1 p1 p2 (Option.some.inj er2)) (cwV 2 hts gX6_trouble_X4_worsen rfl rfl rfl (by decide +kernel) ⟨Nat.le_of_ble_eq_true rfl, Nat.le_of_ble_eq_true rfl⟩) (xpvv hP hD hK [2] (by decide) rfl 0 4 rfl rfl (fun _ _ _ => trivial) (fun _ _ _ _ _ _ => trivial)) rfl rfl hl.1 rfl (lv_room (Nat.le_of_ble_eq_true rfl)) dX6_trouble_17 ⟨Nat.le_of_ble_eq_true rfl, Nat.le_of_ble_eq_true rfl⟩) hP hD hS hA [2] rfl rfl rfl rfl (fun H locs hP hD hS => ?_)
  obtain rfl := Option.some.inj hM
  exact xretv hx hb hr hlocks hP hK hD hS dX6_trouble_20
def f_X6_answer (N : Nat) (u_this : K6) (u_this_other : K4) (u_this_shade : K0) (p1 : Int32) (p2 : Int32) : Option (Int32 × K0) :=
  if p1 = 0 then
   ((f_X0_startEmpty u_this_shade u_this_other).bind fun r2 =>
    (f_X0_pullsToWater r2 u_this_other).bind fun r3 =>
    some (r3, r2))
  else if p1 = 1 then
   ((some (f_X0_startFull u_this_shade) : Option (K0)).bind fun r5 =>
    (f_X0_stand N r5 u_this_other p2).bind fun r6 =>
    some (r6.1, r6.2))
  else 
   ((f_X4_depth u_this_other (0)).bind fun r7 =>
    if (f_X4_airAbove u_this_other r7) ≤ (0) then
     (some (0, u_this_shade))
    else
     (some (1, u_this_shade)))
set_option maxHeartbeats 4000000 in
set_option maxRecDepth 100000 in
theorem c_X6_answer (l : Launch) (D : va_G) (T : xT) (x : Nat → Nat) {sz : Nat} {N : Nat} (u_this : K6) (u_this_other : K4) (u_this_shade : K0) (p1 : Int32) (p2 : Int32) {rv : Int32 × K0} (hM : f_X6_answer N u_this u_this_other u_this_shade p1 p2 = some rv) : Met l yX6_answer wsX6_answer ({ frames := 3, cells := 0, slots := 0, locals := 67 } : Room) (va_Pc [.ref (x 0), .int p1, .int p2] (xPre D T [((x 0), .inr (6, o6 x u_this)), ((x 21), .inr (4, o4 u_this_other)), ((x 22), .inr (0, o0 u_this_shade))] sz xE0)) (va_Qi (fun (r : Int32) (_ : Unit) => r = rv.1) (fun _ => xPost D T [((x 0), .inr (6, o6 x u_this)), ((x 21), .inr (4, o4 u_this_other)), ((x 22), .inr (0, o0 rv.2))] (va_A [((x 0), .inr (6, o6 x u_this)), ((x 21), .inr (4, o4 u_this_other)), ((x 22), .inr (0, o0 u_this_shade))] sz)) (va_A [((x 0), .inr (6, o6 x u_this)), ((x 21), .inr (4, o4 u_this_other)), ((x 22), .inr (0, o0 u_this_shade))] sz)) 0 0 (va_A [((x 0), .inr (6, o6 x u_this)), ((x 21), .inr (4, o4 u_this_other)), ((x 22), .inr (0, o0 u_this_shade))] sz) := by
  refine xMet (av := [.ref (x 0), .int p1, .int p2]) (Wd := [((x 0), .inr (6, o6 x u_this)), ((x 21), .inr (4, o4 u_this_other)), ((x 22), .inr (0, o0 u_this_shade))]) (E := xE0) (Qc := fun A => (va_Qi (fun (r : Int32) (_ : Unit) => r = rv.1) (fun _ => xPost D T [((x 0), .inr (6, o6 x u_this)), ((x 21), .inr (4, o4 u_this_other)), ((x 22), .inr (0, o0 rv.2))] A) A)) (cc := cX6_answer) (maxL := 3) (ret := (some .int)) (by decide) rfl (Nat.le_of_ble_eq_true rfl) ?_
  intro p e s m below meth c A ls hx hb hr hml hts hown hlocks hnm hP hK hD hS hA hE hl
  have hown : s.vm.findClass RX6 = some m.cls := hown
  have hl : lv_has ls 3 [(0, .ref (x 0)), (1, .int p1), (2, .int p2)] := hl
  unfold f_X6_answer at hM
  refine lv_iload_n hx hb dX6_answer_0 rfl (lv_at hl 1 rfl) ?_
  by_cases c1 : p1 = 0
  · have hM := xit c1 hM
    refine lv_lookup (off := 27) (tgt := 28) hx hb dX6_answer_1 (by decide) (by rw [c1]; decide) (by decide) ?_
    refine lv_aload_n hx hb dX6_answer_28 rfl (lv_at hl 0 rfl) ?_
    refine va_get (D := D) (ci := 6) (v := .ref (x 22)) (C := RX6) (T := TX6) (N := 16) hx hb hts (fun w h => List.mem_cons_of_mem _ (List.mem_append_left _ (List.mem_append_left _ (List.mem_append_right _ h)))) hown hK hP 0 rfl rfl 12 (by decide) (hts _ (List.mem_of_getElem? (i := 1) rfl)) (fun _ h9 => h9) rfl dX6_answer_29 ?_
    refine lv_aload_n hx hb dX6_answer_32 rfl (lv_at hl 0 rfl) ?_
    refine va_get (D := D) (ci := 6) (v := .ref (x 21)) (C := RX6) (T := TX6) (N := 16) hx hb hts (fun w h => List.mem_cons_of_mem _ (List.mem_append_left _ (List.mem_append_left _ (List.mem_append_right _ h)))) hown hK hP 0 rfl rfl 11 (by decide) (hts _ (List.mem_of_getElem? (i := 2) rfl)) (fun _ h9 => h9) rfl dX6_answer_33 ?_
    obtain ⟨r2, er2, hM⟩ := xbd hM
    refine xaftv (W2 := [((x 0), .inr (6, o6 x u_this)), ((x 21), .inr (4, o4 u_this_other)), ((x 22), .inr (0, o0 r2))]) (va_runV (As := [.ref (x 21)]) (rest := []) ⟨hx, hb, hml, hown, hts⟩ (c_X0_startEmpty l D T (x 22) (x 21) u_this_shade u_this_other er2) (cwV 1 hts gX6_answer_X0_startEmpty rfl rfl rfl (by decide +kernel) ⟨Nat.le_of_ble_eq_true rfl, Nat.le_of_ble_eq_true rfl⟩) (xpvv hP hD hK [2, 1] (by decide) rfl 0 0 rfl rfl (fun _ _ _ => trivial) (fun _ _ _ _ _ _ => trivial)) rfl rfl hl.1 rfl (lv_room (Nat.le_of_ble_eq_true rfl)) dX6_answer_36 ⟨Nat.le_of_ble_eq_true rfl, Nat.le_of_ble_eq_true rfl⟩) hP hD hS hA [2, 1] rfl rfl rfl rfl (fun H locs hP hD hS => ?_)
    refine lv_aload_n hx hb dX6_answer_39 rfl (lv_at hl 0 rfl) ?_
    refine va_get (D := D) (ci := 6) (v := .ref (x 22)) (C := RX6) (T := TX6) (N := 16) hx hb hts (fun w h => List.mem_cons_of_mem _ (List.mem_append_left _ (List.mem_append_left _ (List.mem_append_right _ h)))) hown hK hP 0 rfl rfl 12 (by decide) (hts _ (List.mem_of_getElem? (i := 1) rfl)) (fun _ h9 => h9) rfl dX6_answer_40 ?_
    refine lv_aload_n hx hb dX6_answer_43 rfl (lv_at hl 0 rfl) ?_
    refine va_get (D := D) (ci := 6) (v := .ref (x 21)) (C := RX6) (T := TX6) (N := 16) hx hb hts (fun w h => List.mem_cons_of_mem _ (List.mem_append_left _ (List.mem_append_left _ (List.mem_append_right _ h)))) hown hK hP 0 rfl rfl 11 (by decide) (hts _ (List.mem_of_getElem? (i := 2) rfl)) (fun _ h9 => h9) rfl dX6_answer_44 ?_
    obtain ⟨r3, er3, hM⟩ := xbd hM
    refine xafti (rv := r3) (W2 := [((x 0), .inr (6, o6 x u_this)), ((x 21), .inr (4, o4 u_this_other)), ((x 22), .inr (0, o0 r2))]) (va_runV (As := [.ref (x 21)]) (rest := []) ⟨hx, hb, hml, hown, hts⟩ (c_X0_pullsToWater l D T (x 22) (x 21) r2 u_this_other er3) (cwV 1 hts gX6_answer_X0_pullsToWater rfl rfl rfl (by decide +kernel) ⟨Nat.le_of_ble_eq_true rfl, Nat.le_of_ble_eq_true rfl⟩) (xpvv hP hD hK [2, 1] (by decide) rfl 0 0 rfl rfl (fun _ _ _ => trivial) (fun _ _ _ _ _ _ => trivial)) rfl rfl hl.1 rfl (lv_room (Nat.le_of_ble_eq_true rfl)) dX6_answer_47 ⟨Nat.le_of_ble_eq_true rfl, Nat.le_of_ble_eq_true rfl⟩) hP hD hS hA [2, 1] rfl rfl rfl rfl (fun H locs hP hD hS => ?_)
    obtain rfl := Option.some.inj hM
    exact xreti hx hb hr hlocks hP hK hD hS dX6_answer_50 rfl
  · have hM := xif c1 hM
    by_cases c4 : p1 = 1
    · have hM := xit c4 hM
      refine lv_lookup (off := 50) (tgt := 51) hx hb dX6_answer_1 (by decide) (by rw [c4]; decide) (by decide) ?_
      refine lv_aload_n hx hb dX6_answer_51 rfl (lv_at hl 0 rfl) ?_
      refine va_get (D := D) (ci := 6) (v := .ref (x 22)) (C := RX6) (T := TX6) (N := 16) hx hb hts (fun w h => List.mem_cons_of_mem _ (List.mem_append_left _ (List.mem_append_left _ (List.mem_append_right _ h)))) hown hK hP 0 rfl rfl 12 (by decide) (hts _ (List.mem_of_getElem? (i := 1) rfl)) (fun _ h9 => h9) rfl dX6_answer_52 ?_
      obtain ⟨r5, er5, hM⟩ := xbd hM
      refine xaftv (W2 := [((x 0), .inr (6, o6 x u_this)), ((x 21), .inr (4, o4 u_this_other)), ((x 22), .inr (0, o0 r5))]) (va_runV (As := []) (rest := []) ⟨hx, hb, hml, hown, hts⟩ (c_X0_startFull l D T (x 22) u_this_shade (Option.some.inj er5)) (cwV 0 hts gX6_answer_X0_startFull rfl rfl rfl (by decide +kernel) ⟨Nat.le_of_ble_eq_true rfl, Nat.le_of_ble_eq_true rfl⟩) (xpvv hP hD hK [2] (by decide) rfl 0 0 rfl rfl (fun _ _ _ => trivial) (fun _ _ _ _ _ _ => trivial)) rfl rfl hl.1 rfl (lv_room (Nat.le_of_ble_eq_true rfl)) dX6_answer_55 ⟨Nat.le_of_ble_eq_true rfl, Nat.le_of_ble_eq_true rfl⟩) hP hD hS hA [2] rfl rfl rfl rfl (fun H locs hP hD hS => ?_)
      refine lv_aload_n hx hb dX6_answer_58 rfl (lv_at hl 0 rfl) ?_
      refine va_get (D := D) (ci := 6) (v := .ref (x 22)) (C := RX6) (T := TX6) (N := 16) hx hb hts (fun w h => List.mem_cons_of_mem _ (List.mem_append_left _ (List.mem_append_left _ (List.mem_append_right _ h)))) hown hK hP 0 rfl rfl 12 (by decide) (hts _ (List.mem_of_getElem? (i := 1) rfl)) (fun _ h9 => h9) rfl dX6_answer_59 ?_
      refine lv_aload_n hx hb dX6_answer_62 rfl (lv_at hl 0 rfl) ?_
      refine va_get (D := D) (ci := 6) (v := .ref (x 21)) (C := RX6) (T := TX6) (N := 16) hx hb hts (fun w h => List.mem_cons_of_mem _ (List.mem_append_left _ (List.mem_append_left _ (List.mem_append_right _ h)))) hown hK hP 0 rfl rfl 11 (by decide) (hts _ (List.mem_of_getElem? (i := 2) rfl)) (fun _ h9 => h9) rfl dX6_answer_63 ?_
      refine lv_iload_n hx hb dX6_answer_66 rfl (lv_at hl 2 rfl) ?_
      obtain ⟨r6, er6, hM⟩ := xbd hM
      refine xafti (rv := r6.1) (W2 := [((x 0), .inr (6, o6 x u_this)), ((x 21), .inr (4, o4 u_this_other)), ((x 22), .inr (0, o0 r6.2))]) (va_runV (As := [.ref (x 21), .int p2]) (rest := []) ⟨hx, hb, hml, hown, hts⟩ (c_X0_stand l D T (x 22) (x 21) r5 u_this_other p2 er6) (cwV 2 hts gX6_answer_X0_stand rfl rfl rfl (by decide +kernel) ⟨Nat.le_of_ble_eq_true rfl, Nat.le_of_ble_eq_true rfl⟩) (xpvv hP hD hK [2, 1] (by decide) rfl 0 0 rfl rfl (fun _ _ _ => trivial) (fun _ _ _ _ _ _ => trivial)) rfl rfl hl.1 rfl (lv_room (Nat.le_of_ble_eq_true rfl)) dX6_answer_67 ⟨Nat.le_of_ble_eq_true rfl, Nat.le_of_ble_eq_true rfl⟩) hP hD hS hA [2, 1] rfl rfl rfl rfl (fun H locs hP hD hS => ?_)
      obtain rfl := Option.some.inj hM
      exact xreti hx hb hr hlocks hP hK hD hS dX6_answer_70 rfl
    · have hM := xif c4 hM
      refine lv_lookup (off := 70) (tgt := 71) hx hb dX6_answer_1 (by decide) ((lv_osw c1 (by decide)).trans ((lv_osw c4 (by decide)).trans (rfl))) (by decide) ?_
      refine lv_aload_n hx hb dX6_answer_71 rfl (lv_at hl 0 rfl) ?_
      refine va_get (D := D) (ci := 6) (v := .ref (x 21)) (C := RX6) (T := TX6) (N := 16) hx hb hts (fun w h => List.mem_cons_of_mem _ (List.mem_append_left _ (List.mem_append_left _ (List.mem_append_right _ h)))) hown hK hP 0 rfl rfl 11 (by decide) (hts _ (List.mem_of_getElem? (i := 2) rfl)) (fun _ h9 => h9) rfl dX6_answer_72 ?_
      refine lv_aload_n hx hb dX6_answer_75 rfl (lv_at hl 0 rfl) ?_
      refine va_get (D := D) (ci := 6) (v := .ref (x 21)) (C := RX6) (T := TX6) (N := 16) hx hb hts (fun w h => List.mem_cons_of_mem _ (List.mem_append_left _ (List.mem_append_left _ (List.mem_append_right _ h)))) hown hK hP 0 rfl rfl 11 (by decide) (hts _ (List.mem_of_getElem? (i := 2) rfl)) (fun _ h9 => h9) rfl dX6_answer_76 ?_
      refine lv_iconst (v := 0) hx hb dX6_answer_79 (by decide) ?_
      obtain ⟨r7, er7, hM⟩ := xbd hM
      refine xafti (rv := r7) (W2 := [((x 0), .inr (6, o6 x u_this)), ((x 21), .inr (4, o4 u_this_other)), ((x 22), .inr (0, o0 u_this_shade))]) (va_runV (As := [.int (0)]) (rest := [.ref (x 21)]) ⟨hx, hb, hml, hown, hts⟩ (c_X4_depth l D T (x 21) u_this_other (0) er7) (cwV 1 hts gX6_answer_X4_depth rfl rfl rfl (by decide +kernel) ⟨Nat.le_of_ble_eq_true rfl, Nat.le_of_ble_eq_true rfl⟩) (xpvv hP hD hK [1] (by decide) rfl 0 4 rfl rfl (fun _ _ _ => trivial) (fun _ _ _ _ _ _ => trivial)) rfl rfl hl.1 rfl (lv_room (Nat.le_of_ble_eq_true rfl)) dX6_answer_80 ⟨Nat.le_of_ble_eq_true rfl, Nat.le_of_ble_eq_true rfl⟩) hP hD hS hA [1] rfl rfl rfl rfl (fun H locs hP hD hS => ?_)
      refine xafti (rv := (f_X4_airAbove u_this_other r7)) (W2 := [((x 0), .inr (6, o6 x u_this)), ((x 21), .inr (4, o4 u_this_other)), ((x 22), .inr (0, o0 u_this_shade))]) (va_runV (As := [.int r7]) (rest := []) ⟨hx, hb, hml, hown, hts⟩ (c_X4_airAbove (rv := (f_X4_airAbove u_this_other r7)) l D T (x 21) u_this_other r7 rfl) (cwV 1 hts gX6_answer_X4_airAbove rfl rfl rfl (by decide +kernel) ⟨Nat.le_of_ble_eq_true rfl, Nat.le_of_ble_eq_true rfl⟩) (xpvv hP hD hK [1] (by decide) rfl 0 4 rfl rfl (fun _ _ _ => trivial) (fun _ _ _ _ _ _ => trivial)) rfl rfl hl.1 rfl (lv_room (Nat.le_of_ble_eq_true rfl)) dX6_answer_83 ⟨Nat.le_of_ble_eq_true rfl, Nat.le_of_ble_eq_true rfl⟩) hP hD hS hA [1] rfl rfl rfl rfl (fun H locs hP hD hS => ?_)
      refine lv_if_le (tgt := 93) hx hb dX6_answer_86 (by decide) (fun c8 => ?_) (fun c8 => ?_)
      · have hM := xit c8 hM
        refine lv_iconst (v := 0) hx hb dX6_answer_93 (by decide) ?_
        obtain rfl := Option.some.inj hM
        exact xreti hx hb hr hlocks hP hK hD hS dX6_answer_94 rfl
      · have hM := xif c8 hM
        refine lv_iconst (v := 1) hx hb dX6_answer_89 (by decide) ?_
        refine lv_goto (tgt := 94) hx hb dX6_answer_90 (by decide) ?_
        obtain rfl := Option.some.inj hM
        exact xreti hx hb hr hlocks hP hK hD hS dX6_answer_94 rfl
def s_X6_allSignsFit_2 (N : Nat) (u_this : K6) (u_this_signs : K2) (u_this_signs_whats : (Nat → Int32)) (u_this_signs_hours : (Nat → Int32)) (u_this_signs_seen : (Nat → Int32)) (u_this_other : K4) (v1 : Int32 × K0) : Option ((Int32 × K0) ⊕ (Int32 × K0)) :=
  if u_this_signs ≤ v1.1 then
   (some (.inr (1, v1.2)))
  else
   (if xin v1.1 6 = true then
    ((f_X6_answer N u_this u_this_other v1.2 (u_this_signs_whats v1.1.toNatClampNeg) (u_this_signs_hours v1.1.toNatClampNeg)).bind fun r4 =>
     if r4.1 = (u_this_signs_seen v1.1.toNatClampNeg) then
      (some (.inl (v1.1 + 1, r4.2)))
     else
      (some (.inr (0, r4.2))))
    else none)
def f_X6_allSignsFit (N : Nat) (u_this : K6) (u_this_signs : K2) (u_this_signs_whats : (Nat → Int32)) (u_this_signs_hours : (Nat → Int32)) (u_this_signs_seen : (Nat → Int32)) (u_this_other : K4) (u_this_shade : K0) : Option (Int32 × K0) :=
  xlp (s_X6_allSignsFit_2 N u_this u_this_signs u_this_signs_whats u_this_signs_hours u_this_signs_seen u_this_other) N (0, u_this_shade)
set_option maxHeartbeats 4000000 in
set_option maxRecDepth 100000 in
theorem c_X6_allSignsFit (l : Launch) (D : va_G) (T : xT) (x : Nat → Nat) {sz : Nat} {N : Nat} (u_this : K6) (u_this_signs : K2) (u_this_signs_whats : (Nat → Int32)) (u_this_signs_hours : (Nat → Int32)) (u_this_signs_seen : (Nat → Int32)) (u_this_other : K4) (u_this_shade : K0) {rv : Int32 × K0} (hM : f_X6_allSignsFit N u_this u_this_signs u_this_signs_whats u_this_signs_hours u_this_signs_seen u_this_other u_this_shade = some rv) : Met l yX6_allSignsFit wsX6_allSignsFit ({ frames := 4, cells := 0, slots := 0, locals := 89 } : Room) (va_Pc [.ref (x 0)] (xPre D T [((x 0), .inr (6, o6 x u_this)), ((x 9), .inr (2, o2 (x 10) (x 11) (x 12) u_this_signs)), ((x 10), .inl (T.1, 6, .inl u_this_signs_whats)), ((x 11), .inl (T.1, 6, .inl u_this_signs_hours)), ((x 12), .inl (T.1, 6, .inl u_this_signs_seen)), ((x 21), .inr (4, o4 u_this_other)), ((x 22), .inr (0, o0 u_this_shade))] sz xE0)) (va_Qi (fun (r : Int32) (_ : Unit) => r = rv.1) (fun _ => xPost D T [((x 0), .inr (6, o6 x u_this)), ((x 9), .inr (2, o2 (x 10) (x 11) (x 12) u_this_signs)), ((x 10), .inl (T.1, 6, .inl u_this_signs_whats)), ((x 11), .inl (T.1, 6, .inl u_this_signs_hours)), ((x 12), .inl (T.1, 6, .inl u_this_signs_seen)), ((x 21), .inr (4, o4 u_this_other)), ((x 22), .inr (0, o0 rv.2))] (va_A [((x 0), .inr (6, o6 x u_this)), ((x 9), .inr (2, o2 (x 10) (x 11) (x 12) u_this_signs)), ((x 10), .inl (T.1, 6, .inl u_this_signs_whats)), ((x 11), .inl (T.1, 6, .inl u_this_signs_hours)), ((x 12), .inl (T.1, 6, .inl u_this_signs_seen)), ((x 21), .inr (4, o4 u_this_other)), ((x 22), .inr (0, o0 u_this_shade))] sz)) (va_A [((x 0), .inr (6, o6 x u_this)), ((x 9), .inr (2, o2 (x 10) (x 11) (x 12) u_this_signs)), ((x 10), .inl (T.1, 6, .inl u_this_signs_whats)), ((x 11), .inl (T.1, 6, .inl u_this_signs_hours)), ((x 12), .inl (T.1, 6, .inl u_this_signs_seen)), ((x 21), .inr (4, o4 u_this_other)), ((x 22), .inr (0, o0 u_this_shade))] sz)) 0 0 (va_A [((x 0), .inr (6, o6 x u_this)), ((x 9), .inr (2, o2 (x 10) (x 11) (x 12) u_this_signs)), ((x 10), .inl (T.1, 6, .inl u_this_signs_whats)), ((x 11), .inl (T.1, 6, .inl u_this_signs_hours)), ((x 12), .inl (T.1, 6, .inl u_this_signs_seen)), ((x 21), .inr (4, o4 u_this_other)), ((x 22), .inr (0, o0 u_this_shade))] sz) := by
  refine xMet (av := [.ref (x 0)]) (Wd := [((x 0), .inr (6, o6 x u_this)), ((x 9), .inr (2, o2 (x 10) (x 11) (x 12) u_this_signs)), ((x 10), .inl (T.1, 6, .inl u_this_signs_whats)), ((x 11), .inl (T.1, 6, .inl u_this_signs_hours)), ((x 12), .inl (T.1, 6, .inl u_this_signs_seen)), ((x 21), .inr (4, o4 u_this_other)), ((x 22), .inr (0, o0 u_this_shade))]) (E := xE0) (Qc := fun A => (va_Qi (fun (r : Int32) (_ : Unit) => r = rv.1) (fun _ => xPost D T [((x 0), .inr (6, o6 x u_this)), ((x 9), .inr (2, o2 (x 10) (x 11) (x 12) u_this_signs)), ((x 10), .inl (T.1, 6, .inl u_this_signs_whats)), ((x 11), .inl (T.1, 6, .inl u_this_signs_hours)), ((x 12), .inl (T.1, 6, .inl u_this_signs_seen)), ((x 21), .inr (4, o4 u_this_other)), ((x 22), .inr (0, o0 rv.2))] A) A)) (cc := cX6_allSignsFit) (maxL := 2) (ret := (some .boolean)) (by decide) rfl (Nat.le_of_ble_eq_true rfl) ?_
  intro p e s m below meth c A ls hx hb hr hml hts hown hlocks hnm hP hK hD hS hA hE hl
  have hown : s.vm.findClass RX6 = some m.cls := hown
  have hl : lv_has ls 2 [(0, .ref (x 0))] := hl
  unfold f_X6_allSignsFit at hM
  refine lv_iconst (v := 0) hx hb dX6_allSignsFit_0 (by decide) ?_
  refine lv_istore_n (lv' := [(1, .int (0)), (0, .ref (x 0))]) hx hb dX6_allSignsFit_1 rfl hl (by decide) rfl (fun ls hl => ?_)
  have Lv1 : ∀ (n : Nat) (v1 : Int32 × K0), xlp (s_X6_allSignsFit_2 N u_this u_this_signs u_this_signs_whats u_this_signs_hours u_this_signs_seen u_this_other) n v1 = some rv → ∀ (H : Heap) (locs : List Loc) (ls : Array Slot), va_P D vwCl [((x 0), .inr (6, o6 x u_this)), ((x 9), .inr (2, o2 (x 10) (x 11) (x 12) u_this_signs)), ((x 10), .inl (T.1, 6, .inl u_this_signs_whats)), ((x 11), .inl (T.1, 6, .inl u_this_signs_hours)), ((x 12), .inl (T.1, 6, .inl u_this_signs_seen)), ((x 21), .inr (4, o4 u_this_other)), ((x 22), .inr (0, o0 v1.2))] H → va_D A [((x 0), .inr (6, o6 x u_this)), ((x 9), .inr (2, o2 (x 10) (x 11) (x 12) u_this_signs)), ((x 10), .inl (T.1, 6, .inl u_this_signs_whats)), ((x 11), .inl (T.1, 6, .inl u_this_signs_hours)), ((x 12), .inl (T.1, 6, .inl u_this_signs_seen)), ((x 21), .inr (4, o4 u_this_other)), ((x 22), .inr (0, o0 v1.2))] → va_S A s.heap H locs → lv_has ls 2 [(0, .ref (x 0)), (1, .int v1.1)] → W p l e ({ frames := 4, cells := 0, slots := 0, locals := 89 } : Room) s m ([.ref (x 0)] : List Value).toArray below meth c H locs 0 0 (MQ below (va_Qi (fun (r : Int32) (_ : Unit) => r = rv.1) (fun _ => xPost D T [((x 0), .inr (6, o6 x u_this)), ((x 9), .inr (2, o2 (x 10) (x 11) (x 12) u_this_signs)), ((x 10), .inl (T.1, 6, .inl u_this_signs_whats)), ((x 11), .inl (T.1, 6, .inl u_this_signs_hours)), ((x 12), .inl (T.1, 6, .inl u_this_signs_seen)), ((x 21), .inr (4, o4 u_this_other)), ((x 22), .inr (0, o0 rv.2))] A) A) ([.ref (x 0)] : List Value).toArray s 0 0 A) (F0 m 2 ls []) := by
    intro n
    induction n with
    | zero => exact fun _ h => (xlp_0 h).elim
    | succ n ih =>
      intro v1 hM H locs ls hP hD hS hl
      obtain ⟨z, hM, hz1, hz2⟩ := xlp_s hM
      unfold s_X6_allSignsFit_2 at hM
      refine lv_iload_n hx hb dX6_allSignsFit_2 rfl (lv_at hl 1 rfl) ?_
      refine lv_aload_n hx hb dX6_allSignsFit_3 rfl (lv_at hl 0 rfl) ?_
      refine va_get (D := D) (ci := 6) (v := .ref (x 9)) (C := RX6) (T := TX6) (N := 16) hx hb hts (fun w h => List.mem_cons_of_mem _ (List.mem_append_left _ (List.mem_append_left _ (List.mem_append_left _ (List.mem_append_right _ h))))) hown hK hP 0 rfl rfl 5 (by decide) (hts _ (List.mem_of_getElem? (i := 1) rfl)) (fun _ h9 => h9) rfl dX6_allSignsFit_4 ?_
      refine va_get (D := D) (ci := 2) (v := .int u_this_signs) (C := RX2) (T := TX2) (N := 4) hx hb hts (fun w h => List.mem_cons_of_mem _ (List.mem_append_left _ (List.mem_append_left _ (List.mem_append_right _ h)))) hown hK hP 1 rfl rfl 3 (by decide) (hts _ (List.mem_of_getElem? (i := 2) rfl)) (fun _ h9 => h9) rfl dX6_allSignsFit_7 ?_
      refine lv_icmp_ge (tgt := 55) hx hb dX6_allSignsFit_10 (by decide) (fun c2 => ?_) (fun c2 => ?_)
      · have hM := xit c2 hM
        refine lv_iconst (v := 1) hx hb dX6_allSignsFit_55 (by decide) ?_
        obtain rfl := hz2 _ (Option.some.inj hM).symm
        exact xretz hx hb hr hlocks hP hK hD hS dX6_allSignsFit_56 rfl rfl
      · have hM := xif c2 hM
        refine lv_aload_n hx hb dX6_allSignsFit_13 rfl (lv_at hl 0 rfl) ?_
        refine lv_aload_n hx hb dX6_allSignsFit_14 rfl (lv_at hl 0 rfl) ?_
        refine va_get (D := D) (ci := 6) (v := .ref (x 9)) (C := RX6) (T := TX6) (N := 16) hx hb hts (fun w h => List.mem_cons_of_mem _ (List.mem_append_left _ (List.mem_append_left _ (List.mem_append_left _ (List.mem_append_right _ h))))) hown hK hP 0 rfl rfl 5 (by decide) (hts _ (List.mem_of_getElem? (i := 1) rfl)) (fun _ h9 => h9) rfl dX6_allSignsFit_15 ?_
        refine va_get (D := D) (ci := 2) (v := .ref (x 10)) (C := RX2) (T := TX2) (N := 4) hx hb hts (fun w h => List.mem_cons_of_mem _ (List.mem_append_left _ (List.mem_append_left _ (List.mem_append_right _ h)))) hown hK hP 1 rfl rfl 0 (by decide) (hts _ (List.mem_of_getElem? (i := 3) rfl)) (fun _ h9 => h9) rfl dX6_allSignsFit_18 ?_
        refine lv_iload_n hx hb dX6_allSignsFit_21 rfl (lv_at hl 1 rfl) ?_
        obtain ⟨g3, hM⟩ := xck hM
        refine xald (v := (u_this_signs_whats v1.1.toNatClampNeg)) hx hb hK hP 2 0 rfl rfl g3 rfl dX6_allSignsFit_22 ?_
        refine lv_aload_n hx hb dX6_allSignsFit_23 rfl (lv_at hl 0 rfl) ?_
        refine va_get (D := D) (ci := 6) (v := .ref (x 9)) (C := RX6) (T := TX6) (N := 16) hx hb hts (fun w h => List.mem_cons_of_mem _ (List.mem_append_left _ (List.mem_append_left _ (List.mem_append_left _ (List.mem_append_right _ h))))) hown hK hP 0 rfl rfl 5 (by decide) (hts _ (List.mem_of_getElem? (i := 1) rfl)) (fun _ h9 => h9) rfl dX6_allSignsFit_24 ?_
        refine va_get (D := D) (ci := 2) (v := .ref (x 11)) (C := RX2) (T := TX2) (N := 4) hx hb hts (fun w h => List.mem_cons_of_mem _ (List.mem_append_left _ (List.mem_append_left _ (List.mem_append_right _ h)))) hown hK hP 1 rfl rfl 1 (by decide) (hts _ (List.mem_of_getElem? (i := 4) rfl)) (fun _ h9 => h9) rfl dX6_allSignsFit_27 ?_
        refine lv_iload_n hx hb dX6_allSignsFit_30 rfl (lv_at hl 1 rfl) ?_
        refine xald (v := (u_this_signs_hours v1.1.toNatClampNeg)) hx hb hK hP 3 0 rfl rfl g3 rfl dX6_allSignsFit_31 ?_
        obtain ⟨r4, er4, hM⟩ := xbd hM
        refine xafti (rv := r4.1) (W2 := [((x 0), .inr (6, o6 x u_this)), ((x 9), .inr (2, o2 (x 10) (x 11) (x 12) u_this_signs)), ((x 10), .inl (T.1, 6, .inl u_this_signs_whats)), ((x 11), .inl (T.1, 6, .inl u_this_signs_hours)), ((x 12), .inl (T.1, 6, .inl u_this_signs_seen)), ((x 21), .inr (4, o4 u_this_other)), ((x 22), .inr (0, o0 r4.2))]) (va_runV (As := [.int (u_this_signs_whats v1.1.toNatClampNeg), .int (u_this_signs_hours v1.1.toNatClampNeg)]) (rest := []) ⟨hx, hb, hml, hown, hts⟩ (c_X6_answer l D T x u_this u_this_other v1.2 (u_this_signs_whats v1.1.toNatClampNeg) (u_this_signs_hours v1.1.toNatClampNeg) er4) (cwV 2 hts gX6_allSignsFit_X6_answer rfl rfl rfl (by decide +kernel) ⟨Nat.le_of_ble_eq_true rfl, Nat.le_of_ble_eq_true rfl⟩) (xpvv hP hD hK [0, 5, 6] (by decide) rfl 0 6 rfl rfl (fun _ _ _ => trivial) (fun _ _ _ _ _ _ => trivial)) rfl rfl hl.1 rfl (lv_room (Nat.le_of_ble_eq_true rfl)) dX6_allSignsFit_32 ⟨Nat.le_of_ble_eq_true rfl, Nat.le_of_ble_eq_true rfl⟩) hP hD hS hA [0, 5, 6] rfl rfl rfl rfl (fun H locs hP hD hS => ?_)
        refine lv_aload_n hx hb dX6_allSignsFit_35 rfl (lv_at hl 0 rfl) ?_
        refine va_get (D := D) (ci := 6) (v := .ref (x 9)) (C := RX6) (T := TX6) (N := 16) hx hb hts (fun w h => List.mem_cons_of_mem _ (List.mem_append_left _ (List.mem_append_left _ (List.mem_append_left _ (List.mem_append_right _ h))))) hown hK hP 0 rfl rfl 5 (by decide) (hts _ (List.mem_of_getElem? (i := 1) rfl)) (fun _ h9 => h9) rfl dX6_allSignsFit_36 ?_
        refine va_get (D := D) (ci := 2) (v := .ref (x 12)) (C := RX2) (T := TX2) (N := 4) hx hb hts (fun w h => List.mem_cons_of_mem _ (List.mem_append_left _ (List.mem_append_left _ (List.mem_append_right _ h)))) hown hK hP 1 rfl rfl 2 (by decide) (hts _ (List.mem_of_getElem? (i := 5) rfl)) (fun _ h9 => h9) rfl dX6_allSignsFit_39 ?_
        refine lv_iload_n hx hb dX6_allSignsFit_42 rfl (lv_at hl 1 rfl) ?_
        refine xald (v := (u_this_signs_seen v1.1.toNatClampNeg)) hx hb hK hP 4 0 rfl rfl g3 rfl dX6_allSignsFit_43 ?_
        refine lv_icmp_eq (tgt := 49) hx hb dX6_allSignsFit_44 (by decide) (fun c5 => ?_) (fun c5 => ?_)
        · have hM := xit c5 hM
          refine lv_iinc (v := v1.1 + 1) (lv' := [(1, .int (v1.1 + 1)), (0, .ref (x 0))]) hx hb dX6_allSignsFit_49 hl (k := 1) rfl rfl (by decide) rfl (fun ls hl => ?_)
          refine lv_goto (tgt := 2) hx hb dX6_allSignsFit_52 (by decide) ?_
          exact ih _ (hz1 _ (Option.some.inj hM).symm) _ _ _ hP hD hS (lv_sub hl [1, 0] rfl)
        · have hM := xif c5 hM
          refine lv_iconst (v := 0) hx hb dX6_allSignsFit_47 (by decide) ?_
          obtain rfl := hz2 _ (Option.some.inj hM).symm
          exact xretz hx hb hr hlocks hP hK hD hS dX6_allSignsFit_48 rfl rfl
  exact Lv1 _ _ hM _ _ _ hP hD hS (lv_sub hl [1, 0] rfl)
def s_X6_fits_4 (N : Nat) (u_this : K6) (u_this_yard : K4) (u_this_signs : K2) (u_this_signs_whats : (Nat → Int32)) (u_this_signs_hours : (Nat → Int32)) (u_this_signs_seen : (Nat → Int32)) (p1 : Int32) (v1 : Int32 × Int32 × K4 × K0) : Option ((Int32 × Int32 × K4 × K0) ⊕ (Int32 × Int32 × K4 × K0)) :=
  if (9) < v1.2.1 then
   (some (.inr (v1.1, v1.2.1, v1.2.2.1, v1.2.2.2)))
  else
   ((f_X6_trouble N u_this u_this_yard v1.2.2.1 p1 v1.2.1).bind fun r3 =>
    (f_X6_allSignsFit N u_this u_this_signs u_this_signs_whats u_this_signs_hours u_this_signs_seen r3 v1.2.2.2).bind fun r4 =>
    if r4.1 = (0) then
     (some (.inl (v1.1, v1.2.1 + 1, r3, r4.2)))
    else
     (some (.inl (v1.1 + 1, v1.2.1 + 1, r3, r4.2))))
def f_X6_fits (N : Nat) (u_this : K6) (u_this_yard : K4) (u_this_signs : K2) (u_this_signs_whats : (Nat → Int32)) (u_this_signs_hours : (Nat → Int32)) (u_this_signs_seen : (Nat → Int32)) (u_this_other : K4) (u_this_shade : K0) (p1 : Int32) : Option (Int32 × K4 × K0) :=
  (xlp (s_X6_fits_4 N u_this u_this_yard u_this_signs u_this_signs_whats u_this_signs_hours u_this_signs_seen p1) N (0, 1, u_this_other, u_this_shade)).bind fun v6 =>
  some (v6.1, v6.2.2.1, v6.2.2.2)
set_option maxHeartbeats 4000000 in
set_option maxRecDepth 100000 in
theorem c_X6_fits (l : Launch) (D : va_G) (T : xT) (x : Nat → Nat) {sz : Nat} {N : Nat} (u_this : K6) (u_this_yard : K4) (u_this_signs : K2) (u_this_signs_whats : (Nat → Int32)) (u_this_signs_hours : (Nat → Int32)) (u_this_signs_seen : (Nat → Int32)) (u_this_other : K4) (u_this_shade : K0) (p1 : Int32) {rv : Int32 × K4 × K0} (hM : f_X6_fits N u_this u_this_yard u_this_signs u_this_signs_whats u_this_signs_hours u_this_signs_seen u_this_other u_this_shade p1 = some rv) : Met l yX6_fits wsX6_fits ({ frames := 5, cells := 0, slots := 0, locals := 110 } : Room) (va_Pc [.ref (x 0), .int p1] (xPre D T [((x 0), .inr (6, o6 x u_this)), ((x 3), .inr (4, o4 u_this_yard)), ((x 9), .inr (2, o2 (x 10) (x 11) (x 12) u_this_signs)), ((x 10), .inl (T.1, 6, .inl u_this_signs_whats)), ((x 11), .inl (T.1, 6, .inl u_this_signs_hours)), ((x 12), .inl (T.1, 6, .inl u_this_signs_seen)), ((x 21), .inr (4, o4 u_this_other)), ((x 22), .inr (0, o0 u_this_shade))] sz xE0)) (va_Qi (fun (r : Int32) (_ : Unit) => r = rv.1) (fun _ => xPost D T [((x 0), .inr (6, o6 x u_this)), ((x 3), .inr (4, o4 u_this_yard)), ((x 9), .inr (2, o2 (x 10) (x 11) (x 12) u_this_signs)), ((x 10), .inl (T.1, 6, .inl u_this_signs_whats)), ((x 11), .inl (T.1, 6, .inl u_this_signs_hours)), ((x 12), .inl (T.1, 6, .inl u_this_signs_seen)), ((x 21), .inr (4, o4 rv.2.1)), ((x 22), .inr (0, o0 rv.2.2))] (va_A [((x 0), .inr (6, o6 x u_this)), ((x 3), .inr (4, o4 u_this_yard)), ((x 9), .inr (2, o2 (x 10) (x 11) (x 12) u_this_signs)), ((x 10), .inl (T.1, 6, .inl u_this_signs_whats)), ((x 11), .inl (T.1, 6, .inl u_this_signs_hours)), ((x 12), .inl (T.1, 6, .inl u_this_signs_seen)), ((x 21), .inr (4, o4 u_this_other)), ((x 22), .inr (0, o0 u_this_shade))] sz)) (va_A [((x 0), .inr (6, o6 x u_this)), ((x 3), .inr (4, o4 u_this_yard)), ((x 9), .inr (2, o2 (x 10) (x 11) (x 12) u_this_signs)), ((x 10), .inl (T.1, 6, .inl u_this_signs_whats)), ((x 11), .inl (T.1, 6, .inl u_this_signs_hours)), ((x 12), .inl (T.1, 6, .inl u_this_signs_seen)), ((x 21), .inr (4, o4 u_this_other)), ((x 22), .inr (0, o0 u_this_shade))] sz)) 0 0 (va_A [((x 0), .inr (6, o6 x u_this)), ((x 3), .inr (4, o4 u_this_yard)), ((x 9), .inr (2, o2 (x 10) (x 11) (x 12) u_this_signs)), ((x 10), .inl (T.1, 6, .inl u_this_signs_whats)), ((x 11), .inl (T.1, 6, .inl u_this_signs_hours)), ((x 12), .inl (T.1, 6, .inl u_this_signs_seen)), ((x 21), .inr (4, o4 u_this_other)), ((x 22), .inr (0, o0 u_this_shade))] sz) := by
  refine xMet (av := [.ref (x 0), .int p1]) (Wd := [((x 0), .inr (6, o6 x u_this)), ((x 3), .inr (4, o4 u_this_yard)), ((x 9), .inr (2, o2 (x 10) (x 11) (x 12) u_this_signs)), ((x 10), .inl (T.1, 6, .inl u_this_signs_whats)), ((x 11), .inl (T.1, 6, .inl u_this_signs_hours)), ((x 12), .inl (T.1, 6, .inl u_this_signs_seen)), ((x 21), .inr (4, o4 u_this_other)), ((x 22), .inr (0, o0 u_this_shade))]) (E := xE0) (Qc := fun A => (va_Qi (fun (r : Int32) (_ : Unit) => r = rv.1) (fun _ => xPost D T [((x 0), .inr (6, o6 x u_this)), ((x 3), .inr (4, o4 u_this_yard)), ((x 9), .inr (2, o2 (x 10) (x 11) (x 12) u_this_signs)), ((x 10), .inl (T.1, 6, .inl u_this_signs_whats)), ((x 11), .inl (T.1, 6, .inl u_this_signs_hours)), ((x 12), .inl (T.1, 6, .inl u_this_signs_seen)), ((x 21), .inr (4, o4 rv.2.1)), ((x 22), .inr (0, o0 rv.2.2))] A) A)) (cc := cX6_fits) (maxL := 4) (ret := (some .int)) (by decide) rfl (Nat.le_of_ble_eq_true rfl) ?_
  intro p e s m below meth c A ls hx hb hr hml hts hown hlocks hnm hP hK hD hS hA hE hl
  have hown : s.vm.findClass RX6 = some m.cls := hown
  have hl : lv_has ls 4 [(0, .ref (x 0)), (1, .int p1)] := hl
  unfold f_X6_fits at hM
  refine lv_iconst (v := 0) hx hb dX6_fits_0 (by decide) ?_
  refine lv_istore_n (lv' := [(2, .int (0)), (0, .ref (x 0)), (1, .int p1)]) hx hb dX6_fits_1 rfl hl (by decide) rfl (fun ls hl => ?_)
  refine lv_iconst (v := 1) hx hb dX6_fits_2 (by decide) ?_
  refine lv_istore_n (lv' := [(3, .int (1)), (2, .int (0)), (0, .ref (x 0)), (1, .int p1)]) hx hb dX6_fits_3 rfl hl (by decide) rfl (fun ls hl => ?_)
  obtain ⟨v6, hM, hNv6⟩ := xbd hM
  have hQv6 := hM
  have Kv6 : ∀ (H : Heap) (locs : List Loc) (ls : Array Slot), va_P D vwCl [((x 0), .inr (6, o6 x u_this)), ((x 3), .inr (4, o4 u_this_yard)), ((x 9), .inr (2, o2 (x 10) (x 11) (x 12) u_this_signs)), ((x 10), .inl (T.1, 6, .inl u_this_signs_whats)), ((x 11), .inl (T.1, 6, .inl u_this_signs_hours)), ((x 12), .inl (T.1, 6, .inl u_this_signs_seen)), ((x 21), .inr (4, o4 v6.2.2.1)), ((x 22), .inr (0, o0 v6.2.2.2))] H → va_D A [((x 0), .inr (6, o6 x u_this)), ((x 3), .inr (4, o4 u_this_yard)), ((x 9), .inr (2, o2 (x 10) (x 11) (x 12) u_this_signs)), ((x 10), .inl (T.1, 6, .inl u_this_signs_whats)), ((x 11), .inl (T.1, 6, .inl u_this_signs_hours)), ((x 12), .inl (T.1, 6, .inl u_this_signs_seen)), ((x 21), .inr (4, o4 v6.2.2.1)), ((x 22), .inr (0, o0 v6.2.2.2))] → va_S A s.heap H locs → lv_has ls 4 [(2, .int v6.1)] → W p l e ({ frames := 5, cells := 0, slots := 0, locals := 110 } : Room) s m ([.ref (x 0), .int p1] : List Value).toArray below meth c H locs 0 0 (MQ below (va_Qi (fun (r : Int32) (_ : Unit) => r = rv.1) (fun _ => xPost D T [((x 0), .inr (6, o6 x u_this)), ((x 3), .inr (4, o4 u_this_yard)), ((x 9), .inr (2, o2 (x 10) (x 11) (x 12) u_this_signs)), ((x 10), .inl (T.1, 6, .inl u_this_signs_whats)), ((x 11), .inl (T.1, 6, .inl u_this_signs_hours)), ((x 12), .inl (T.1, 6, .inl u_this_signs_seen)), ((x 21), .inr (4, o4 rv.2.1)), ((x 22), .inr (0, o0 rv.2.2))] A) A) ([.ref (x 0), .int p1] : List Value).toArray s 0 0 A) (F0 m 32 ls []) := by
    intro H locs ls hP hD hS hl
    have hM := hNv6
    refine lv_iload_n hx hb dX6_fits_32 rfl (lv_at hl 0 rfl) ?_
    obtain rfl := Option.some.inj hM
    exact xreti hx hb hr hlocks hP hK hD hS dX6_fits_33 rfl
  have Lv1 : ∀ (n : Nat) (v1 : Int32 × Int32 × K4 × K0), xlp (s_X6_fits_4 N u_this u_this_yard u_this_signs u_this_signs_whats u_this_signs_hours u_this_signs_seen p1) n v1 = some v6 → ∀ (H : Heap) (locs : List Loc) (ls : Array Slot), va_P D vwCl [((x 0), .inr (6, o6 x u_this)), ((x 3), .inr (4, o4 u_this_yard)), ((x 9), .inr (2, o2 (x 10) (x 11) (x 12) u_this_signs)), ((x 10), .inl (T.1, 6, .inl u_this_signs_whats)), ((x 11), .inl (T.1, 6, .inl u_this_signs_hours)), ((x 12), .inl (T.1, 6, .inl u_this_signs_seen)), ((x 21), .inr (4, o4 v1.2.2.1)), ((x 22), .inr (0, o0 v1.2.2.2))] H → va_D A [((x 0), .inr (6, o6 x u_this)), ((x 3), .inr (4, o4 u_this_yard)), ((x 9), .inr (2, o2 (x 10) (x 11) (x 12) u_this_signs)), ((x 10), .inl (T.1, 6, .inl u_this_signs_whats)), ((x 11), .inl (T.1, 6, .inl u_this_signs_hours)), ((x 12), .inl (T.1, 6, .inl u_this_signs_seen)), ((x 21), .inr (4, o4 v1.2.2.1)), ((x 22), .inr (0, o0 v1.2.2.2))] → va_S A s.heap H locs → lv_has ls 4 [(0, .ref (x 0)), (1, .int p1), (2, .int v1.1), (3, .int v1.2.1)] → W p l e ({ frames := 5, cells := 0, slots := 0, locals := 110 } : Room) s m ([.ref (x 0), .int p1] : List Value).toArray below meth c H locs 0 0 (MQ below (va_Qi (fun (r : Int32) (_ : Unit) => r = rv.1) (fun _ => xPost D T [((x 0), .inr (6, o6 x u_this)), ((x 3), .inr (4, o4 u_this_yard)), ((x 9), .inr (2, o2 (x 10) (x 11) (x 12) u_this_signs)), ((x 10), .inl (T.1, 6, .inl u_this_signs_whats)), ((x 11), .inl (T.1, 6, .inl u_this_signs_hours)), ((x 12), .inl (T.1, 6, .inl u_this_signs_seen)), ((x 21), .inr (4, o4 rv.2.1)), ((x 22), .inr (0, o0 rv.2.2))] A) A) ([.ref (x 0), .int p1] : List Value).toArray s 0 0 A) (F0 m 4 ls []) := by
    intro n
    induction n with
    | zero => exact fun _ h => (xlp_0 h).elim
    | succ n ih =>
      intro v1 hM H locs ls hP hD hS hl
      obtain ⟨z, hM, hz1, hz2⟩ := xlp_s hM
      unfold s_X6_fits_4 at hM
      refine lv_iload_n hx hb dX6_fits_4 rfl (lv_at hl 3 rfl) ?_
      refine lv_bipush (v := 9) hx hb dX6_fits_5 (by decide) ?_
      refine lv_icmp_gt (tgt := 32) hx hb dX6_fits_7 (by decide) (fun c2 => ?_) (fun c2 => ?_)
      · have hM := xit c2 hM
        obtain rfl := hz2 _ (Option.some.inj hM).symm
        exact Kv6 _ _ _ hP hD hS (lv_sub hl [2] rfl)
      · have hM := xif c2 hM
        refine lv_aload_n hx hb dX6_fits_10 rfl (lv_at hl 0 rfl) ?_
        refine lv_iload_n hx hb dX6_fits_11 rfl (lv_at hl 1 rfl) ?_
        refine lv_iload_n hx hb dX6_fits_12 rfl (lv_at hl 3 rfl) ?_
        obtain ⟨r3, er3, hM⟩ := xbd hM
        refine xaftv (W2 := [((x 0), .inr (6, o6 x u_this)), ((x 3), .inr (4, o4 u_this_yard)), ((x 9), .inr (2, o2 (x 10) (x 11) (x 12) u_this_signs)), ((x 10), .inl (T.1, 6, .inl u_this_signs_whats)), ((x 11), .inl (T.1, 6, .inl u_this_signs_hours)), ((x 12), .inl (T.1, 6, .inl u_this_signs_seen)), ((x 21), .inr (4, o4 r3)), ((x 22), .inr (0, o0 v1.2.2.2))]) (va_runV (As := [.int p1, .int v1.2.1]) (rest := []) ⟨hx, hb, hml, hown, hts⟩ (c_X6_trouble l D T x u_this u_this_yard v1.2.2.1 p1 v1.2.1 er3) (cwV 2 hts gX6_fits_X6_trouble rfl rfl rfl (by decide +kernel) ⟨Nat.le_of_ble_eq_true rfl, Nat.le_of_ble_eq_true rfl⟩) (xpvv hP hD hK [0, 1, 6] (by decide) rfl 0 6 rfl rfl (fun _ _ _ => trivial) (fun _ _ _ _ _ _ => trivial)) rfl rfl hl.1 rfl (lv_room (Nat.le_of_ble_eq_true rfl)) dX6_fits_13 ⟨Nat.le_of_ble_eq_true rfl, Nat.le_of_ble_eq_true rfl⟩) hP hD hS hA [0, 1, 6] rfl rfl rfl rfl (fun H locs hP hD hS => ?_)
        refine lv_aload_n hx hb dX6_fits_16 rfl (lv_at hl 0 rfl) ?_
        obtain ⟨r4, er4, hM⟩ := xbd hM
        refine xafti (rv := r4.1) (W2 := [((x 0), .inr (6, o6 x u_this)), ((x 3), .inr (4, o4 u_this_yard)), ((x 9), .inr (2, o2 (x 10) (x 11) (x 12) u_this_signs)), ((x 10), .inl (T.1, 6, .inl u_this_signs_whats)), ((x 11), .inl (T.1, 6, .inl u_this_signs_hours)), ((x 12), .inl (T.1, 6, .inl u_this_signs_seen)), ((x 21), .inr (4, o4 r3)), ((x 22), .inr (0, o0 r4.2))]) (va_runV (As := []) (rest := []) ⟨hx, hb, hml, hown, hts⟩ (c_X6_allSignsFit l D T x u_this u_this_signs u_this_signs_whats u_this_signs_hours u_this_signs_seen r3 v1.2.2.2 er4) (cwV 0 hts gX6_fits_X6_allSignsFit rfl rfl rfl (by decide +kernel) ⟨Nat.le_of_ble_eq_true rfl, Nat.le_of_ble_eq_true rfl⟩) (xpvv hP hD hK [0, 2, 3, 4, 5, 6, 7] (by decide) rfl 0 6 rfl rfl (fun _ _ _ => trivial) (fun _ _ _ _ _ _ => trivial)) rfl rfl hl.1 rfl (lv_room (Nat.le_of_ble_eq_true rfl)) dX6_fits_17 ⟨Nat.le_of_ble_eq_true rfl, Nat.le_of_ble_eq_true rfl⟩) hP hD hS hA [0, 2, 3, 4, 5, 6, 7] rfl rfl rfl rfl (fun H locs hP hD hS => ?_)
        refine lv_if_eq (tgt := 26) hx hb dX6_fits_20 (by decide) (fun c5 => ?_) (fun c5 => ?_)
        · have hM := xit c5 hM
          refine lv_iinc (v := v1.2.1 + 1) (lv' := [(3, .int (v1.2.1 + 1)), (0, .ref (x 0)), (1, .int p1), (2, .int v1.1)]) hx hb dX6_fits_26 hl (k := 3) rfl rfl (by decide) rfl (fun ls hl => ?_)
          refine lv_goto (tgt := 4) hx hb dX6_fits_29 (by decide) ?_
          exact ih _ (hz1 _ (Option.some.inj hM).symm) _ _ _ hP hD hS (lv_sub hl [1, 2, 3, 0] rfl)
        · have hM := xif c5 hM
          refine lv_iinc (v := v1.1 + 1) (lv' := [(2, .int (v1.1 + 1)), (0, .ref (x 0)), (1, .int p1), (3, .int v1.2.1)]) hx hb dX6_fits_23 hl (k := 2) rfl rfl (by decide) rfl (fun ls hl => ?_)
          refine lv_iinc (v := v1.2.1 + 1) (lv' := [(3, .int (v1.2.1 + 1)), (2, .int (v1.1 + 1)), (0, .ref (x 0)), (1, .int p1)]) hx hb dX6_fits_26 hl (k := 3) rfl rfl (by decide) rfl (fun ls hl => ?_)
          refine lv_goto (tgt := 4) hx hb dX6_fits_29 (by decide) ?_
          exact ih _ (hz1 _ (Option.some.inj hM).symm) _ _ _ hP hD hS (lv_sub hl [2, 3, 1, 0] rfl)
  exact Lv1 _ _ hM _ _ _ hP hD hS (lv_sub hl [2, 3, 1, 0] rfl)
def f_X6_fitting (N : Nat) (u_this : K6) (u_this_yard : K4) (u_this_signs : K2) (u_this_signs_whats : (Nat → Int32)) (u_this_signs_hours : (Nat → Int32)) (u_this_signs_seen : (Nat → Int32)) (u_this_other : K4) (u_this_shade : K0) (p1 : Int32) : Option (Int32 × K4 × K0) :=
  if (f_X6_outside p1 (0) (5)) = (0) then
   ((f_X6_fits N u_this u_this_yard u_this_signs u_this_signs_whats u_this_signs_hours u_this_signs_seen u_this_other u_this_shade p1).bind fun r2 =>
    some (r2.1, r2.2.1, r2.2.2))
  else
   (some ((-1), u_this_other, u_this_shade))
set_option maxHeartbeats 4000000 in
set_option maxRecDepth 100000 in
theorem c_X6_fitting (l : Launch) (D : va_G) (T : xT) (x : Nat → Nat) {sz : Nat} {N : Nat} (u_this : K6) (u_this_yard : K4) (u_this_signs : K2) (u_this_signs_whats : (Nat → Int32)) (u_this_signs_hours : (Nat → Int32)) (u_this_signs_seen : (Nat → Int32)) (u_this_other : K4) (u_this_shade : K0) (p1 : Int32) {rv : Int32 × K4 × K0} (hM : f_X6_fitting N u_this u_this_yard u_this_signs u_this_signs_whats u_this_signs_hours u_this_signs_seen u_this_other u_this_shade p1 = some rv) : Met l yX6_fitting wsX6_fitting ({ frames := 6, cells := 0, slots := 0, locals := 133 } : Room) (va_Pc [.ref (x 0), .int p1] (xPre D T [((x 0), .inr (6, o6 x u_this)), ((x 3), .inr (4, o4 u_this_yard)), ((x 9), .inr (2, o2 (x 10) (x 11) (x 12) u_this_signs)), ((x 10), .inl (T.1, 6, .inl u_this_signs_whats)), ((x 11), .inl (T.1, 6, .inl u_this_signs_hours)), ((x 12), .inl (T.1, 6, .inl u_this_signs_seen)), ((x 21), .inr (4, o4 u_this_other)), ((x 22), .inr (0, o0 u_this_shade))] sz xE0)) (va_Qi (fun (r : Int32) (_ : Unit) => r = rv.1) (fun _ => xPost D T [((x 0), .inr (6, o6 x u_this)), ((x 3), .inr (4, o4 u_this_yard)), ((x 9), .inr (2, o2 (x 10) (x 11) (x 12) u_this_signs)), ((x 10), .inl (T.1, 6, .inl u_this_signs_whats)), ((x 11), .inl (T.1, 6, .inl u_this_signs_hours)), ((x 12), .inl (T.1, 6, .inl u_this_signs_seen)), ((x 21), .inr (4, o4 rv.2.1)), ((x 22), .inr (0, o0 rv.2.2))] (va_A [((x 0), .inr (6, o6 x u_this)), ((x 3), .inr (4, o4 u_this_yard)), ((x 9), .inr (2, o2 (x 10) (x 11) (x 12) u_this_signs)), ((x 10), .inl (T.1, 6, .inl u_this_signs_whats)), ((x 11), .inl (T.1, 6, .inl u_this_signs_hours)), ((x 12), .inl (T.1, 6, .inl u_this_signs_seen)), ((x 21), .inr (4, o4 u_this_other)), ((x 22), .inr (0, o0 u_this_shade))] sz)) (va_A [((x 0), .inr (6, o6 x u_this)), ((x 3), .inr (4, o4 u_this_yard)), ((x 9), .inr (2, o2 (x 10) (x 11) (x 12) u_this_signs)), ((x 10), .inl (T.1, 6, .inl u_this_signs_whats)), ((x 11), .inl (T.1, 6, .inl u_this_signs_hours)), ((x 12), .inl (T.1, 6, .inl u_this_signs_seen)), ((x 21), .inr (4, o4 u_this_other)), ((x 22), .inr (0, o0 u_this_shade))] sz)) 0 0 (va_A [((x 0), .inr (6, o6 x u_this)), ((x 3), .inr (4, o4 u_this_yard)), ((x 9), .inr (2, o2 (x 10) (x 11) (x 12) u_this_signs)), ((x 10), .inl (T.1, 6, .inl u_this_signs_whats)), ((x 11), .inl (T.1, 6, .inl u_this_signs_hours)), ((x 12), .inl (T.1, 6, .inl u_this_signs_seen)), ((x 21), .inr (4, o4 u_this_other)), ((x 22), .inr (0, o0 u_this_shade))] sz) := by
  refine xMet (av := [.ref (x 0), .int p1]) (Wd := [((x 0), .inr (6, o6 x u_this)), ((x 3), .inr (4, o4 u_this_yard)), ((x 9), .inr (2, o2 (x 10) (x 11) (x 12) u_this_signs)), ((x 10), .inl (T.1, 6, .inl u_this_signs_whats)), ((x 11), .inl (T.1, 6, .inl u_this_signs_hours)), ((x 12), .inl (T.1, 6, .inl u_this_signs_seen)), ((x 21), .inr (4, o4 u_this_other)), ((x 22), .inr (0, o0 u_this_shade))]) (E := xE0) (Qc := fun A => (va_Qi (fun (r : Int32) (_ : Unit) => r = rv.1) (fun _ => xPost D T [((x 0), .inr (6, o6 x u_this)), ((x 3), .inr (4, o4 u_this_yard)), ((x 9), .inr (2, o2 (x 10) (x 11) (x 12) u_this_signs)), ((x 10), .inl (T.1, 6, .inl u_this_signs_whats)), ((x 11), .inl (T.1, 6, .inl u_this_signs_hours)), ((x 12), .inl (T.1, 6, .inl u_this_signs_seen)), ((x 21), .inr (4, o4 rv.2.1)), ((x 22), .inr (0, o0 rv.2.2))] A) A)) (cc := cX6_fitting) (maxL := 2) (ret := (some .int)) (by decide) rfl (Nat.le_of_ble_eq_true rfl) ?_
  intro p e s m below meth c A ls hx hb hr hml hts hown hlocks hnm hP hK hD hS hA hE hl
  have hown : s.vm.findClass RX6 = some m.cls := hown
  have hl : lv_has ls 2 [(0, .ref (x 0)), (1, .int p1)] := hl
  unfold f_X6_fitting at hM
  refine lv_iload_n hx hb dX6_fitting_0 rfl (lv_at hl 1 rfl) ?_
  refine lv_iconst (v := 0) hx hb dX6_fitting_1 (by decide) ?_
  refine lv_iconst (v := 5) hx hb dX6_fitting_2 (by decide) ?_
  refine xafti (rv := (f_X6_outside p1 (0) (5))) (W2 := [((x 0), .inr (6, o6 x u_this)), ((x 3), .inr (4, o4 u_this_yard)), ((x 9), .inr (2, o2 (x 10) (x 11) (x 12) u_this_signs)), ((x 10), .inl (T.1, 6, .inl u_this_signs_whats)), ((x 11), .inl (T.1, 6, .inl u_this_signs_hours)), ((x 12), .inl (T.1, 6, .inl u_this_signs_seen)), ((x 21), .inr (4, o4 u_this_other)), ((x 22), .inr (0, o0 u_this_shade))]) (va_runS (As := [.int p1, .int (0), .int (5)]) (rest := []) ⟨hx, hb, hml, hown, hts⟩ (c_X6_outside (rv := (f_X6_outside p1 (0) (5))) l D T p1 (0) (5) rfl) (cwS 3 hts gX6_fitting_X6_outside rfl rfl rfl (by decide +kernel) ⟨Nat.le_of_ble_eq_true rfl, Nat.le_of_ble_eq_true rfl⟩) (xpvs hP hD hK [] (by decide) rfl (fun _ _ _ => trivial) (fun _ _ _ _ _ _ => trivial)) rfl rfl hl.1 rfl (lv_room (Nat.le_of_ble_eq_true rfl)) dX6_fitting_3 ⟨Nat.le_of_ble_eq_true rfl, Nat.le_of_ble_eq_true rfl⟩) hP hD hS hA [] rfl rfl rfl rfl (fun H locs hP hD hS => ?_)
  refine lv_if_eq (tgt := 11) hx hb dX6_fitting_6 (by decide) (fun c1 => ?_) (fun c1 => ?_)
  · have hM := xit c1 hM
    refine lv_aload_n hx hb dX6_fitting_11 rfl (lv_at hl 0 rfl) ?_
    refine lv_iload_n hx hb dX6_fitting_12 rfl (lv_at hl 1 rfl) ?_
    obtain ⟨r2, er2, hM⟩ := xbd hM
    refine xafti (rv := r2.1) (W2 := [((x 0), .inr (6, o6 x u_this)), ((x 3), .inr (4, o4 u_this_yard)), ((x 9), .inr (2, o2 (x 10) (x 11) (x 12) u_this_signs)), ((x 10), .inl (T.1, 6, .inl u_this_signs_whats)), ((x 11), .inl (T.1, 6, .inl u_this_signs_hours)), ((x 12), .inl (T.1, 6, .inl u_this_signs_seen)), ((x 21), .inr (4, o4 r2.2.1)), ((x 22), .inr (0, o0 r2.2.2))]) (va_runV (As := [.int p1]) (rest := []) ⟨hx, hb, hml, hown, hts⟩ (c_X6_fits l D T x u_this u_this_yard u_this_signs u_this_signs_whats u_this_signs_hours u_this_signs_seen u_this_other u_this_shade p1 er2) (cwV 1 hts gX6_fitting_X6_fits rfl rfl rfl (by decide +kernel) ⟨Nat.le_of_ble_eq_true rfl, Nat.le_of_ble_eq_true rfl⟩) (xpvv hP hD hK [0, 1, 2, 3, 4, 5, 6, 7] (by decide) rfl 0 6 rfl rfl (fun _ _ _ => trivial) (fun _ _ _ _ _ _ => trivial)) rfl rfl hl.1 rfl (lv_room (Nat.le_of_ble_eq_true rfl)) dX6_fitting_13 ⟨Nat.le_of_ble_eq_true rfl, Nat.le_of_ble_eq_true rfl⟩) hP hD hS hA [0, 1, 2, 3, 4, 5, 6, 7] rfl rfl rfl rfl (fun H locs hP hD hS => ?_)
    obtain rfl := Option.some.inj hM
    exact xreti hx hb hr hlocks hP hK hD hS dX6_fitting_16 rfl
  · have hM := xif c1 hM
    refine lv_iconst (v := (-1)) hx hb dX6_fitting_9 (by decide) ?_
    obtain rfl := Option.some.inj hM
    exact xreti hx hb hr hlocks hP hK hD hS dX6_fitting_10 rfl
def s_X6_odds_25 (N : Nat) (u_this : K6) (u_this_yard : K4) (u_this_signs : K2) (u_this_signs_whats : (Nat → Int32)) (u_this_signs_hours : (Nat → Int32)) (u_this_signs_seen : (Nat → Int32)) (u_this_chances : (Nat → Int32)) (v3 : Int32 × Int32 × K4 × K0) : Option ((Int32 × Int32 × K4 × K0) ⊕ (Int32 × Int32 × K4 × K0)) :=
  if (6) ≤ v3.2.1 then
   (some (.inr (v3.1, v3.2.1, v3.2.2.1, v3.2.2.2)))
  else
   (if xin v3.2.1 6 = true then
    ((f_X6_fits N u_this u_this_yard u_this_signs u_this_signs_whats u_this_signs_hours u_this_signs_seen v3.2.2.1 v3.2.2.2 v3.2.1).bind fun r6 =>
     some (.inl ((v3.1 + ((u_this_chances v3.2.1.toNatClampNeg) * r6.1)), v3.2.1 + 1, r6.2.1, r6.2.2)))
    else none)
def f_X6_odds (N : Nat) (u_this : K6) (u_this_yard : K4) (u_this_signs : K2) (u_this_signs_whats : (Nat → Int32)) (u_this_signs_hours : (Nat → Int32)) (u_this_signs_seen : (Nat → Int32)) (u_this_chances : (Nat → Int32)) (u_this_other : K4) (u_this_shade : K0) (p1 : Int32) (p2 : Int32) : Option (Int32 × K4 × K0) :=
  if (f_X6_outside p1 (0) (5)) = (0) then
   (if (f_X6_outside p2 (0) (1)) = (0) then
     ((xlp (s_X6_odds_25 N u_this u_this_yard u_this_signs u_this_signs_whats u_this_signs_hours u_this_signs_seen u_this_chances) N (0, 0, u_this_other, u_this_shade)).bind fun v7 =>
      if v7.1 = (0) then
       (some ((-2), v7.2.2.1, v7.2.2.2))
      else
       (if xin p1 6 = true then
        ((f_X6_fits N u_this u_this_yard u_this_signs u_this_signs_whats u_this_signs_hours u_this_signs_seen v7.2.2.1 v7.2.2.2 p1).bind fun r10 =>
         ((if p2 = (0) then
            (some (1))
           else
            (some (0)) : Option (Int32))).bind fun v12 =>
         (f_X6_leastTerms N (((u_this_chances p1.toNatClampNeg) * r10.1).toInt64) v7.1.toInt64 v12).bind fun r13 =>
         some (r13.toInt32, r10.2.1, r10.2.2))
        else none))
    else
     (some ((-1), u_this_other, u_this_shade)))
  else
   (some ((-1), u_this_other, u_this_shade))
set_option maxHeartbeats 4000000 in
set_option maxRecDepth 100000 in
theorem c_X6_odds (l : Launch) (D : va_G) (T : xT) (x : Nat → Nat) {sz : Nat} {N : Nat} (u_this : K6) (u_this_yard : K4) (u_this_signs : K2) (u_this_signs_whats : (Nat → Int32)) (u_this_signs_hours : (Nat → Int32)) (u_this_signs_seen : (Nat → Int32)) (u_this_chances : (Nat → Int32)) (u_this_other : K4) (u_this_shade : K0) (p1 : Int32) (p2 : Int32) {rv : Int32 × K4 × K0} (hM : f_X6_odds N u_this u_this_yard u_this_signs u_this_signs_whats u_this_signs_hours u_this_signs_seen u_this_chances u_this_other u_this_shade p1 p2 = some rv) : Met l yX6_odds wsX6_odds ({ frames := 6, cells := 0, slots := 0, locals := 133 } : Room) (va_Pc [.ref (x 0), .int p1, .int p2] (xPre D T [((x 0), .inr (6, o6 x u_this)), ((x 3), .inr (4, o4 u_this_yard)), ((x 9), .inr (2, o2 (x 10) (x 11) (x 12) u_this_signs)), ((x 10), .inl (T.1, 6, .inl u_this_signs_whats)), ((x 11), .inl (T.1, 6, .inl u_this_signs_hours)), ((x 12), .inl (T.1, 6, .inl u_this_signs_seen)), ((x 13), .inl (T.1, 6, .inl u_this_chances)), ((x 21), .inr (4, o4 u_this_other)), ((x 22), .inr (0, o0 u_this_shade))] sz xE0)) (va_Qi (fun (r : Int32) (_ : Unit) => r = rv.1) (fun _ => xPost D T [((x 0), .inr (6, o6 x u_this)), ((x 3), .inr (4, o4 u_this_yard)), ((x 9), .inr (2, o2 (x 10) (x 11) (x 12) u_this_signs)), ((x 10), .inl (T.1, 6, .inl u_this_signs_whats)), ((x 11), .inl (T.1, 6, .inl u_this_signs_hours)), ((x 12), .inl (T.1, 6, .inl u_this_signs_seen)), ((x 13), .inl (T.1, 6, .inl u_this_chances)), ((x 21), .inr (4, o4 rv.2.1)), ((x 22), .inr (0, o0 rv.2.2))] (va_A [((x 0), .inr (6, o6 x u_this)), ((x 3), .inr (4, o4 u_this_yard)), ((x 9), .inr (2, o2 (x 10) (x 11) (x 12) u_this_signs)), ((x 10), .inl (T.1, 6, .inl u_this_signs_whats)), ((x 11), .inl (T.1, 6, .inl u_this_signs_hours)), ((x 12), .inl (T.1, 6, .inl u_this_signs_seen)), ((x 13), .inl (T.1, 6, .inl u_this_chances)), ((x 21), .inr (4, o4 u_this_other)), ((x 22), .inr (0, o0 u_this_shade))] sz)) (va_A [((x 0), .inr (6, o6 x u_this)), ((x 3), .inr (4, o4 u_this_yard)), ((x 9), .inr (2, o2 (x 10) (x 11) (x 12) u_this_signs)), ((x 10), .inl (T.1, 6, .inl u_this_signs_whats)), ((x 11), .inl (T.1, 6, .inl u_this_signs_hours)), ((x 12), .inl (T.1, 6, .inl u_this_signs_seen)), ((x 13), .inl (T.1, 6, .inl u_this_chances)), ((x 21), .inr (4, o4 u_this_other)), ((x 22), .inr (0, o0 u_this_shade))] sz)) 0 0 (va_A [((x 0), .inr (6, o6 x u_this)), ((x 3), .inr (4, o4 u_this_yard)), ((x 9), .inr (2, o2 (x 10) (x 11) (x 12) u_this_signs)), ((x 10), .inl (T.1, 6, .inl u_this_signs_whats)), ((x 11), .inl (T.1, 6, .inl u_this_signs_hours)), ((x 12), .inl (T.1, 6, .inl u_this_signs_seen)), ((x 13), .inl (T.1, 6, .inl u_this_chances)), ((x 21), .inr (4, o4 u_this_other)), ((x 22), .inr (0, o0 u_this_shade))] sz) := by
  refine xMet (av := [.ref (x 0), .int p1, .int p2]) (Wd := [((x 0), .inr (6, o6 x u_this)), ((x 3), .inr (4, o4 u_this_yard)), ((x 9), .inr (2, o2 (x 10) (x 11) (x 12) u_this_signs)), ((x 10), .inl (T.1, 6, .inl u_this_signs_whats)), ((x 11), .inl (T.1, 6, .inl u_this_signs_hours)), ((x 12), .inl (T.1, 6, .inl u_this_signs_seen)), ((x 13), .inl (T.1, 6, .inl u_this_chances)), ((x 21), .inr (4, o4 u_this_other)), ((x 22), .inr (0, o0 u_this_shade))]) (E := xE0) (Qc := fun A => (va_Qi (fun (r : Int32) (_ : Unit) => r = rv.1) (fun _ => xPost D T [((x 0), .inr (6, o6 x u_this)), ((x 3), .inr (4, o4 u_this_yard)), ((x 9), .inr (2, o2 (x 10) (x 11) (x 12) u_this_signs)), ((x 10), .inl (T.1, 6, .inl u_this_signs_whats)), ((x 11), .inl (T.1, 6, .inl u_this_signs_hours)), ((x 12), .inl (T.1, 6, .inl u_this_signs_seen)), ((x 13), .inl (T.1, 6, .inl u_this_chances)), ((x 21), .inr (4, o4 rv.2.1)), ((x 22), .inr (0, o0 rv.2.2))] A) A)) (cc := cX6_odds) (maxL := 5) (ret := (some .int)) (by decide) rfl (Nat.le_of_ble_eq_true rfl) ?_
  intro p e s m below meth c A ls hx hb hr hml hts hown hlocks hnm hP hK hD hS hA hE hl
  have hown : s.vm.findClass RX6 = some m.cls := hown
  have hl : lv_has ls 5 [(0, .ref (x 0)), (1, .int p1), (2, .int p2)] := hl
  unfold f_X6_odds at hM
  refine lv_iload_n hx hb dX6_odds_0 rfl (lv_at hl 1 rfl) ?_
  refine lv_iconst (v := 0) hx hb dX6_odds_1 (by decide) ?_
  refine lv_iconst (v := 5) hx hb dX6_odds_2 (by decide) ?_
  refine xafti (rv := (f_X6_outside p1 (0) (5))) (W2 := [((x 0), .inr (6, o6 x u_this)), ((x 3), .inr (4, o4 u_this_yard)), ((x 9), .inr (2, o2 (x 10) (x 11) (x 12) u_this_signs)), ((x 10), .inl (T.1, 6, .inl u_this_signs_whats)), ((x 11), .inl (T.1, 6, .inl u_this_signs_hours)), ((x 12), .inl (T.1, 6, .inl u_this_signs_seen)), ((x 13), .inl (T.1, 6, .inl u_this_chances)), ((x 21), .inr (4, o4 u_this_other)), ((x 22), .inr (0, o0 u_this_shade))]) (va_runS (As := [.int p1, .int (0), .int (5)]) (rest := []) ⟨hx, hb, hml, hown, hts⟩ (c_X6_outside (rv := (f_X6_outside p1 (0) (5))) l D T p1 (0) (5) rfl) (cwS 3 hts gX6_odds_X6_outside rfl rfl rfl (by decide +kernel) ⟨Nat.le_of_ble_eq_true rfl, Nat.le_of_ble_eq_true rfl⟩) (xpvs hP hD hK [] (by decide) rfl (fun _ _ _ => trivial) (fun _ _ _ _ _ _ => trivial)) rfl rfl hl.1 rfl (lv_room (Nat.le_of_ble_eq_true rfl)) dX6_odds_3 ⟨Nat.le_of_ble_eq_true rfl, Nat.le_of_ble_eq_true rfl⟩) hP hD hS hA [] rfl rfl rfl rfl (fun H locs hP hD hS => ?_)
  refine lv_if_ne (tgt := 18) hx hb dX6_odds_6 (by decide) (fun c1 => ?_) (fun c1 => ?_)
  · have hM := xif c1 hM
    refine lv_iconst (v := (-1)) hx hb dX6_odds_18 (by decide) ?_
    obtain rfl := Option.some.inj hM
    exact xreti hx hb hr hlocks hP hK hD hS dX6_odds_19 rfl
  · have hM := xit c1 hM
    refine lv_iload_n hx hb dX6_odds_9 rfl (lv_at hl 2 rfl) ?_
    refine lv_iconst (v := 0) hx hb dX6_odds_10 (by decide) ?_
    refine lv_iconst (v := 1) hx hb dX6_odds_11 (by decide) ?_
    refine xafti (rv := (f_X6_outside p2 (0) (1))) (W2 := [((x 0), .inr (6, o6 x u_this)), ((x 3), .inr (4, o4 u_this_yard)), ((x 9), .inr (2, o2 (x 10) (x 11) (x 12) u_this_signs)), ((x 10), .inl (T.1, 6, .inl u_this_signs_whats)), ((x 11), .inl (T.1, 6, .inl u_this_signs_hours)), ((x 12), .inl (T.1, 6, .inl u_this_signs_seen)), ((x 13), .inl (T.1, 6, .inl u_this_chances)), ((x 21), .inr (4, o4 u_this_other)), ((x 22), .inr (0, o0 u_this_shade))]) (va_runS (As := [.int p2, .int (0), .int (1)]) (rest := []) ⟨hx, hb, hml, hown, hts⟩ (c_X6_outside (rv := (f_X6_outside p2 (0) (1))) l D T p2 (0) (1) rfl) (cwS 3 hts gX6_odds_X6_outside rfl rfl rfl (by decide +kernel) ⟨Nat.le_of_ble_eq_true rfl, Nat.le_of_ble_eq_true rfl⟩) (xpvs hP hD hK [] (by decide) rfl (fun _ _ _ => trivial) (fun _ _ _ _ _ _ => trivial)) rfl rfl hl.1 rfl (lv_room (Nat.le_of_ble_eq_true rfl)) dX6_odds_12 ⟨Nat.le_of_ble_eq_true rfl, Nat.le_of_ble_eq_true rfl⟩) hP hD hS hA [] rfl rfl rfl rfl (fun H locs hP hD hS => ?_)
    refine lv_if_eq (tgt := 20) hx hb dX6_odds_15 (by decide) (fun c2 => ?_) (fun c2 => ?_)
    · have hM := xit c2 hM
      refine lv_iconst (v := 0) hx hb dX6_odds_20 (by decide) ?_
      refine lv_istore_n (lv' := [(3, .int (0)), (0, .ref (x 0)), (1, .int p1), (2, .int p2)]) hx hb dX6_odds_21 rfl hl (by decide) rfl (fun ls hl => ?_)
      refine lv_iconst (v := 0) hx hb dX6_odds_22 (by decide) ?_
      refine lv_istore (lv' := [(4, .int (0)), (3, .int (0)), (0, .ref (x 0)), (1, .int p1), (2, .int p2)]) hx hb dX6_odds_23 hl (by decide) rfl (fun ls hl => ?_)
      obtain ⟨v7, hM, hNv7⟩ := xbd hM
      have hQv7 := hM
      have Kv7 : ∀ (H : Heap) (locs : List Loc) (ls : Array Slot), va_P D vwCl [((x 0), .inr (6, o6 x u_this)), ((x 3), .inr (4, o4 u_this_yard)), ((x 9), .inr (2, o2 (x 10) (x 11) (x 12) u_this_signs)), ((x 10), .inl (T.1, 6, .inl u_this_signs_whats)), ((x 11), .inl (T.1, 6, .inl u_this_signs_hours)), ((x 12), .inl (T.1, 6, .inl u_this_signs_seen)), ((x 13), .inl (T.1, 6, .inl u_this_chances)), ((x 21), .inr (4, o4 v7.2.2.1)), ((x 22), .inr (0, o0 v7.2.2.2))] H → va_D A [((x 0), .inr (6, o6 x u_this)), ((x 3), .inr (4, o4 u_this_yard)), ((x 9), .inr (2, o2 (x 10) (x 11) (x 12) u_this_signs)), ((x 10), .inl (T.1, 6, .inl u_this_signs_whats)), ((x 11), .inl (T.1, 6, .inl u_this_signs_hours)), ((x 12), .inl (T.1, 6, .inl u_this_signs_seen)), ((x 13), .inl (T.1, 6, .inl u_this_chances)), ((x 21), .inr (4, o4 v7.2.2.1)), ((x 22), .inr (0, o0 v7.2.2.2))] → va_S A s.heap H locs → lv_has ls 5 [(0, .ref (x 0)), (1, .int p1), (2, .int p2), (3, .int v7.1)] → W p l e ({ frames := 6, cells := 0, slots := 0, locals := 133 } : Room) s m ([.ref (x 0), .int p1, .int p2] : List Value).toArray below meth c H locs 0 0 (MQ below (va_Qi (fun (r : Int32) (_ : Unit) => r = rv.1) (fun _ => xPost D T [((x 0), .inr (6, o6 x u_this)), ((x 3), .inr (4, o4 u_this_yard)), ((x 9), .inr (2, o2 (x 10) (x 11) (x 12) u_this_signs)), ((x 10), .inl (T.1, 6, .inl u_this_signs_whats)), ((x 11), .inl (T.1, 6, .inl u_this_signs_hours)), ((x 12), .inl (T.1, 6, .inl u_this_signs_seen)), ((x 13), .inl (T.1, 6, .inl u_this_chances)), ((x 21), .inr (4, o4 rv.2.1)), ((x 22), .inr (0, o0 rv.2.2))] A) A) ([.ref (x 0), .int p1, .int p2] : List Value).toArray s 0 0 A) (F0 m 55 ls []) := by
        intro H locs ls hP hD hS hl
        have hM := hNv7
        refine lv_iload_n hx hb dX6_odds_55 rfl (lv_at hl 3 rfl) ?_
        refine lv_if_ne (tgt := 62) hx hb dX6_odds_56 (by decide) (fun c8 => ?_) (fun c8 => ?_)
        · have hM := xif c8 hM
          refine lv_aload_n hx hb dX6_odds_62 rfl (lv_at hl 0 rfl) ?_
          refine va_get (D := D) (ci := 6) (v := .ref (x 13)) (C := RX6) (T := TX6) (N := 16) hx hb hts (fun w h => List.mem_cons_of_mem _ (List.mem_append_left _ (List.mem_append_left _ (List.mem_append_left _ (List.mem_append_right _ h))))) hown hK hP 0 rfl rfl 6 (by decide) (hts _ (List.mem_of_getElem? (i := 1) rfl)) (fun _ h9 => h9) rfl dX6_odds_63 ?_
          refine lv_iload_n hx hb dX6_odds_66 rfl (lv_at hl 1 rfl) ?_
          obtain ⟨g9, hM⟩ := xck hM
          refine xald (v := (u_this_chances p1.toNatClampNeg)) hx hb hK hP 6 0 rfl rfl g9 rfl dX6_odds_67 ?_
          refine lv_aload_n hx hb dX6_odds_68 rfl (lv_at hl 0 rfl) ?_
          refine lv_iload_n hx hb dX6_odds_69 rfl (lv_at hl 1 rfl) ?_
          obtain ⟨r10, er10, hM⟩ := xbd hM
          refine xafti (rv := r10.1) (W2 := [((x 0), .inr (6, o6 x u_this)), ((x 3), .inr (4, o4 u_this_yard)), ((x 9), .inr (2, o2 (x 10) (x 11) (x 12) u_this_signs)), ((x 10), .inl (T.1, 6, .inl u_this_signs_whats)), ((x 11), .inl (T.1, 6, .inl u_this_signs_hours)), ((x 12), .inl (T.1, 6, .inl u_this_signs_seen)), ((x 13), .inl (T.1, 6, .inl u_this_chances)), ((x 21), .inr (4, o4 r10.2.1)), ((x 22), .inr (0, o0 r10.2.2))]) (va_runV (As := [.int p1]) (rest := [.int (u_this_chances p1.toNatClampNeg)]) ⟨hx, hb, hml, hown, hts⟩ (c_X6_fits l D T x u_this u_this_yard u_this_signs u_this_signs_whats u_this_signs_hours u_this_signs_seen v7.2.2.1 v7.2.2.2 p1 er10) (cwV 1 hts gX6_odds_X6_fits rfl rfl rfl (by decide +kernel) ⟨Nat.le_of_ble_eq_true rfl, Nat.le_of_ble_eq_true rfl⟩) (xpvv hP hD hK [0, 1, 2, 3, 4, 5, 7, 8] (by decide) rfl 0 6 rfl rfl (fun _ _ _ => trivial) (fun _ _ _ _ _ _ => trivial)) rfl rfl hl.1 rfl (lv_room (Nat.le_of_ble_eq_true rfl)) dX6_odds_70 ⟨Nat.le_of_ble_eq_true rfl, Nat.le_of_ble_eq_true rfl⟩) hP hD hS hA [0, 1, 2, 3, 4, 5, 7, 8] rfl rfl rfl rfl (fun H locs hP hD hS => ?_)
          refine lv_imul hx hb dX6_odds_73 ?_
          refine lv_i2l (v := ((u_this_chances p1.toNatClampNeg) * r10.1).toInt64) hx hb dX6_odds_74 rfl ?_
          refine lv_iload_n hx hb dX6_odds_75 rfl (lv_at hl 3 rfl) ?_
          refine lv_i2l (v := v7.1.toInt64) hx hb dX6_odds_76 rfl ?_
          refine lv_iload_n hx hb dX6_odds_77 rfl (lv_at hl 2 rfl) ?_
          obtain ⟨v12, hM, hNv12⟩ := xbd hM
          have Kv12 : ∀ (H : Heap) (locs : List Loc) (ls : Array Slot), va_P D vwCl [((x 0), .inr (6, o6 x u_this)), ((x 3), .inr (4, o4 u_this_yard)), ((x 9), .inr (2, o2 (x 10) (x 11) (x 12) u_this_signs)), ((x 10), .inl (T.1, 6, .inl u_this_signs_whats)), ((x 11), .inl (T.1, 6, .inl u_this_signs_hours)), ((x 12), .inl (T.1, 6, .inl u_this_signs_seen)), ((x 13), .inl (T.1, 6, .inl u_this_chances)), ((x 21), .inr (4, o4 r10.2.1)), ((x 22), .inr (0, o0 r10.2.2))] H → va_D A [((x 0), .inr (6, o6 x u_this)), ((x 3), .inr (4, o4 u_this_yard)), ((x 9), .inr (2, o2 (x 10) (x 11) (x 12) u_this_signs)), ((x 10), .inl (T.1, 6, .inl u_this_signs_whats)), ((x 11), .inl (T.1, 6, .inl u_this_signs_hours)), ((x 12), .inl (T.1, 6, .inl u_this_signs_seen)), ((x 13), .inl (T.1, 6, .inl u_this_chances)), ((x 21), .inr (4, o4 r10.2.1)), ((x 22), .inr (0, o0 r10.2.2))] → va_S A s.heap H locs → lv_has ls 5 [] → W p l e ({ frames := 6, cells := 0, slots := 0, locals := 133 } : Room) s m ([.ref (x 0), .int p1, .int p2] : List Value).toArray below meth c H locs 0 0 (MQ below (va_Qi (fun (r : Int32) (_ : Unit) => r = rv.1) (fun _ => xPost D T [((x 0), .inr (6, o6 x u_this)), ((x 3), .inr (4, o4 u_this_yard)), ((x 9), .inr (2, o2 (x 10) (x 11) (x 12) u_this_signs)), ((x 10), .inl (T.1, 6, .inl u_this_signs_whats)), ((x 11), .inl (T.1, 6, .inl u_this_signs_hours)), ((x 12), .inl (T.1, 6, .inl u_this_signs_seen)), ((x 13), .inl (T.1, 6, .inl u_this_chances)), ((x 21), .inr (4, o4 rv.2.1)), ((x 22), .inr (0, o0 rv.2.2))] A) A) ([.ref (x 0), .int p1, .int p2] : List Value).toArray s 0 0 A) (F0 m 86 ls [.int v12, .long v7.1.toInt64, .long (((u_this_chances p1.toNatClampNeg) * r10.1).toInt64)]) := by
            intro H locs ls hP hD hS hl
            have hM := hNv12
            obtain ⟨r13, er13, hM⟩ := xbd hM
            refine xaftl (rv := r13) (W2 := [((x 0), .inr (6, o6 x u_this)), ((x 3), .inr (4, o4 u_this_yard)), ((x 9), .inr (2, o2 (x 10) (x 11) (x 12) u_this_signs)), ((x 10), .inl (T.1, 6, .inl u_this_signs_whats)), ((x 11), .inl (T.1, 6, .inl u_this_signs_hours)), ((x 12), .inl (T.1, 6, .inl u_this_signs_seen)), ((x 13), .inl (T.1, 6, .inl u_this_chances)), ((x 21), .inr (4, o4 r10.2.1)), ((x 22), .inr (0, o0 r10.2.2))]) (va_runS (As := [.long (((u_this_chances p1.toNatClampNeg) * r10.1).toInt64), .long v7.1.toInt64, .int v12]) (rest := []) ⟨hx, hb, hml, hown, hts⟩ (c_X6_leastTerms l D T (((u_this_chances p1.toNatClampNeg) * r10.1).toInt64) v7.1.toInt64 v12 er13) (cwS 3 hts gX6_odds_X6_leastTerms rfl rfl rfl (by decide +kernel) ⟨Nat.le_of_ble_eq_true rfl, Nat.le_of_ble_eq_true rfl⟩) (xpvs hP hD hK [] (by decide) rfl (fun _ _ _ => trivial) (fun _ _ _ _ _ _ => trivial)) rfl rfl hl.1 rfl (lv_room (Nat.le_of_ble_eq_true rfl)) dX6_odds_86 ⟨Nat.le_of_ble_eq_true rfl, Nat.le_of_ble_eq_true rfl⟩) hP hD hS hA [] rfl rfl rfl rfl (fun H locs hP hD hS => ?_)
            refine lv_l2i (v := r13.toInt32) hx hb dX6_odds_89 rfl ?_
            obtain rfl := Option.some.inj hM
            exact xreti hx hb hr hlocks hP hK hD hS dX6_odds_90 rfl
          refine lv_if_ne (tgt := 85) hx hb dX6_odds_78 (by decide) (fun c11 => ?_) (fun c11 => ?_)
          · have hM := xif c11 hM
            refine lv_iconst (v := 0) hx hb dX6_odds_85 (by decide) ?_
            obtain rfl := Option.some.inj hM
            exact Kv12 _ _ _ hP hD hS (lv_sub hl [] rfl)
          · have hM := xit c11 hM
            refine lv_iconst (v := 1) hx hb dX6_odds_81 (by decide) ?_
            refine lv_goto (tgt := 86) hx hb dX6_odds_82 (by decide) ?_
            obtain rfl := Option.some.inj hM
            exact Kv12 _ _ _ hP hD hS (lv_sub hl [] rfl)
        · have hM := xit c8 hM
          refine lv_bipush (v := (-2)) hx hb dX6_odds_59 (by decide) ?_
          obtain rfl := Option.some.inj hM
          exact xreti hx hb hr hlocks hP hK hD hS dX6_odds_61 rfl
      have Lv3 : ∀ (n : Nat) (v3 : Int32 × Int32 × K4 × K0), xlp (s_X6_odds_25 N u_this u_this_yard u_this_signs u_this_signs_whats u_this_signs_hours u_this_signs_seen u_this_chances) n v3 = some v7 → ∀ (H : Heap) (locs : List Loc) (ls : Array Slot), va_P D vwCl [((x 0), .inr (6, o6 x u_this)), ((x 3), .inr (4, o4 u_this_yard)), ((x 9), .inr (2, o2 (x 10) (x 11) (x 12) u_this_signs)), ((x 10), .inl (T.1, 6, .inl u_this_signs_whats)), ((x 11), .inl (T.1, 6, .inl u_this_signs_hours)), ((x 12), .inl (T.1, 6, .inl u_this_signs_seen)), ((x 13), .inl (T.1, 6, .inl u_this_chances)), ((x 21), .inr (4, o4 v3.2.2.1)), ((x 22), .inr (0, o0 v3.2.2.2))] H → va_D A [((x 0), .inr (6, o6 x u_this)), ((x 3), .inr (4, o4 u_this_yard)), ((x 9), .inr (2, o2 (x 10) (x 11) (x 12) u_this_signs)), ((x 10), .inl (T.1, 6, .inl u_this_signs_whats)), ((x 11), .inl (T.1, 6, .inl u_this_signs_hours)), ((x 12), .inl (T.1, 6, .inl u_this_signs_seen)), ((x 13), .inl (T.1, 6, .inl u_this_chances)), ((x 21), .inr (4, o4 v3.2.2.1)), ((x 22), .inr (0, o0 v3.2.2.2))] → va_S A s.heap H locs → lv_has ls 5 [(0, .ref (x 0)), (1, .int p1), (2, .int p2), (3, .int v3.1), (4, .int v3.2.1)] → W p l e ({ frames := 6, cells := 0, slots := 0, locals := 133 } : Room) s m ([.ref (x 0), .int p1, .int p2] : List Value).toArray below meth c H locs 0 0 (MQ below (va_Qi (fun (r : Int32) (_ : Unit) => r = rv.1) (fun _ => xPost D T [((x 0), .inr (6, o6 x u_this)), ((x 3), .inr (4, o4 u_this_yard)), ((x 9), .inr (2, o2 (x 10) (x 11) (x 12) u_this_signs)), ((x 10), .inl (T.1, 6, .inl u_this_signs_whats)), ((x 11), .inl (T.1, 6, .inl u_this_signs_hours)), ((x 12), .inl (T.1, 6, .inl u_this_signs_seen)), ((x 13), .inl (T.1, 6, .inl u_this_chances)), ((x 21), .inr (4, o4 rv.2.1)), ((x 22), .inr (0, o0 rv.2.2))] A) A) ([.ref (x 0), .int p1, .int p2] : List Value).toArray s 0 0 A) (F0 m 25 ls []) := by
        intro n
        induction n with
        | zero => exact fun _ h => (xlp_0 h).elim
        | succ n ih =>
          intro v3 hM H locs ls hP hD hS hl
          obtain ⟨z, hM, hz1, hz2⟩ := xlp_s hM
          unfold s_X6_odds_25 at hM
          refine lv_iload hx hb dX6_odds_25 (lv_at hl 4 rfl) ?_
          refine lv_bipush (v := 6) hx hb dX6_odds_27 (by decide) ?_
          refine lv_icmp_ge (tgt := 55) hx hb dX6_odds_29 (by decide) (fun c4 => ?_) (fun c4 => ?_)
          · have hM := xit c4 hM
            obtain rfl := hz2 _ (Option.some.inj hM).symm
            exact Kv7 _ _ _ hP hD hS (lv_sub hl [0, 1, 2, 3] rfl)
          · have hM := xif c4 hM
            refine lv_iload_n hx hb dX6_odds_32 rfl (lv_at hl 3 rfl) ?_
            refine lv_aload_n hx hb dX6_odds_33 rfl (lv_at hl 0 rfl) ?_
            refine va_get (D := D) (ci := 6) (v := .ref (x 13)) (C := RX6) (T := TX6) (N := 16) hx hb hts (fun w h => List.mem_cons_of_mem _ (List.mem_append_left _ (List.mem_append_left _ (List.mem_append_left _ (List.mem_append_right _ h))))) hown hK hP 0 rfl rfl 6 (by decide) (hts _ (List.mem_of_getElem? (i := 1) rfl)) (fun _ h9 => h9) rfl dX6_odds_34 ?_
            refine lv_iload hx hb dX6_odds_37 (lv_at hl 4 rfl) ?_
            obtain ⟨g5, hM⟩ := xck hM
            refine xald (v := (u_this_chances v3.2.1.toNatClampNeg)) hx hb hK hP 6 0 rfl rfl g5 rfl dX6_odds_39 ?_
            refine lv_aload_n hx hb dX6_odds_40 rfl (lv_at hl 0 rfl) ?_
            refine lv_iload hx hb dX6_odds_41 (lv_at hl 4 rfl) ?_
            obtain ⟨r6, er6, hM⟩ := xbd hM
            refine xafti (rv := r6.1) (W2 := [((x 0), .inr (6, o6 x u_this)), ((x 3), .inr (4, o4 u_this_yard)), ((x 9), .inr (2, o2 (x 10) (x 11) (x 12) u_this_signs)), ((x 10), .inl (T.1, 6, .inl u_this_signs_whats)), ((x 11), .inl (T.1, 6, .inl u_this_signs_hours)), ((x 12), .inl (T.1, 6, .inl u_this_signs_seen)), ((x 13), .inl (T.1, 6, .inl u_this_chances)), ((x 21), .inr (4, o4 r6.2.1)), ((x 22), .inr (0, o0 r6.2.2))]) (va_runV (As := [.int v3.2.1]) (rest := [.int (u_this_chances v3.2.1.toNatClampNeg), .int v3.1]) ⟨hx, hb, hml, hown, hts⟩ (c_X6_fits l D T x u_this u_this_yard u_this_signs u_this_signs_whats u_this_signs_hours u_this_signs_seen v3.2.2.1 v3.2.2.2 v3.2.1 er6) (cwV 1 hts gX6_odds_X6_fits rfl rfl rfl (by decide +kernel) ⟨Nat.le_of_ble_eq_true rfl, Nat.le_of_ble_eq_true rfl⟩) (xpvv hP hD hK [0, 1, 2, 3, 4, 5, 7, 8] (by decide) rfl 0 6 rfl rfl (fun _ _ _ => trivial) (fun _ _ _ _ _ _ => trivial)) rfl rfl hl.1 rfl (lv_room (Nat.le_of_ble_eq_true rfl)) dX6_odds_43 ⟨Nat.le_of_ble_eq_true rfl, Nat.le_of_ble_eq_true rfl⟩) hP hD hS hA [0, 1, 2, 3, 4, 5, 7, 8] rfl rfl rfl rfl (fun H locs hP hD hS => ?_)
            refine lv_imul hx hb dX6_odds_46 ?_
            refine lv_iadd hx hb dX6_odds_47 ?_
            refine lv_istore_n (lv' := [(3, .int (v3.1 + ((u_this_chances v3.2.1.toNatClampNeg) * r6.1))), (0, .ref (x 0)), (1, .int p1), (2, .int p2), (4, .int v3.2.1)]) hx hb dX6_odds_48 rfl hl (by decide) rfl (fun ls hl => ?_)
            refine lv_iinc (v := v3.2.1 + 1) (lv' := [(4, .int (v3.2.1 + 1)), (3, .int (v3.1 + ((u_this_chances v3.2.1.toNatClampNeg) * r6.1))), (0, .ref (x 0)), (1, .int p1), (2, .int p2)]) hx hb dX6_odds_49 hl (k := 4) rfl rfl (by decide) rfl (fun ls hl => ?_)
            refine lv_goto (tgt := 25) hx hb dX6_odds_52 (by decide) ?_
            exact ih _ (hz1 _ (Option.some.inj hM).symm) _ _ _ hP hD hS (lv_sub hl [2, 3, 4, 1, 0] rfl)
      exact Lv3 _ _ hM _ _ _ hP hD hS (lv_sub hl [2, 3, 4, 1, 0] rfl)
    · have hM := xif c2 hM
      refine lv_iconst (v := (-1)) hx hb dX6_odds_18 (by decide) ?_
      obtain rfl := Option.some.inj hM
      exact xreti hx hb hr hlocks hP hK hD hS dX6_odds_19 rfl
def s_X6_isFirstOfItsKind_2 (u_this_answers : (Nat → Int32)) (p1 : Int32) (v1 : Int32) : Option ((Int32) ⊕ (Int32)) :=
  if p1 ≤ v1 then
   (some (.inr (1)))
  else
   (if xin v1 54 = true then
    (if xin p1 54 = true then
     (if (u_this_answers v1.toNatClampNeg) = (u_this_answers p1.toNatClampNeg) then
       (some (.inr (0)))
      else
       (some (.inl (v1 + 1))))
     else none)
    else none)
def f_X6_isFirstOfItsKind (N : Nat) (u_this : K6) (u_this_answers : (Nat → Int32)) (p1 : Int32) : Option (Int32) :=
  xlp (s_X6_isFirstOfItsKind_2 u_this_answers p1) N (0)
set_option maxHeartbeats 4000000 in
set_option maxRecDepth 100000 in
theorem c_X6_isFirstOfItsKind (l : Launch) (D : va_G) (T : xT) (x : Nat → Nat) {sz : Nat} {N : Nat} (u_this : K6) (u_this_answers : (Nat → Int32)) (p1 : Int32) {rv : Int32} (hM : f_X6_isFirstOfItsKind N u_this u_this_answers p1 = some rv) : Met l yX6_isFirstOfItsKind wsX6_isFirstOfItsKind ({ frames := 0, cells := 0, slots := 0, locals := 0 } : Room) (va_Pc [.ref (x 0), .int p1] (xPre D T [((x 0), .inr (6, o6 x u_this)), ((x 23), .inl (T.1, 54, .inl u_this_answers))] sz xE0)) (va_Qi (fun (r : Int32) (_ : Unit) => r = rv) (fun _ => xPost D T [((x 0), .inr (6, o6 x u_this)), ((x 23), .inl (T.1, 54, .inl u_this_answers))] (va_A [((x 0), .inr (6, o6 x u_this)), ((x 23), .inl (T.1, 54, .inl u_this_answers))] sz)) (va_A [((x 0), .inr (6, o6 x u_this)), ((x 23), .inl (T.1, 54, .inl u_this_answers))] sz)) 0 0 (va_A [((x 0), .inr (6, o6 x u_this)), ((x 23), .inl (T.1, 54, .inl u_this_answers))] sz) := by
  refine xMet (av := [.ref (x 0), .int p1]) (Wd := [((x 0), .inr (6, o6 x u_this)), ((x 23), .inl (T.1, 54, .inl u_this_answers))]) (E := xE0) (Qc := fun A => (va_Qi (fun (r : Int32) (_ : Unit) => r = rv) (fun _ => xPost D T [((x 0), .inr (6, o6 x u_this)), ((x 23), .inl (T.1, 54, .inl u_this_answers))] A) A)) (cc := cX6_isFirstOfItsKind) (maxL := 3) (ret := (some .boolean)) (by decide) rfl (Nat.le_of_ble_eq_true rfl) ?_
  intro p e s m below meth c A ls hx hb hr hml hts hown hlocks hnm hP hK hD hS hA hE hl
  have hown : s.vm.findClass RX6 = some m.cls := hown
  have hl : lv_has ls 3 [(0, .ref (x 0)), (1, .int p1)] := hl
  unfold f_X6_isFirstOfItsKind at hM
  refine lv_iconst (v := 0) hx hb dX6_isFirstOfItsKind_0 (by decide) ?_
  refine lv_istore_n (lv' := [(2, .int (0)), (0, .ref (x 0)), (1, .int p1)]) hx hb dX6_isFirstOfItsKind_1 rfl hl (by decide) rfl (fun ls hl => ?_)
  have Lv1 : ∀ (n : Nat) (v1 : Int32), xlp (s_X6_isFirstOfItsKind_2 u_this_answers p1) n v1 = some rv → ∀ (H : Heap) (locs : List Loc) (ls : Array Slot), va_P D vwCl [((x 0), .inr (6, o6 x u_this)), ((x 23), .inl (T.1, 54, .inl u_this_answers))] H → va_D A [((x 0), .inr (6, o6 x u_this)), ((x 23), .inl (T.1, 54, .inl u_this_answers))] → va_S A s.heap H locs → lv_has ls 3 [(0, .ref (x 0)), (1, .int p1), (2, .int v1)] → W p l e ({ frames := 0, cells := 0, slots := 0, locals := 0 } : Room) s m ([.ref (x 0), .int p1] : List Value).toArray below meth c H locs 0 0 (MQ below (va_Qi (fun (r : Int32) (_ : Unit) => r = rv) (fun _ => xPost D T [((x 0), .inr (6, o6 x u_this)), ((x 23), .inl (T.1, 54, .inl u_this_answers))] A) A) ([.ref (x 0), .int p1] : List Value).toArray s 0 0 A) (F0 m 2 ls []) := by
    intro n
    induction n with
    | zero => exact fun _ h => (xlp_0 h).elim
    | succ n ih =>
      intro v1 hM H locs ls hP hD hS hl
      obtain ⟨z, hM, hz1, hz2⟩ := xlp_s hM
      unfold s_X6_isFirstOfItsKind_2 at hM
      refine lv_iload_n hx hb dX6_isFirstOfItsKind_2 rfl (lv_at hl 2 rfl) ?_
      refine lv_iload_n hx hb dX6_isFirstOfItsKind_3 rfl (lv_at hl 1 rfl) ?_
      refine lv_icmp_ge (tgt := 30) hx hb dX6_isFirstOfItsKind_4 (by decide) (fun c2 => ?_) (fun c2 => ?_)
      · have hM := xit c2 hM
        refine lv_iconst (v := 1) hx hb dX6_isFirstOfItsKind_30 (by decide) ?_
        obtain rfl := hz2 _ (Option.some.inj hM).symm
        exact xretz hx hb hr hlocks hP hK hD hS dX6_isFirstOfItsKind_31 rfl rfl
      · have hM := xif c2 hM
        refine lv_aload_n hx hb dX6_isFirstOfItsKind_7 rfl (lv_at hl 0 rfl) ?_
        refine va_get (D := D) (ci := 6) (v := .ref (x 23)) (C := RX6) (T := TX6) (N := 16) hx hb hts (fun w h => List.mem_cons_of_mem _ (List.mem_append_right _ h)) hown hK hP 0 rfl rfl 13 (by decide) (hts _ (List.mem_of_getElem? (i := 1) rfl)) (fun _ h9 => h9) rfl dX6_isFirstOfItsKind_8 ?_
        refine lv_iload_n hx hb dX6_isFirstOfItsKind_11 rfl (lv_at hl 2 rfl) ?_
        obtain ⟨g3, hM⟩ := xck hM
        refine xald (v := (u_this_answers v1.toNatClampNeg)) hx hb hK hP 1 0 rfl rfl g3 rfl dX6_isFirstOfItsKind_12 ?_
        refine lv_aload_n hx hb dX6_isFirstOfItsKind_13 rfl (lv_at hl 0 rfl) ?_
        refine va_get (D := D) (ci := 6) (v := .ref (x 23)) (C := RX6) (T := TX6) (N := 16) hx hb hts (fun w h => List.mem_cons_of_mem _ (List.mem_append_right _ h)) hown hK hP 0 rfl rfl 13 (by decide) (hts _ (List.mem_of_getElem? (i := 1) rfl)) (fun _ h9 => h9) rfl dX6_isFirstOfItsKind_14 ?_
        refine lv_iload_n hx hb dX6_isFirstOfItsKind_17 rfl (lv_at hl 1 rfl) ?_
        obtain ⟨g4, hM⟩ := xck hM
        refine xald (v := (u_this_answers p1.toNatClampNeg)) hx hb hK hP 1 0 rfl rfl g4 rfl dX6_isFirstOfItsKind_18 ?_
        refine lv_icmp_ne (tgt := 24) hx hb dX6_isFirstOfItsKind_19 (by decide) (fun c5 => ?_) (fun c5 => ?_)
        · have hM := xif c5 hM
          refine lv_iinc (v := v1 + 1) (lv' := [(2, .int (v1 + 1)), (0, .ref (x 0)), (1, .int p1)]) hx hb dX6_isFirstOfItsKind_24 hl (k := 2) rfl rfl (by decide) rfl (fun ls hl => ?_)
          refine lv_goto (tgt := 2) hx hb dX6_isFirstOfItsKind_27 (by decide) ?_
          exact ih _ (hz1 _ (Option.some.inj hM).symm) _ _ _ hP hD hS (lv_sub hl [1, 2, 0] rfl)
        · have hM := xit c5 hM
          refine lv_iconst (v := 0) hx hb dX6_isFirstOfItsKind_22 (by decide) ?_
          obtain rfl := hz2 _ (Option.some.inj hM).symm
          exact xretz hx hb hr hlocks hP hK hD hS dX6_isFirstOfItsKind_23 rfl rfl
  exact Lv1 _ _ hM _ _ _ hP hD hS (lv_sub hl [1, 2, 0] rfl)
def s_X6_greatestWeight_16 (u_this_answers : (Nat → Int32)) (p1 : Int32) (v1 : Int32 × Int32) (v3 : Int32 × Int32) : Option ((Int32 × Int32) ⊕ (Int32 × Int32)) :=
  if (9) ≤ v3.2 then
   (some (.inr (v3.1, v3.2)))
  else
   (if xin ((v1.2 * (9)) + v3.2) 54 = true then
    (if (u_this_answers ((v1.2 * (9)) + v3.2).toNatClampNeg) = p1 then
      (some (.inl (v3.1 + 1, v3.2 + 1)))
     else
      (some (.inl (v3.1, v3.2 + 1))))
    else none)
def s_X6_greatestWeight_4 (N : Nat) (u_this_chances : (Nat → Int32)) (u_this_answers : (Nat → Int32)) (p1 : Int32) (v1 : Int32 × Int32) : Option ((Int32 × Int32) ⊕ (Int32 × Int32)) :=
  if (6) ≤ v1.2 then
   (some (.inr (v1.1, v1.2)))
  else
   ((xlp (s_X6_greatestWeight_16 u_this_answers p1 v1) N (0, 0)).bind fun v7 =>
    if xin v1.2 6 = true then
    (some (.inl ((xmax v1.1 ((u_this_chances v1.2.toNatClampNeg) * v7.1)), v1.2 + 1)))
    else none)
def f_X6_greatestWeight (N : Nat) (u_this : K6) (u_this_chances : (Nat → Int32)) (u_this_answers : (Nat → Int32)) (p1 : Int32) : Option (Int32) :=
  (xlp (s_X6_greatestWeight_4 N u_this_chances u_this_answers p1) N (0, 0)).bind fun v9 =>
  some v9.1
set_option maxHeartbeats 4000000 in
set_option maxRecDepth 100000 in
theorem c_X6_greatestWeight (l : Launch) (D : va_G) (T : xT) (x : Nat → Nat) {sz : Nat} {N : Nat} (u_this : K6) (u_this_chances : (Nat → Int32)) (u_this_answers : (Nat → Int32)) (p1 : Int32) {rv : Int32} (hM : f_X6_greatestWeight N u_this u_this_chances u_this_answers p1 = some rv) : Met l yX6_greatestWeight wsX6_greatestWeight ({ frames := 1, cells := 0, slots := 0, locals := 13 } : Room) (va_Pc [.ref (x 0), .int p1] (xPre D T [((x 0), .inr (6, o6 x u_this)), ((x 13), .inl (T.1, 6, .inl u_this_chances)), ((x 23), .inl (T.1, 54, .inl u_this_answers))] sz xE0)) (va_Qi (fun (r : Int32) (_ : Unit) => r = rv) (fun _ => xPost D T [((x 0), .inr (6, o6 x u_this)), ((x 13), .inl (T.1, 6, .inl u_this_chances)), ((x 23), .inl (T.1, 54, .inl u_this_answers))] (va_A [((x 0), .inr (6, o6 x u_this)), ((x 13), .inl (T.1, 6, .inl u_this_chances)), ((x 23), .inl (T.1, 54, .inl u_this_answers))] sz)) (va_A [((x 0), .inr (6, o6 x u_this)), ((x 13), .inl (T.1, 6, .inl u_this_chances)), ((x 23), .inl (T.1, 54, .inl u_this_answers))] sz)) 0 0 (va_A [((x 0), .inr (6, o6 x u_this)), ((x 13), .inl (T.1, 6, .inl u_this_chances)), ((x 23), .inl (T.1, 54, .inl u_this_answers))] sz) := by
  refine xMet (av := [.ref (x 0), .int p1]) (Wd := [((x 0), .inr (6, o6 x u_this)), ((x 13), .inl (T.1, 6, .inl u_this_chances)), ((x 23), .inl (T.1, 54, .inl u_this_answers))]) (E := xE0) (Qc := fun A => (va_Qi (fun (r : Int32) (_ : Unit) => r = rv) (fun _ => xPost D T [((x 0), .inr (6, o6 x u_this)), ((x 13), .inl (T.1, 6, .inl u_this_chances)), ((x 23), .inl (T.1, 54, .inl u_this_answers))] A) A)) (cc := cX6_greatestWeight) (maxL := 6) (ret := (some .int)) (by decide) rfl (Nat.le_of_ble_eq_true rfl) ?_
  intro p e s m below meth c A ls hx hb hr hml hts hown hlocks hnm hP hK hD hS hA hE hl
  have hown : s.vm.findClass RX6 = some m.cls := hown
  have hl : lv_has ls 6 [(0, .ref (x 0)), (1, .int p1)] := hl
  unfold f_X6_greatestWeight at hM
  refine lv_iconst (v := 0) hx hb dX6_greatestWeight_0 (by decide) ?_
  refine lv_istore_n (lv' := [(2, .int (0)), (0, .ref (x 0)), (1, .int p1)]) hx hb dX6_greatestWeight_1 rfl hl (by decide) rfl (fun ls hl => ?_)
  refine lv_iconst (v := 0) hx hb dX6_greatestWeight_2 (by decide) ?_
  refine lv_istore_n (lv' := [(3, .int (0)), (2, .int (0)), (0, .ref (x 0)), (1, .int p1)]) hx hb dX6_greatestWeight_3 rfl hl (by decide) rfl (fun ls hl => ?_)
  obtain ⟨v9, hM, hNv9⟩ := xbd hM
  have hQv9 := hM
  have Kv9 : ∀ (H : Heap) (locs : List Loc) (ls : Array Slot), va_P D vwCl [((x 0), .inr (6, o6 x u_this)), ((x 13), .inl (T.1, 6, .inl u_this_chances)), ((x 23), .inl (T.1, 54, .inl u_this_answers))] H → va_D A [((x 0), .inr (6, o6 x u_this)), ((x 13), .inl (T.1, 6, .inl u_this_chances)), ((x 23), .inl (T.1, 54, .inl u_this_answers))] → va_S A s.heap H locs → lv_has ls 6 [(2, .int v9.1)] → W p l e ({ frames := 1, cells := 0, slots := 0, locals := 13 } : Room) s m ([.ref (x 0), .int p1] : List Value).toArray below meth c H locs 0 0 (MQ below (va_Qi (fun (r : Int32) (_ : Unit) => r = rv) (fun _ => xPost D T [((x 0), .inr (6, o6 x u_this)), ((x 13), .inl (T.1, 6, .inl u_this_chances)), ((x 23), .inl (T.1, 54, .inl u_this_answers))] A) A) ([.ref (x 0), .int p1] : List Value).toArray s 0 0 A) (F0 m 68 ls []) := by
    intro H locs ls hP hD hS hl
    have hM := hNv9
    refine lv_iload_n hx hb dX6_greatestWeight_68 rfl (lv_at hl 0 rfl) ?_
    obtain rfl := Option.some.inj hM
    exact xreti hx hb hr hlocks hP hK hD hS dX6_greatestWeight_69 rfl
  have Lv1 : ∀ (n : Nat) (v1 : Int32 × Int32), xlp (s_X6_greatestWeight_4 N u_this_chances u_this_answers p1) n v1 = some v9 → ∀ (H : Heap) (locs : List Loc) (ls : Array Slot), va_P D vwCl [((x 0), .inr (6, o6 x u_this)), ((x 13), .inl (T.1, 6, .inl u_this_chances)), ((x 23), .inl (T.1, 54, .inl u_this_answers))] H → va_D A [((x 0), .inr (6, o6 x u_this)), ((x 13), .inl (T.1, 6, .inl u_this_chances)), ((x 23), .inl (T.1, 54, .inl u_this_answers))] → va_S A s.heap H locs → lv_has ls 6 [(0, .ref (x 0)), (1, .int p1), (2, .int v1.1), (3, .int v1.2)] → W p l e ({ frames := 1, cells := 0, slots := 0, locals := 13 } : Room) s m ([.ref (x 0), .int p1] : List Value).toArray below meth c H locs 0 0 (MQ below (va_Qi (fun (r : Int32) (_ : Unit) => r = rv) (fun _ => xPost D T [((x 0), .inr (6, o6 x u_this)), ((x 13), .inl (T.1, 6, .inl u_this_chances)), ((x 23), .inl (T.1, 54, .inl u_this_answers))] A) A) ([.ref (x 0), .int p1] : List Value).toArray s 0 0 A) (F0 m 4 ls []) := by
    intro n
    induction n with
    | zero => exact fun _ h => (xlp_0 h).elim
    | succ n ih =>
      intro v1 hM H locs ls hP hD hS hl
      obtain ⟨z, hM, hz1, hz2⟩ := xlp_s hM
      unfold s_X6_greatestWeight_4 at hM
      refine lv_iload_n hx hb dX6_greatestWeight_4 rfl (lv_at hl 3 rfl) ?_
      refine lv_bipush (v := 6) hx hb dX6_greatestWeight_5 (by decide) ?_
      refine lv_icmp_ge (tgt := 68) hx hb dX6_greatestWeight_7 (by decide) (fun c2 => ?_) (fun c2 => ?_)
      · have hM := xit c2 hM
        obtain rfl := hz2 _ (Option.some.inj hM).symm
        exact Kv9 _ _ _ hP hD hS (lv_sub hl [2] rfl)
      · have hM := xif c2 hM
        refine lv_iconst (v := 0) hx hb dX6_greatestWeight_10 (by decide) ?_
        refine lv_istore (lv' := [(4, .int (0)), (0, .ref (x 0)), (1, .int p1), (2, .int v1.1), (3, .int v1.2)]) hx hb dX6_greatestWeight_11 hl (by decide) rfl (fun ls hl => ?_)
        refine lv_iconst (v := 0) hx hb dX6_greatestWeight_13 (by decide) ?_
        refine lv_istore (lv' := [(5, .int (0)), (4, .int (0)), (0, .ref (x 0)), (1, .int p1), (2, .int v1.1), (3, .int v1.2)]) hx hb dX6_greatestWeight_14 hl (by decide) rfl (fun ls hl => ?_)
        obtain ⟨v7, hM, hNv7⟩ := xbd hM
        have hQv7 := hM
        have Kv7 : ∀ (H : Heap) (locs : List Loc) (ls : Array Slot), va_P D vwCl [((x 0), .inr (6, o6 x u_this)), ((x 13), .inl (T.1, 6, .inl u_this_chances)), ((x 23), .inl (T.1, 54, .inl u_this_answers))] H → va_D A [((x 0), .inr (6, o6 x u_this)), ((x 13), .inl (T.1, 6, .inl u_this_chances)), ((x 23), .inl (T.1, 54, .inl u_this_answers))] → va_S A s.heap H locs → lv_has ls 6 [(0, .ref (x 0)), (1, .int p1), (2, .int v1.1), (3, .int v1.2), (4, .int v7.1)] → W p l e ({ frames := 1, cells := 0, slots := 0, locals := 13 } : Room) s m ([.ref (x 0), .int p1] : List Value).toArray below meth c H locs 0 0 (MQ below (va_Qi (fun (r : Int32) (_ : Unit) => r = rv) (fun _ => xPost D T [((x 0), .inr (6, o6 x u_this)), ((x 13), .inl (T.1, 6, .inl u_this_chances)), ((x 23), .inl (T.1, 54, .inl u_this_answers))] A) A) ([.ref (x 0), .int p1] : List Value).toArray s 0 0 A) (F0 m 48 ls []) := by
          intro H locs ls hP hD hS hl
          have hM := hNv7
          refine lv_iload_n hx hb dX6_greatestWeight_48 rfl (lv_at hl 2 rfl) ?_
          refine lv_aload_n hx hb dX6_greatestWeight_49 rfl (lv_at hl 0 rfl) ?_
          refine va_get (D := D) (ci := 6) (v := .ref (x 13)) (C := RX6) (T := TX6) (N := 16) hx hb hts (fun w h => List.mem_cons_of_mem _ (List.mem_append_right _ h)) hown hK hP 0 rfl rfl 6 (by decide) (hts _ (List.mem_of_getElem? (i := 2) rfl)) (fun _ h9 => h9) rfl dX6_greatestWeight_50 ?_
          refine lv_iload_n hx hb dX6_greatestWeight_53 rfl (lv_at hl 3 rfl) ?_
          obtain ⟨g8, hM⟩ := xck hM
          refine xald (v := (u_this_chances v1.2.toNatClampNeg)) hx hb hK hP 1 0 rfl rfl g8 rfl dX6_greatestWeight_54 ?_
          refine lv_iload hx hb dX6_greatestWeight_55 (lv_at hl 4 rfl) ?_
          refine lv_imul hx hb dX6_greatestWeight_57 ?_
          refine va_mmax hx hb (hml.trans hl.1.symm) hown (hts _ (List.mem_of_getElem? (i := 3) rfl)) (hts _ (List.mem_of_getElem? (i := 4) rfl)) (hts _ (List.mem_of_getElem? (i := 5) rfl)) (hts _ (List.mem_of_getElem? (i := 6) rfl)) (Nat.le_of_ble_eq_true rfl) (Nat.le_of_ble_eq_true rfl) (Nat.zero_le _) (Nat.zero_le _) dX6_greatestWeight_58 ?_
          refine lv_istore_n (lv' := [(2, .int (xmax v1.1 ((u_this_chances v1.2.toNatClampNeg) * v7.1))), (0, .ref (x 0)), (1, .int p1), (3, .int v1.2), (4, .int v7.1)]) hx hb dX6_greatestWeight_61 rfl hl (by decide) rfl (fun ls hl => ?_)
          refine lv_iinc (v := v1.2 + 1) (lv' := [(3, .int (v1.2 + 1)), (2, .int (xmax v1.1 ((u_this_chances v1.2.toNatClampNeg) * v7.1))), (0, .ref (x 0)), (1, .int p1), (4, .int v7.1)]) hx hb dX6_greatestWeight_62 hl (k := 3) rfl rfl (by decide) rfl (fun ls hl => ?_)
          refine lv_goto (tgt := 4) hx hb dX6_greatestWeight_65 (by decide) ?_
          exact ih _ (hz1 _ (Option.some.inj hM).symm) _ _ _ hP hD hS (lv_sub hl [2, 3, 1, 0] rfl)
        have Lv3 : ∀ (n : Nat) (v3 : Int32 × Int32), xlp (s_X6_greatestWeight_16 u_this_answers p1 v1) n v3 = some v7 → ∀ (H : Heap) (locs : List Loc) (ls : Array Slot), va_P D vwCl [((x 0), .inr (6, o6 x u_this)), ((x 13), .inl (T.1, 6, .inl u_this_chances)), ((x 23), .inl (T.1, 54, .inl u_this_answers))] H → va_D A [((x 0), .inr (6, o6 x u_this)), ((x 13), .inl (T.1, 6, .inl u_this_chances)), ((x 23), .inl (T.1, 54, .inl u_this_answers))] → va_S A s.heap H locs → lv_has ls 6 [(0, .ref (x 0)), (1, .int p1), (2, .int v1.1), (3, .int v1.2), (4, .int v3.1), (5, .int v3.2)] → W p l e ({ frames := 1, cells := 0, slots := 0, locals := 13 } : Room) s m ([.ref (x 0), .int p1] : List Value).toArray below meth c H locs 0 0 (MQ below (va_Qi (fun (r : Int32) (_ : Unit) => r = rv) (fun _ => xPost D T [((x 0), .inr (6, o6 x u_this)), ((x 13), .inl (T.1, 6, .inl u_this_chances)), ((x 23), .inl (T.1, 54, .inl u_this_answers))] A) A) ([.ref (x 0), .int p1] : List Value).toArray s 0 0 A) (F0 m 16 ls []) := by
          intro n
          induction n with
          | zero => exact fun _ h => (xlp_0 h).elim
          | succ n ih =>
            intro v3 hM H locs ls hP hD hS hl
            obtain ⟨z, hM, hz1, hz2⟩ := xlp_s hM
            unfold s_X6_greatestWeight_16 at hM
            refine lv_iload hx hb dX6_greatestWeight_16 (lv_at hl 5 rfl) ?_
            refine lv_bipush (v := 9) hx hb dX6_greatestWeight_18 (by decide) ?_
            refine lv_icmp_ge (tgt := 48) hx hb dX6_greatestWeight_20 (by decide) (fun c4 => ?_) (fun c4 => ?_)
            · have hM := xit c4 hM
              obtain rfl := hz2 _ (Option.some.inj hM).symm
              exact Kv7 _ _ _ hP hD hS (lv_sub hl [0, 1, 2, 3, 4] rfl)
            · have hM := xif c4 hM
              refine lv_aload_n hx hb dX6_greatestWeight_23 rfl (lv_at hl 0 rfl) ?_
              refine va_get (D := D) (ci := 6) (v := .ref (x 23)) (C := RX6) (T := TX6) (N := 16) hx hb hts (fun w h => List.mem_cons_of_mem _ (List.mem_append_right _ h)) hown hK hP 0 rfl rfl 13 (by decide) (hts _ (List.mem_of_getElem? (i := 1) rfl)) (fun _ h9 => h9) rfl dX6_greatestWeight_24 ?_
              refine lv_iload_n hx hb dX6_greatestWeight_27 rfl (lv_at hl 3 rfl) ?_
              refine lv_bipush (v := 9) hx hb dX6_greatestWeight_28 (by decide) ?_
              refine lv_imul hx hb dX6_greatestWeight_30 ?_
              refine lv_iload hx hb dX6_greatestWeight_31 (lv_at hl 5 rfl) ?_
              refine lv_iadd hx hb dX6_greatestWeight_33 ?_
              obtain ⟨g5, hM⟩ := xck hM
              refine xald (v := (u_this_answers ((v1.2 * (9)) + v3.2).toNatClampNeg)) hx hb hK hP 2 0 rfl rfl g5 rfl dX6_greatestWeight_34 ?_
              refine lv_iload_n hx hb dX6_greatestWeight_35 rfl (lv_at hl 1 rfl) ?_
              refine lv_icmp_ne (tgt := 42) hx hb dX6_greatestWeight_36 (by decide) (fun c6 => ?_) (fun c6 => ?_)
              · have hM := xif c6 hM
                refine lv_iinc (v := v3.2 + 1) (lv' := [(5, .int (v3.2 + 1)), (0, .ref (x 0)), (1, .int p1), (2, .int v1.1), (3, .int v1.2), (4, .int v3.1)]) hx hb dX6_greatestWeight_42 hl (k := 5) rfl rfl (by decide) rfl (fun ls hl => ?_)
                refine lv_goto (tgt := 16) hx hb dX6_greatestWeight_45 (by decide) ?_
                exact ih _ (hz1 _ (Option.some.inj hM).symm) _ _ _ hP hD hS (lv_sub hl [1, 2, 3, 4, 5, 0] rfl)
              · have hM := xit c6 hM
                refine lv_iinc (v := v3.1 + 1) (lv' := [(4, .int (v3.1 + 1)), (0, .ref (x 0)), (1, .int p1), (2, .int v1.1), (3, .int v1.2), (5, .int v3.2)]) hx hb dX6_greatestWeight_39 hl (k := 4) rfl rfl (by decide) rfl (fun ls hl => ?_)
                refine lv_iinc (v := v3.2 + 1) (lv' := [(5, .int (v3.2 + 1)), (4, .int (v3.1 + 1)), (0, .ref (x 0)), (1, .int p1), (2, .int v1.1), (3, .int v1.2)]) hx hb dX6_greatestWeight_42 hl (k := 5) rfl rfl (by decide) rfl (fun ls hl => ?_)
                refine lv_goto (tgt := 16) hx hb dX6_greatestWeight_45 (by decide) ?_
                exact ih _ (hz1 _ (Option.some.inj hM).symm) _ _ _ hP hD hS (lv_sub hl [2, 3, 4, 5, 1, 0] rfl)
        exact Lv3 _ _ hM _ _ _ hP hD hS (lv_sub hl [2, 3, 4, 5, 1, 0] rfl)
  exact Lv1 _ _ hM _ _ _ hP hD hS (lv_sub hl [2, 3, 1, 0] rfl)
def s_X6_worthOf_2 (N : Nat) (u_this : K6) (u_this_yard : K4) (p1 : Int32) (v1 : Int32 × K4 × K0 × (Nat → Int32)) : Option ((Int32 × K4 × K0 × (Nat → Int32)) ⊕ (Int32 × K4 × K0 × (Nat → Int32))) :=
  if (54) ≤ v1.1 then
   (some (.inr (v1.1, v1.2.1, v1.2.2.1, v1.2.2.2)))
  else
   ((f_X6_trouble N u_this u_this_yard v1.2.1 (v1.1 / (9)) ((v1.1 - v1.1 / (9) * (9)) + (1))).bind fun r3 =>
    (f_X6_answer N u_this r3 v1.2.2.1 p1 (12)).bind fun r4 =>
    if xin v1.1 54 = true then
    (some (.inl (v1.1 + 1, r3, r4.2, (upd v1.2.2.2 v1.1.toNatClampNeg r4.1))))
    else none)
def s_X6_worthOf_48 (N : Nat) (u_this : K6) (u_this_chances : (Nat → Int32)) (v6 : Int32 × K4 × K0 × (Nat → Int32)) (v7 : Int32 × Int32) : Option ((Int32 × Int32) ⊕ (Int32 × Int32)) :=
  if (54) ≤ v7.2 then
   (some (.inr (v7.1, v7.2)))
  else
   ((f_X6_isFirstOfItsKind N u_this v6.2.2.2 v7.2).bind fun r9 =>
    if r9 = (0) then
     (some (.inl (v7.1, v7.2 + 1)))
    else
     (if xin v7.2 54 = true then
      ((f_X6_greatestWeight N u_this u_this_chances v6.2.2.2 (v6.2.2.2 v7.2.toNatClampNeg)).bind fun r12 =>
       some (.inl ((v7.1 + r12), v7.2 + 1)))
      else none))
def f_X6_worthOf (N : Nat) (u_this : K6) (u_this_yard : K4) (u_this_chances : (Nat → Int32)) (u_this_other : K4) (u_this_shade : K0) (u_this_answers : (Nat → Int32)) (p1 : Int32) : Option (Int32 × K4 × K0 × (Nat → Int32)) :=
  (xlp (s_X6_worthOf_2 N u_this u_this_yard p1) N (0, u_this_other, u_this_shade, u_this_answers)).bind fun v6 =>
  (xlp (s_X6_worthOf_48 N u_this u_this_chances v6) N (0, 0)).bind fun v13 =>
  some (v13.1, v6.2.1, v6.2.2.1, v6.2.2.2)
set_option maxHeartbeats 4000000 in
set_option maxRecDepth 100000 in
theorem c_X6_worthOf (l : Launch) (D : va_G) (T : xT) (x : Nat → Nat) {sz : Nat} {N : Nat} (u_this : K6) (u_this_yard : K4) (u_this_chances : (Nat → Int32)) (u_this_other : K4) (u_this_shade : K0) (u_this_answers : (Nat → Int32)) (p1 : Int32) {rv : Int32 × K4 × K0 × (Nat → Int32)} (hM : f_X6_worthOf N u_this u_this_yard u_this_chances u_this_other u_this_shade u_this_answers p1 = some rv) : Met l yX6_worthOf wsX6_worthOf ({ frames := 4, cells := 0, slots := 0, locals := 89 } : Room) (va_Pc [.ref (x 0), .int p1] (xPre D T [((x 0), .inr (6, o6 x u_this)), ((x 3), .inr (4, o4 u_this_yard)), ((x 13), .inl (T.1, 6, .inl u_this_chances)), ((x 21), .inr (4, o4 u_this_other)), ((x 22), .inr (0, o0 u_this_shade)), ((x 23), .inl (T.1, 54, .inl u_this_answers))] sz xE0)) (va_Qi (fun (r : Int32) (_ : Unit) => r = rv.1) (fun _ => xPost D T [((x 0), .inr (6, o6 x u_this)), ((x 3), .inr (4, o4 u_this_yard)), ((x 13), .inl (T.1, 6, .inl u_this_chances)), ((x 21), .inr (4, o4 rv.2.1)), ((x 22), .inr (0, o0 rv.2.2.1)), ((x 23), .inl (T.1, 54, .inl rv.2.2.2))] (va_A [((x 0), .inr (6, o6 x u_this)), ((x 3), .inr (4, o4 u_this_yard)), ((x 13), .inl (T.1, 6, .inl u_this_chances)), ((x 21), .inr (4, o4 u_this_other)), ((x 22), .inr (0, o0 u_this_shade)), ((x 23), .inl (T.1, 54, .inl u_this_answers))] sz)) (va_A [((x 0), .inr (6, o6 x u_this)), ((x 3), .inr (4, o4 u_this_yard)), ((x 13), .inl (T.1, 6, .inl u_this_chances)), ((x 21), .inr (4, o4 u_this_other)), ((x 22), .inr (0, o0 u_this_shade)), ((x 23), .inl (T.1, 54, .inl u_this_answers))] sz)) 0 0 (va_A [((x 0), .inr (6, o6 x u_this)), ((x 3), .inr (4, o4 u_this_yard)), ((x 13), .inl (T.1, 6, .inl u_this_chances)), ((x 21), .inr (4, o4 u_this_other)), ((x 22), .inr (0, o0 u_this_shade)), ((x 23), .inl (T.1, 54, .inl u_this_answers))] sz) := by
  refine xMet (av := [.ref (x 0), .int p1]) (Wd := [((x 0), .inr (6, o6 x u_this)), ((x 3), .inr (4, o4 u_this_yard)), ((x 13), .inl (T.1, 6, .inl u_this_chances)), ((x 21), .inr (4, o4 u_this_other)), ((x 22), .inr (0, o0 u_this_shade)), ((x 23), .inl (T.1, 54, .inl u_this_answers))]) (E := xE0) (Qc := fun A => (va_Qi (fun (r : Int32) (_ : Unit) => r = rv.1) (fun _ => xPost D T [((x 0), .inr (6, o6 x u_this)), ((x 3), .inr (4, o4 u_this_yard)), ((x 13), .inl (T.1, 6, .inl u_this_chances)), ((x 21), .inr (4, o4 rv.2.1)), ((x 22), .inr (0, o0 rv.2.2.1)), ((x 23), .inl (T.1, 54, .inl rv.2.2.2))] A) A)) (cc := cX6_worthOf) (maxL := 4) (ret := (some .int)) (by decide) rfl (Nat.le_of_ble_eq_true rfl) ?_
  intro p e s m below meth c A ls hx hb hr hml hts hown hlocks hnm hP hK hD hS hA hE hl
  have hown : s.vm.findClass RX6 = some m.cls := hown
  have hl : lv_has ls 4 [(0, .ref (x 0)), (1, .int p1)] := hl
  unfold f_X6_worthOf at hM
  refine lv_iconst (v := 0) hx hb dX6_worthOf_0 (by decide) ?_
  refine lv_istore_n (lv' := [(2, .int (0)), (0, .ref (x 0)), (1, .int p1)]) hx hb dX6_worthOf_1 rfl hl (by decide) rfl (fun ls hl => ?_)
  obtain ⟨v6, hM, hNv6⟩ := xbd hM
  have hQv6 := hM
  have Kv6 : ∀ (H : Heap) (locs : List Loc) (ls : Array Slot), va_P D vwCl [((x 0), .inr (6, o6 x u_this)), ((x 3), .inr (4, o4 u_this_yard)), ((x 13), .inl (T.1, 6, .inl u_this_chances)), ((x 21), .inr (4, o4 v6.2.1)), ((x 22), .inr (0, o0 v6.2.2.1)), ((x 23), .inl (T.1, 54, .inl v6.2.2.2))] H → va_D A [((x 0), .inr (6, o6 x u_this)), ((x 3), .inr (4, o4 u_this_yard)), ((x 13), .inl (T.1, 6, .inl u_this_chances)), ((x 21), .inr (4, o4 v6.2.1)), ((x 22), .inr (0, o0 v6.2.2.1)), ((x 23), .inl (T.1, 54, .inl v6.2.2.2))] → va_S A s.heap H locs → lv_has ls 4 [(0, .ref (x 0))] → W p l e ({ frames := 4, cells := 0, slots := 0, locals := 89 } : Room) s m ([.ref (x 0), .int p1] : List Value).toArray below meth c H locs 0 0 (MQ below (va_Qi (fun (r : Int32) (_ : Unit) => r = rv.1) (fun _ => xPost D T [((x 0), .inr (6, o6 x u_this)), ((x 3), .inr (4, o4 u_this_yard)), ((x 13), .inl (T.1, 6, .inl u_this_chances)), ((x 21), .inr (4, o4 rv.2.1)), ((x 22), .inr (0, o0 rv.2.2.1)), ((x 23), .inl (T.1, 54, .inl rv.2.2.2))] A) A) ([.ref (x 0), .int p1] : List Value).toArray s 0 0 A) (F0 m 44 ls []) := by
    intro H locs ls hP hD hS hl
    have hM := hNv6
    refine lv_iconst (v := 0) hx hb dX6_worthOf_44 (by decide) ?_
    refine lv_istore_n (lv' := [(2, .int (0)), (0, .ref (x 0))]) hx hb dX6_worthOf_45 rfl hl (by decide) rfl (fun ls hl => ?_)
    refine lv_iconst (v := 0) hx hb dX6_worthOf_46 (by decide) ?_
    refine lv_istore_n (lv' := [(3, .int (0)), (2, .int (0)), (0, .ref (x 0))]) hx hb dX6_worthOf_47 rfl hl (by decide) rfl (fun ls hl => ?_)
    obtain ⟨v13, hM, hNv13⟩ := xbd hM
    have hQv13 := hM
    have Kv13 : ∀ (H : Heap) (locs : List Loc) (ls : Array Slot), va_P D vwCl [((x 0), .inr (6, o6 x u_this)), ((x 3), .inr (4, o4 u_this_yard)), ((x 13), .inl (T.1, 6, .inl u_this_chances)), ((x 21), .inr (4, o4 v6.2.1)), ((x 22), .inr (0, o0 v6.2.2.1)), ((x 23), .inl (T.1, 54, .inl v6.2.2.2))] H → va_D A [((x 0), .inr (6, o6 x u_this)), ((x 3), .inr (4, o4 u_this_yard)), ((x 13), .inl (T.1, 6, .inl u_this_chances)), ((x 21), .inr (4, o4 v6.2.1)), ((x 22), .inr (0, o0 v6.2.2.1)), ((x 23), .inl (T.1, 54, .inl v6.2.2.2))] → va_S A s.heap H locs → lv_has ls 4 [(2, .int v13.1)] → W p l e ({ frames := 4, cells := 0, slots := 0, locals := 89 } : Room) s m ([.ref (x 0), .int p1] : List Value).toArray below meth c H locs 0 0 (MQ below (va_Qi (fun (r : Int32) (_ : Unit) => r = rv.1) (fun _ => xPost D T [((x 0), .inr (6, o6 x u_this)), ((x 3), .inr (4, o4 u_this_yard)), ((x 13), .inl (T.1, 6, .inl u_this_chances)), ((x 21), .inr (4, o4 rv.2.1)), ((x 22), .inr (0, o0 rv.2.2.1)), ((x 23), .inl (T.1, 54, .inl rv.2.2.2))] A) A) ([.ref (x 0), .int p1] : List Value).toArray s 0 0 A) (F0 m 84 ls []) := by
      intro H locs ls hP hD hS hl
      have hM := hNv13
      refine lv_iload_n hx hb dX6_worthOf_84 rfl (lv_at hl 0 rfl) ?_
      obtain rfl := Option.some.inj hM
      exact xreti hx hb hr hlocks hP hK hD hS dX6_worthOf_85 rfl
    have Lv7 : ∀ (n : Nat) (v7 : Int32 × Int32), xlp (s_X6_worthOf_48 N u_this u_this_chances v6) n v7 = some v13 → ∀ (H : Heap) (locs : List Loc) (ls : Array Slot), va_P D vwCl [((x 0), .inr (6, o6 x u_this)), ((x 3), .inr (4, o4 u_this_yard)), ((x 13), .inl (T.1, 6, .inl u_this_chances)), ((x 21), .inr (4, o4 v6.2.1)), ((x 22), .inr (0, o0 v6.2.2.1)), ((x 23), .inl (T.1, 54, .inl v6.2.2.2))] H → va_D A [((x 0), .inr (6, o6 x u_this)), ((x 3), .inr (4, o4 u_this_yard)), ((x 13), .inl (T.1, 6, .inl u_this_chances)), ((x 21), .inr (4, o4 v6.2.1)), ((x 22), .inr (0, o0 v6.2.2.1)), ((x 23), .inl (T.1, 54, .inl v6.2.2.2))] → va_S A s.heap H locs → lv_has ls 4 [(0, .ref (x 0)), (2, .int v7.1), (3, .int v7.2)] → W p l e ({ frames := 4, cells := 0, slots := 0, locals := 89 } : Room) s m ([.ref (x 0), .int p1] : List Value).toArray below meth c H locs 0 0 (MQ below (va_Qi (fun (r : Int32) (_ : Unit) => r = rv.1) (fun _ => xPost D T [((x 0), .inr (6, o6 x u_this)), ((x 3), .inr (4, o4 u_this_yard)), ((x 13), .inl (T.1, 6, .inl u_this_chances)), ((x 21), .inr (4, o4 rv.2.1)), ((x 22), .inr (0, o0 rv.2.2.1)), ((x 23), .inl (T.1, 54, .inl rv.2.2.2))] A) A) ([.ref (x 0), .int p1] : List Value).toArray s 0 0 A) (F0 m 48 ls []) := by
      intro n
      induction n with
      | zero => exact fun _ h => (xlp_0 h).elim
      | succ n ih =>
        intro v7 hM H locs ls hP hD hS hl
        obtain ⟨z, hM, hz1, hz2⟩ := xlp_s hM
        unfold s_X6_worthOf_48 at hM
        refine lv_iload_n hx hb dX6_worthOf_48 rfl (lv_at hl 2 rfl) ?_
        refine lv_aload_n hx hb dX6_worthOf_49 rfl (lv_at hl 0 rfl) ?_
        refine va_get (D := D) (ci := 6) (v := .ref (x 23)) (C := RX6) (T := TX6) (N := 16) hx hb hts (fun w h => List.mem_cons_of_mem _ (List.mem_append_left _ (List.mem_append_left _ (List.mem_append_right _ h)))) hown hK hP 0 rfl rfl 13 (by decide) (hts _ (List.mem_of_getElem? (i := 1) rfl)) (fun _ h9 => h9) rfl dX6_worthOf_50 ?_
        refine va_alen (v := 54) hx hb hK hP 5 0 rfl rfl (show Int32.ofNat 54 = 54 by decide) dX6_worthOf_53 ?_
        refine lv_icmp_ge (tgt := 84) hx hb dX6_worthOf_54 (by decide) (fun c8 => ?_) (fun c8 => ?_)
        · have hM := xit c8 hM
          obtain rfl := hz2 _ (Option.some.inj hM).symm
          exact Kv13 _ _ _ hP hD hS (lv_sub hl [1] rfl)
        · have hM := xif c8 hM
          refine lv_aload_n hx hb dX6_worthOf_57 rfl (lv_at hl 0 rfl) ?_
          refine lv_iload_n hx hb dX6_worthOf_58 rfl (lv_at hl 2 rfl) ?_
          obtain ⟨r9, er9, hM⟩ := xbd hM
          refine xafti (rv := r9) (W2 := [((x 0), .inr (6, o6 x u_this)), ((x 3), .inr (4, o4 u_this_yard)), ((x 13), .inl (T.1, 6, .inl u_this_chances)), ((x 21), .inr (4, o4 v6.2.1)), ((x 22), .inr (0, o0 v6.2.2.1)), ((x 23), .inl (T.1, 54, .inl v6.2.2.2))]) (va_runV (As := [.int v7.2]) (rest := []) ⟨hx, hb, hml, hown, hts⟩ (c_X6_isFirstOfItsKind l D T x u_this v6.2.2.2 v7.2 er9) (cwV 1 hts gX6_worthOf_X6_isFirstOfItsKind rfl rfl rfl (by decide +kernel) ⟨Nat.le_of_ble_eq_true rfl, Nat.le_of_ble_eq_true rfl⟩) (xpvv hP hD hK [0, 5] (by decide) rfl 0 6 rfl rfl (fun _ _ _ => trivial) (fun _ _ _ _ _ _ => trivial)) rfl rfl hl.1 rfl (lv_room (Nat.le_of_ble_eq_true rfl)) dX6_worthOf_59 ⟨Nat.le_of_ble_eq_true rfl, Nat.le_of_ble_eq_true rfl⟩) hP hD hS hA [0, 5] rfl rfl rfl rfl (fun H locs hP hD hS => ?_)
          refine lv_if_eq (tgt := 78) hx hb dX6_worthOf_62 (by decide) (fun c10 => ?_) (fun c10 => ?_)
          · have hM := xit c10 hM
            refine lv_iinc (v := v7.2 + 1) (lv' := [(3, .int (v7.2 + 1)), (0, .ref (x 0)), (2, .int v7.1)]) hx hb dX6_worthOf_78 hl (k := 2) rfl rfl (by decide) rfl (fun ls hl => ?_)
            refine lv_goto (tgt := 48) hx hb dX6_worthOf_81 (by decide) ?_
            exact ih _ (hz1 _ (Option.some.inj hM).symm) _ _ _ hP hD hS (lv_sub hl [1, 2, 0] rfl)
          · have hM := xif c10 hM
            refine lv_iload_n hx hb dX6_worthOf_65 rfl (lv_at hl 1 rfl) ?_
            refine lv_aload_n hx hb dX6_worthOf_66 rfl (lv_at hl 0 rfl) ?_
            refine lv_aload_n hx hb dX6_worthOf_67 rfl (lv_at hl 0 rfl) ?_
            refine va_get (D := D) (ci := 6) (v := .ref (x 23)) (C := RX6) (T := TX6) (N := 16) hx hb hts (fun w h => List.mem_cons_of_mem _ (List.mem_append_left _ (List.mem_append_left _ (List.mem_append_right _ h)))) hown hK hP 0 rfl rfl 13 (by decide) (hts _ (List.mem_of_getElem? (i := 1) rfl)) (fun _ h9 => h9) rfl dX6_worthOf_68 ?_
            refine lv_iload_n hx hb dX6_worthOf_71 rfl (lv_at hl 2 rfl) ?_
            obtain ⟨g11, hM⟩ := xck hM
            refine xald (v := (v6.2.2.2 v7.2.toNatClampNeg)) hx hb hK hP 5 0 rfl rfl g11 rfl dX6_worthOf_72 ?_
            obtain ⟨r12, er12, hM⟩ := xbd hM
            refine xafti (rv := r12) (W2 := [((x 0), .inr (6, o6 x u_this)), ((x 3), .inr (4, o4 u_this_yard)), ((x 13), .inl (T.1, 6, .inl u_this_chances)), ((x 21), .inr (4, o4 v6.2.1)), ((x 22), .inr (0, o0 v6.2.2.1)), ((x 23), .inl (T.1, 54, .inl v6.2.2.2))]) (va_runV (As := [.int (v6.2.2.2 v7.2.toNatClampNeg)]) (rest := [.int v7.1]) ⟨hx, hb, hml, hown, hts⟩ (c_X6_greatestWeight l D T x u_this u_this_chances v6.2.2.2 (v6.2.2.2 v7.2.toNatClampNeg) er12) (cwV 1 hts gX6_worthOf_X6_greatestWeight rfl rfl rfl (by decide +kernel) ⟨Nat.le_of_ble_eq_true rfl, Nat.le_of_ble_eq_true rfl⟩) (xpvv hP hD hK [0, 2, 5] (by decide) rfl 0 6 rfl rfl (fun _ _ _ => trivial) (fun _ _ _ _ _ _ => trivial)) rfl rfl hl.1 rfl (lv_room (Nat.le_of_ble_eq_true rfl)) dX6_worthOf_73 ⟨Nat.le_of_ble_eq_true rfl, Nat.le_of_ble_eq_true rfl⟩) hP hD hS hA [0, 2, 5] rfl rfl rfl rfl (fun H locs hP hD hS => ?_)
            refine lv_iadd hx hb dX6_worthOf_76 ?_
            refine lv_istore_n (lv' := [(2, .int (v7.1 + r12)), (0, .ref (x 0)), (3, .int v7.2)]) hx hb dX6_worthOf_77 rfl hl (by decide) rfl (fun ls hl => ?_)
            refine lv_iinc (v := v7.2 + 1) (lv' := [(3, .int (v7.2 + 1)), (2, .int (v7.1 + r12)), (0, .ref (x 0))]) hx hb dX6_worthOf_78 hl (k := 2) rfl rfl (by decide) rfl (fun ls hl => ?_)
            refine lv_goto (tgt := 48) hx hb dX6_worthOf_81 (by decide) ?_
            exact ih _ (hz1 _ (Option.some.inj hM).symm) _ _ _ hP hD hS (lv_sub hl [2, 1, 0] rfl)
    exact Lv7 _ _ hM _ _ _ hP hD hS (lv_sub hl [2, 1, 0] rfl)
  have Lv1 : ∀ (n : Nat) (v1 : Int32 × K4 × K0 × (Nat → Int32)), xlp (s_X6_worthOf_2 N u_this u_this_yard p1) n v1 = some v6 → ∀ (H : Heap) (locs : List Loc) (ls : Array Slot), va_P D vwCl [((x 0), .inr (6, o6 x u_this)), ((x 3), .inr (4, o4 u_this_yard)), ((x 13), .inl (T.1, 6, .inl u_this_chances)), ((x 21), .inr (4, o4 v1.2.1)), ((x 22), .inr (0, o0 v1.2.2.1)), ((x 23), .inl (T.1, 54, .inl v1.2.2.2))] H → va_D A [((x 0), .inr (6, o6 x u_this)), ((x 3), .inr (4, o4 u_this_yard)), ((x 13), .inl (T.1, 6, .inl u_this_chances)), ((x 21), .inr (4, o4 v1.2.1)), ((x 22), .inr (0, o0 v1.2.2.1)), ((x 23), .inl (T.1, 54, .inl v1.2.2.2))] → va_S A s.heap H locs → lv_has ls 4 [(0, .ref (x 0)), (1, .int p1), (2, .int v1.1)] → W p l e ({ frames := 4, cells := 0, slots := 0, locals := 89 } : Room) s m ([.ref (x 0), .int p1] : List Value).toArray below meth c H locs 0 0 (MQ below (va_Qi (fun (r : Int32) (_ : Unit) => r = rv.1) (fun _ => xPost D T [((x 0), .inr (6, o6 x u_this)), ((x 3), .inr (4, o4 u_this_yard)), ((x 13), .inl (T.1, 6, .inl u_this_chances)), ((x 21), .inr (4, o4 rv.2.1)), ((x 22), .inr (0, o0 rv.2.2.1)), ((x 23), .inl (T.1, 54, .inl rv.2.2.2))] A) A) ([.ref (x 0), .int p1] : List Value).toArray s 0 0 A) (F0 m 2 ls []) := by
    intro n
    induction n with
    | zero => exact fun _ h => (xlp_0 h).elim
    | succ n ih =>
      intro v1 hM H locs ls hP hD hS hl
      obtain ⟨z, hM, hz1, hz2⟩ := xlp_s hM
      unfold s_X6_worthOf_2 at hM
      refine lv_iload_n hx hb dX6_worthOf_2 rfl (lv_at hl 2 rfl) ?_
      refine lv_aload_n hx hb dX6_worthOf_3 rfl (lv_at hl 0 rfl) ?_
      refine va_get (D := D) (ci := 6) (v := .ref (x 23)) (C := RX6) (T := TX6) (N := 16) hx hb hts (fun w h => List.mem_cons_of_mem _ (List.mem_append_left _ (List.mem_append_left _ (List.mem_append_right _ h)))) hown hK hP 0 rfl rfl 13 (by decide) (hts _ (List.mem_of_getElem? (i := 1) rfl)) (fun _ h9 => h9) rfl dX6_worthOf_4 ?_
      refine va_alen (v := 54) hx hb hK hP 5 0 rfl rfl (show Int32.ofNat 54 = 54 by decide) dX6_worthOf_7 ?_
      refine lv_icmp_ge (tgt := 44) hx hb dX6_worthOf_8 (by decide) (fun c2 => ?_) (fun c2 => ?_)
      · have hM := xit c2 hM
        obtain rfl := hz2 _ (Option.some.inj hM).symm
        exact Kv6 _ _ _ hP hD hS (lv_sub hl [0] rfl)
      · have hM := xif c2 hM
        refine lv_aload_n hx hb dX6_worthOf_11 rfl (lv_at hl 0 rfl) ?_
        refine lv_iload_n hx hb dX6_worthOf_12 rfl (lv_at hl 2 rfl) ?_
        refine lv_bipush (v := 9) hx hb dX6_worthOf_13 (by decide) ?_
        refine lv_idiv hx hb dX6_worthOf_15 (by decide) ?_
        refine lv_iload_n hx hb dX6_worthOf_16 rfl (lv_at hl 2 rfl) ?_
        refine lv_bipush (v := 9) hx hb dX6_worthOf_17 (by decide) ?_
        refine lv_irem hx hb dX6_worthOf_19 (by decide) ?_
        refine lv_iconst (v := 1) hx hb dX6_worthOf_20 (by decide) ?_
        refine lv_iadd hx hb dX6_worthOf_21 ?_
        obtain ⟨r3, er3, hM⟩ := xbd hM
        refine xaftv (W2 := [((x 0), .inr (6, o6 x u_this)), ((x 3), .inr (4, o4 u_this_yard)), ((x 13), .inl (T.1, 6, .inl u_this_chances)), ((x 21), .inr (4, o4 r3)), ((x 22), .inr (0, o0 v1.2.2.1)), ((x 23), .inl (T.1, 54, .inl v1.2.2.2))]) (va_runV (As := [.int (v1.1 / (9)), .int ((v1.1 - v1.1 / (9) * (9)) + (1))]) (rest := []) ⟨hx, hb, hml, hown, hts⟩ (c_X6_trouble l D T x u_this u_this_yard v1.2.1 (v1.1 / (9)) ((v1.1 - v1.1 / (9) * (9)) + (1)) er3) (cwV 2 hts gX6_worthOf_X6_trouble rfl rfl rfl (by decide +kernel) ⟨Nat.le_of_ble_eq_true rfl, Nat.le_of_ble_eq_true rfl⟩) (xpvv hP hD hK [0, 1, 3] (by decide) rfl 0 6 rfl rfl (fun _ _ _ => trivial) (fun _ _ _ _ _ _ => trivial)) rfl rfl hl.1 rfl (lv_room (Nat.le_of_ble_eq_true rfl)) dX6_worthOf_22 ⟨Nat.le_of_ble_eq_true rfl, Nat.le_of_ble_eq_true rfl⟩) hP hD hS hA [0, 1, 3] rfl rfl rfl rfl (fun H locs hP hD hS => ?_)
        refine lv_aload_n hx hb dX6_worthOf_25 rfl (lv_at hl 0 rfl) ?_
        refine va_get (D := D) (ci := 6) (v := .ref (x 23)) (C := RX6) (T := TX6) (N := 16) hx hb hts (fun w h => List.mem_cons_of_mem _ (List.mem_append_left _ (List.mem_append_left _ (List.mem_append_right _ h)))) hown hK hP 0 rfl rfl 13 (by decide) (hts _ (List.mem_of_getElem? (i := 1) rfl)) (fun _ h9 => h9) rfl dX6_worthOf_26 ?_
        refine lv_iload_n hx hb dX6_worthOf_29 rfl (lv_at hl 2 rfl) ?_
        refine lv_aload_n hx hb dX6_worthOf_30 rfl (lv_at hl 0 rfl) ?_
        refine lv_iload_n hx hb dX6_worthOf_31 rfl (lv_at hl 1 rfl) ?_
        refine lv_bipush (v := 12) hx hb dX6_worthOf_32 (by decide) ?_
        obtain ⟨r4, er4, hM⟩ := xbd hM
        refine xafti (rv := r4.1) (W2 := [((x 0), .inr (6, o6 x u_this)), ((x 3), .inr (4, o4 u_this_yard)), ((x 13), .inl (T.1, 6, .inl u_this_chances)), ((x 21), .inr (4, o4 r3)), ((x 22), .inr (0, o0 r4.2)), ((x 23), .inl (T.1, 54, .inl v1.2.2.2))]) (va_runV (As := [.int p1, .int (12)]) (rest := [.int v1.1, .ref (x 23)]) ⟨hx, hb, hml, hown, hts⟩ (c_X6_answer l D T x u_this r3 v1.2.2.1 p1 (12) er4) (cwV 2 hts gX6_worthOf_X6_answer rfl rfl rfl (by decide +kernel) ⟨Nat.le_of_ble_eq_true rfl, Nat.le_of_ble_eq_true rfl⟩) (xpvv hP hD hK [0, 3, 4] (by decide) rfl 0 6 rfl rfl (fun _ _ _ => trivial) (fun _ _ _ _ _ _ => trivial)) rfl rfl hl.1 rfl (lv_room (Nat.le_of_ble_eq_true rfl)) dX6_worthOf_34 ⟨Nat.le_of_ble_eq_true rfl, Nat.le_of_ble_eq_true rfl⟩) hP hD hS hA [0, 3, 4] rfl rfl rfl rfl (fun H locs hP hD hS => ?_)
        obtain ⟨g5, hM⟩ := xck hM
        refine xast hx hb hK hP hD hS 5 0 rfl rfl g5 rfl dX6_worthOf_37 (fun H locs hP hD hS => ?_)
        have hP : va_P D vwCl [((x 0), .inr (6, o6 x u_this)), ((x 3), .inr (4, o4 u_this_yard)), ((x 13), .inl (T.1, 6, .inl u_this_chances)), ((x 21), .inr (4, o4 r3)), ((x 22), .inr (0, o0 r4.2)), ((x 23), .inl (T.1, 54, .inl (upd v1.2.2.2 v1.1.toNatClampNeg r4.1)))] H := hP
        have hD : va_D A [((x 0), .inr (6, o6 x u_this)), ((x 3), .inr (4, o4 u_this_yard)), ((x 13), .inl (T.1, 6, .inl u_this_chances)), ((x 21), .inr (4, o4 r3)), ((x 22), .inr (0, o0 r4.2)), ((x 23), .inl (T.1, 54, .inl (upd v1.2.2.2 v1.1.toNatClampNeg r4.1)))] := hD
        refine lv_iinc (v := v1.1 + 1) (lv' := [(2, .int (v1.1 + 1)), (0, .ref (x 0)), (1, .int p1)]) hx hb dX6_worthOf_38 hl (k := 2) rfl rfl (by decide) rfl (fun ls hl => ?_)
        refine lv_goto (tgt := 2) hx hb dX6_worthOf_41 (by decide) ?_
        exact ih _ (hz1 _ (Option.some.inj hM).symm) _ _ _ hP hD hS (lv_sub hl [1, 2, 0] rfl)
  exact Lv1 _ _ hM _ _ _ hP hD hS (lv_sub hl [1, 2, 0] rfl)
