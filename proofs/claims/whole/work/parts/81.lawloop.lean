/-! the law: its loop over the script -/
set_option maxHeartbeats 4000000 in
set_option maxRecDepth 100000 in
theorem law_loop {p : Program} {l : Launch} {e : Env} {s : State} {m : MethodId} {below : List Frame} {meth : Method} {c : Code} {b L : Nat} {xs : Nat → Int32} {D : va_G} {T : xT} {k : xK} {N : Nat} (hN : 400 < N) (C0 : lw_At p s m meth c b L xs) (hK : va_K D vwCl (xty T) s) (hE : xE1 k (fun q : Nat => s.heap.size ≤ q) s) {x z : Nat → Nat} (hL : L ≤ 2560) : ∀ (n i : Nat), L < n + i → i ≤ L → ∀ (u : CX) (w : CM) (H : Heap) (locs : List Loc) (ls : Array Slot), Rel u w → va_P D vwCl (LWd x z T u w) H → va_D (fun q : Nat => s.heap.size ≤ q) (LWd x z T u w) → va_S (fun q : Nat => s.heap.size ≤ q) s.heap H locs → lv_has ls 4 [(0, .ref b), (1, .ref (x 0)), (2, .ref (z 0)), (3, .int (nI i))] → W p l e room_1 s m #[Value.ref b] below meth c H locs 45 1546 (lw_Z below #[Value.ref b] s) (F0 m 18 ls []) := by
  obtain ⟨hx, hb, hr, hml, hown, hts0, hX, hbl, hlocks, hgv⟩ := id C0
  have hbA : ¬ (fun q : Nat => s.heap.size ≤ q) b := Nat.not_le.mpr hbl
  intro n
  induction n with
  | zero => intro i h1 h2; omega
  | succ n ih =>
    intro i h1 h2 u w H locs ls hR hP hD hS hl
    refine lv_iload_n hx hb dL_law_18 rfl (lv_at hl 3 rfl) ?_
    refine lv_aload_n hx hb dL_law_19 rfl (lv_at hl 0 rfl) ?_
    refine va_slen hx hb hX hbl hbA hS dL_law_20 ?_
    refine lv_iconst (v := 5) hx hb dL_law_21 (by decide) ?_
    refine lv_isub hx hb dL_law_22 ?_
    have eL : (Int32.ofNat L - 5).toInt = L - 5 := by
      have e0 : (Int32.ofNat L).toInt = L := nI_toInt (by omega)
      rw [zsub] <;> rw [e0, z5]; all_goals omega
    refine lv_icmp_gt (tgt := 1104) hx hb dL_law_23 (by decide) (fun c1 => ?_) (fun c1 => ?_)
    · refine lv_iconst (v := 1) hx hb dL_law_1104 (by decide) ?_
      refine va_forget (fun q hq => hS.2.2 q hq) ?_
      exact lw_ret hx hb hr hlocks dL_law_1105
    · rw [zlt, eL, nI_toInt (by omega)] at c1
      have hi : i + 5 ≤ L := by omega
      have KK : ∀ (u : CX) (w : CM) (H : Heap) (locs : List Loc) (ls : Array Slot), Rel u w → va_P D vwCl (LWd x z T u w) H → va_D (fun q : Nat => s.heap.size ≤ q) (LWd x z T u w) → va_S (fun q : Nat => s.heap.size ≤ q) s.heap H locs → lv_has ls 4 [(0, .ref b), (1, .ref (x 0)), (2, .ref (z 0)), (3, .int (nI i))] → W p l e room_1 s m #[Value.ref b] below meth c H locs 45 1546 (lw_Z below #[Value.ref b] s) (F0 m 1098 ls []) := by
        intro u w H locs ls hR hP hD hS hl
        refine lv_iinc (v := nI (i + 5)) (lv' := [(3, .int (nI (i + 5))), (0, .ref b), (1, .ref (x 0)), (2, .ref (z 0))]) hx hb dL_law_1098 hl (k := 3) rfl (by rw [show Int32.ofInt 5 = nI 5 from rfl, nI_add]) (by decide) rfl (fun ls hl => ?_)
        refine lv_goto (tgt := 18) hx hb dL_law_1101 (by decide) ?_
        exact ih (i + 5) (by omega) hi u w H locs ls hR hP hD hS (lv_sub hl [1, 2, 3, 0] rfl)
      refine lv_aload_n hx hb dL_law_26 rfl (lv_at hl 0 rfl) ?_
      refine lv_iload_n hx hb dL_law_27 rfl (lv_at hl 3 rfl) ?_
      refine va_sld hx hb hX hbl hbA hS (vp_in_nI (by omega) (by omega)) dL_law_28 ?_
      refine lv_bipush (v := 63) hx hb dL_law_29 (by decide) ?_
      refine lv_iand hx hb dL_law_31 ?_
      generalize xs (nI i).toNatClampNeg &&& 63 = v
      by_cases hv : v.toInt < 0 ∨ 33 < v.toInt
      · refine lv_tableOut (tgt := 1098) hx hb dL_law_32 hv (by decide) ?_
        exact KK u w H locs ls hR hP hD hS hl
      · obtain ⟨q, hq, rfl⟩ : ∃ q : Nat, q < 34 ∧ v = nI q := ⟨v.toInt.toNat, by omega, znI (by omega)⟩
        clear hv
        rcases (show q = 0 ∨ q = 1 ∨ q = 2 ∨ q = 3 ∨ q = 4 ∨ q = 5 ∨ q = 6 ∨ q = 7 ∨ q = 8 ∨ q = 9 ∨ q = 10 ∨ q = 11 ∨ q = 12 ∨ q = 13 ∨ q = 14 ∨ q = 15 ∨ q = 16 ∨ q = 17 ∨ q = 18 ∨ q = 19 ∨ q = 20 ∨ q = 21 ∨ q = 22 ∨ q = 23 ∨ q = 24 ∨ q = 25 ∨ q = 26 ∨ q = 27 ∨ q = 28 ∨ q = 29 ∨ q = 30 ∨ q = 31 ∨ q = 32 ∨ q = 33 by omega) with rfl | rfl | rfl | rfl | rfl | rfl | rfl | rfl | rfl | rfl | rfl | rfl | rfl | rfl | rfl | rfl | rfl | rfl | rfl | rfl | rfl | rfl | rfl | rfl | rfl | rfl | rfl | rfl | rfl | rfl | rfl | rfl | rfl | rfl
        · refine lv_tableIn (off := 152) (tgt := 184) hx hb dL_law_32 (by decide) (by decide) (by decide) (by decide) ?_
          exact law_type hN C0 hK hE hR hi hL hP hD hS hl KK
        · refine lv_tableIn (off := 215) (tgt := 247) hx hb dL_law_32 (by decide) (by decide) (by decide) (by decide) ?_
          exact law_clear hN C0 hK hE hR hi hL hP hD hS hl KK
        · refine lv_tableIn (off := 228) (tgt := 260) hx hb dL_law_32 (by decide) (by decide) (by decide) (by decide) ?_
          exact law_pump hN C0 hK hE hR hi hL hP hD hS hl KK
        · refine lv_tableIn (off := 241) (tgt := 273) hx hb dL_law_32 (by decide) (by decide) (by decide) (by decide) ?_
          exact law_told hN C0 hK hE hR hi hL hP hD hS hl KK
        · refine lv_tableIn (off := 264) (tgt := 296) hx hb dL_law_32 (by decide) (by decide) (by decide) (by decide) ?_
          exact law_strokes hN C0 hK hE hR hi hL hP hD hS hl KK
        · refine lv_tableIn (off := 287) (tgt := 319) hx hb dL_law_32 (by decide) (by decide) (by decide) (by decide) ?_
          exact law_jug hN C0 hK hE hR hi hL hP hD hS hl KK
        · refine lv_tableIn (off := 310) (tgt := 342) hx hb dL_law_32 (by decide) (by decide) (by decide) (by decide) ?_
          exact law_hours hN C0 hK hE hR hi hL hP hD hS hl KK
        · refine lv_tableIn (off := 333) (tgt := 365) hx hb dL_law_32 (by decide) (by decide) (by decide) (by decide) ?_
          exact law_now hN C0 hK hE hR hi hL hP hD hS hl KK
        · refine lv_tableIn (off := 356) (tgt := 388) hx hb dL_law_32 (by decide) (by decide) (by decide) (by decide) ?_
          exact law_anew hN C0 hK hE hR hi hL hP hD hS hl KK
        · refine lv_tableIn (off := 369) (tgt := 401) hx hb dL_law_32 (by decide) (by decide) (by decide) (by decide) ?_
          exact law_until hN C0 hK hE hR hi hL hP hD hS hl KK
        · refine lv_tableIn (off := 382) (tgt := 414) hx hb dL_law_32 (by decide) (by decide) (by decide) (by decide) ?_
          exact law_least hN C0 hK hE hR hi hL hP hD hS hl KK
        · refine lv_tableIn (off := 405) (tgt := 437) hx hb dL_law_32 (by decide) (by decide) (by decide) (by decide) ?_
          exact law_night hN C0 hK hE hR hi hL hP hD hS hl KK
        · refine lv_tableIn (off := 428) (tgt := 460) hx hb dL_law_32 (by decide) (by decide) (by decide) (by decide) ?_
          exact law_sign hN C0 hK hE hR hi hL hP hD hS hl KK
        · refine lv_tableIn (off := 471) (tgt := 503) hx hb dL_law_32 (by decide) (by decide) (by decide) (by decide) ?_
          exact law_unsign hN C0 hK hE hR hi hL hP hD hS hl KK
        · refine lv_tableIn (off := 484) (tgt := 516) hx hb dL_law_32 (by decide) (by decide) (by decide) (by decide) ?_
          exact law_chance hN C0 hK hE hR hi hL hP hD hS hl KK
        · refine lv_tableIn (off := 517) (tgt := 549) hx hb dL_law_32 (by decide) (by decide) (by decide) (by decide) ?_
          exact law_fitting hN C0 hK hE hR hi hL hP hD hS hl KK
        · refine lv_tableIn (off := 540) (tgt := 572) hx hb dL_law_32 (by decide) (by decide) (by decide) (by decide) ?_
          exact law_odds hN C0 hK hE hR hi hL hP hD hS hl KK
        · refine lv_tableIn (off := 573) (tgt := 605) hx hb dL_law_32 (by decide) (by decide) (by decide) (by decide) ?_
          exact law_tells hN C0 hK hE hR hi hL hP hD hS hl KK
        · refine lv_tableIn (off := 586) (tgt := 618) hx hb dL_law_32 (by decide) (by decide) (by decide) (by decide) ?_
          exact law_where hN C0 hK hE hR hi hL hP hD hS hl KK
        · refine lv_tableIn (off := 619) (tgt := 651) hx hb dL_law_32 (by decide) (by decide) (by decide) (by decide) ?_
          exact law_day hN C0 hK hE hR hi hL hP hD hS hl KK
        · refine lv_tableIn (off := 652) (tgt := 684) hx hb dL_law_32 (by decide) (by decide) (by decide) (by decide) ?_
          exact law_pace hN C0 hK hE hR hi hL hP hD hS hl KK
        · refine lv_tableIn (off := 675) (tgt := 707) hx hb dL_law_32 (by decide) (by decide) (by decide) (by decide) ?_
          exact law_two hN C0 hK hE hR hi hL hP hD hS hl KK
        · refine lv_tableIn (off := 728) (tgt := 760) hx hb dL_law_32 (by decide) (by decide) (by decide) (by decide) ?_
          exact law_rests hN C0 hK hE hR hi hL hP hD hS hl KK
        · refine lv_tableIn (off := 761) (tgt := 793) hx hb dL_law_32 (by decide) (by decide) (by decide) (by decide) ?_
          exact law_cost hN C0 hK hE hR hi hL hP hD hS hl KK
        · refine lv_tableIn (off := 794) (tgt := 826) hx hb dL_law_32 (by decide) (by decide) (by decide) (by decide) ?_
          exact law_choice hN C0 hK hE hR hi hL hP hD hS hl KK
        · refine lv_tableIn (off := 827) (tgt := 859) hx hb dL_law_32 (by decide) (by decide) (by decide) (by decide) ?_
          exact law_sand hN C0 hK hE hR hi hL hP hD hS hl KK
        · refine lv_tableIn (off := 860) (tgt := 892) hx hb dL_law_32 (by decide) (by decide) (by decide) (by decide) ?_
          exact law_line hN C0 hK hE hR hi hL hP hD hS hl KK
        · refine lv_tableIn (off := 883) (tgt := 915) hx hb dL_law_32 (by decide) (by decide) (by decide) (by decide) ?_
          exact law_year hN C0 hK hE hR hi hL hP hD hS hl KK
        · refine lv_tableIn (off := 916) (tgt := 948) hx hb dL_law_32 (by decide) (by decide) (by decide) (by decide) ?_
          exact law_ahead hN C0 hK hE hR hi hL hP hD hS hl KK
        · refine lv_tableIn (off := 950) (tgt := 982) hx hb dL_law_32 (by decide) (by decide) (by decide) (by decide) ?_
          exact law_mark hN C0 hK hE hR hi hL hP hD hS hl KK
        · refine lv_tableIn (off := 983) (tgt := 1015) hx hb dL_law_32 (by decide) (by decide) (by decide) (by decide) ?_
          exact law_keep hN C0 hK hE hR hi hL hP hD hS hl KK
        · refine lv_tableIn (off := 1006) (tgt := 1038) hx hb dL_law_32 (by decide) (by decide) (by decide) (by decide) ?_
          exact law_back hN C0 hK hE hR hi hL hP hD hS hl KK
        · refine lv_tableIn (off := 1029) (tgt := 1061) hx hb dL_law_32 (by decide) (by decide) (by decide) (by decide) ?_
          exact law_count hN C0 hK hE hR hi hL hP hD hS hl KK
        · refine lv_tableIn (off := 1052) (tgt := 1084) hx hb dL_law_32 (by decide) (by decide) (by decide) (by decide) ?_
          exact law_trace hN C0 hK hE hR hi hL hP hD hS hl KK
