/-! what the law finds at its start: classes, arrays of classes, static fields, String constants, links -/
section LE
variable {args : Array Value} {s : State}
theorem xarr {ty : FieldType} (h : (Cond.arrayClass ty).before args s = true) (hty : ∀ C, ty ≠ .object C) : ∃ cA, ArrOfT s cA ty ∧ va_RA s cA ty := by
  obtain ⟨cA, kA, comp, h1, h2, h3⟩ := Cond.arrayClass_spec h
  refine ⟨cA, fun n z => ⟨(fun k h => by cases h), kA, h2, comp, h3⟩, ?_⟩
  cases ty with
  | object C => exact absurd rfl (hty C)
  | _ => exact h1
theorem xarrO {C : String} (h : (Cond.arrayOver (.object C)).before args s = true) : ∃ cA, ArrOfT s cA (.object C) ∧ va_RA s cA (.object C) := by
  obtain ⟨comp, cA, kA, h1, -, h2, h3, h4⟩ := Cond.arrayOver_spec h
  exact ⟨cA, fun n z => ⟨(fun k h => by cases h), kA, h2, comp, h3⟩, kA, comp, h2, h3, h1, h4⟩
theorem xstat_of {nm : String} {n : Nat} {L : List Int32} {A : Nat → Prop} (hn : n < 2 ^ 31) (hl : (Cond.laysStatic "YardPump" nm "[I").before args s = true) (hi : (Cond.initialized "YardPump").before args s = true) (ha : (Cond.arrayOf (.static "YardPump" nm "[I") .int).before args s = true) (hlen : (Cond.eq (.length (.static "YardPump" nm "[I")) (.int (Int32.ofNat n))).before args s = true) (hel : ∀ j, j < n → (Cond.eq (.elem (.static "YardPump" nm "[I") (.int (Int32.ofNat j))) (.int (L.getD j 0))).before args s = true) (hA : ∀ a : Nat, a < s.heap.size → ¬ A a) : ∃ t, xstat nm n L t A s := by
  obtain ⟨t, h1, h2⟩ := va_Tof (A := A) (f := fun j => .int (L.getD j 0)) hn ha (va_eqt hlen) (fun j hj => va_eqt (hel j hj)) hA
  exact ⟨t, va_Zref hl hi h1 hA, h2⟩
end LE
set_option maxHeartbeats 4000000 in
set_option maxRecDepth 100000 in
theorem law_K {args : Array Value} {s : State} (hts : ∀ w ∈ lw_tbl, w.before args s = true) : ∃ (D : va_G) (T : xT), va_K D vwCl (xty T) s := by
  obtain ⟨c0, i0, k0⟩ := u_known (C := RX0) (T := TX0) (N := 7) hts (by decide +kernel) (hts (Cond.instantiable RX0 7) (by decide +kernel))
  obtain ⟨c1, i1, k1⟩ := u_known (C := RX1) (T := TX1) (N := 3) hts (by decide +kernel) (hts (Cond.instantiable RX1 3) (by decide +kernel))
  obtain ⟨c2, i2, k2⟩ := u_known (C := RX2) (T := TX2) (N := 4) hts (by decide +kernel) (hts (Cond.instantiable RX2 4) (by decide +kernel))
  obtain ⟨c3, i3, k3⟩ := u_known (C := RX3) (T := TX3) (N := 7) hts (by decide +kernel) (hts (Cond.instantiable RX3 7) (by decide +kernel))
  obtain ⟨c4, i4, k4⟩ := u_known (C := RX4) (T := TX4) (N := 11) hts (by decide +kernel) (hts (Cond.instantiable RX4 11) (by decide +kernel))
  obtain ⟨c5, i5, k5⟩ := u_known (C := RX5) (T := TX5) (N := 3) hts (by decide +kernel) (hts (Cond.instantiable RX5 3) (by decide +kernel))
  obtain ⟨c6, i6, k6⟩ := u_known (C := RX6) (T := TX6) (N := 16) hts (by decide +kernel) (hts (Cond.instantiable RX6 16) (by decide +kernel))
  obtain ⟨c7, i7, k7⟩ := u_known (C := RX7) (T := TX7) (N := 30) hts (by decide +kernel) (hts (Cond.instantiable RX7 30) (by decide +kernel))
  obtain ⟨t0, a0, b0⟩ := xarr (ty := .int) (hts _ (by decide +kernel)) (fun C h => by cases h)
  obtain ⟨t1, a1, b1⟩ := xarr (ty := .byte) (hts _ (by decide +kernel)) (fun C h => by cases h)
  obtain ⟨t2, a2, b2⟩ := xarr (ty := .boolean) (hts _ (by decide +kernel)) (fun C h => by cases h)
  obtain ⟨t3, a3, b3⟩ := xarrO (C := "YardPump$Column") (hts _ (by decide +kernel))
  refine ⟨(fun j => [c0, c1, c2, c3, c4, c5, c6, c7].getD j c0, fun j => [i0, i1, i2, i3, i4, i5, i6, i7].getD j i0), (t0, t1, t2, t3), fun c q h => ?_, fun k q h => ?_⟩
  · have hc : c < 8 := (List.getElem?_eq_some_iff.mp h).1
    rcases (show c = 0 ∨ c = 1 ∨ c = 2 ∨ c = 3 ∨ c = 4 ∨ c = 5 ∨ c = 6 ∨ c = 7 by omega) with rfl | rfl | rfl | rfl | rfl | rfl | rfl | rfl
    · cases h; exact k0
    · cases h; exact k1
    · cases h; exact k2
    · cases h; exact k3
    · cases h; exact k4
    · cases h; exact k5
    · cases h; exact k6
    · cases h; exact k7
  · have hk : k < 4 := (List.getElem?_eq_some_iff.mp h).1
    rcases (show k = 0 ∨ k = 1 ∨ k = 2 ∨ k = 3 by omega) with rfl | rfl | rfl | rfl
    · cases h; exact ⟨a0, b0⟩
    · cases h; exact ⟨a1, b1⟩
    · cases h; exact ⟨a2, b2⟩
    · cases h; exact ⟨a3, b3⟩
set_option maxHeartbeats 4000000 in
set_option maxRecDepth 100000 in
theorem law_E {args : Array Value} {s : State} (hts : ∀ w ∈ lw_tbl, w.before args s = true) (hg : (Jvm.Cond.and given_1 narrow_1).before args s = true) : ∃ k : xK, xE1 k (fun q : Nat => s.heap.size ≤ q) s := by
  have hn := flat_of_before _ hg
  have hA : ∀ a : Nat, a < s.heap.size → ¬ (fun q : Nat => s.heap.size ≤ q) a := fun a h => Nat.not_le.mpr h
  obtain ⟨s0, g0⟩ := xstat_of (A := fun q : Nat => s.heap.size ≤ q) (nm := "UNTOLD") (n := 11) (L := sUNTOLD) (by decide) (hts _ (by decide +kernel)) (hts _ (by decide +kernel)) (hn _ (by decide +kernel)) (hn _ (by decide +kernel)) (fun j hj => by
    rcases (show j = 0 ∨ j = 1 ∨ j = 2 ∨ j = 3 ∨ j = 4 ∨ j = 5 ∨ j = 6 ∨ j = 7 ∨ j = 8 ∨ j = 9 ∨ j = 10 by omega) with rfl | rfl | rfl | rfl | rfl | rfl | rfl | rfl | rfl | rfl | rfl <;> exact hn _ (by decide +kernel)) hA
  obtain ⟨s1, g1⟩ := xstat_of (A := fun q : Nat => s.heap.size ≤ q) (nm := "LEAST_TOLD") (n := 11) (L := sLEAST) (by decide) (hts _ (by decide +kernel)) (hts _ (by decide +kernel)) (hn _ (by decide +kernel)) (hn _ (by decide +kernel)) (fun j hj => by
    rcases (show j = 0 ∨ j = 1 ∨ j = 2 ∨ j = 3 ∨ j = 4 ∨ j = 5 ∨ j = 6 ∨ j = 7 ∨ j = 8 ∨ j = 9 ∨ j = 10 by omega) with rfl | rfl | rfl | rfl | rfl | rfl | rfl | rfl | rfl | rfl | rfl <;> exact hn _ (by decide +kernel)) hA
  obtain ⟨s2, g2⟩ := xstat_of (A := fun q : Nat => s.heap.size ≤ q) (nm := "MOST_TOLD") (n := 11) (L := sMOST) (by decide) (hts _ (by decide +kernel)) (hts _ (by decide +kernel)) (hn _ (by decide +kernel)) (hn _ (by decide +kernel)) (fun j hj => by
    rcases (show j = 0 ∨ j = 1 ∨ j = 2 ∨ j = 3 ∨ j = 4 ∨ j = 5 ∨ j = 6 ∨ j = 7 ∨ j = 8 ∨ j = 9 ∨ j = 10 by omega) with rfl | rfl | rfl | rfl | rfl | rfl | rfl | rfl | rfl | rfl | rfl <;> exact hn _ (by decide +kernel)) hA
  obtain ⟨s3, g3⟩ := xstat_of (A := fun q : Nat => s.heap.size ≤ q) (nm := "FIRST_SLOT") (n := 7) (L := sFIRST) (by decide) (hts _ (by decide +kernel)) (hts _ (by decide +kernel)) (hn _ (by decide +kernel)) (hn _ (by decide +kernel)) (fun j hj => by
    rcases (show j = 0 ∨ j = 1 ∨ j = 2 ∨ j = 3 ∨ j = 4 ∨ j = 5 ∨ j = 6 by omega) with rfl | rfl | rfl | rfl | rfl | rfl | rfl <;> exact hn _ (by decide +kernel)) hA
  obtain ⟨aK, aV, hS, hev⟩ := vk_Sof (A := fun q : Nat => s.heap.size ≤ q) (N := 6) (tm := fun i => Term.string RX3 (102 + 2 * i)) (len := xlen) (byt := xbyt) (fun i hi => by
    rcases (show i = 0 ∨ i = 1 ∨ i = 2 ∨ i = 3 ∨ i = 4 ∨ i = 5 by omega) with rfl | rfl | rfl | rfl | rfl | rfl <;> decide) (fun i hi => by
    rcases (show i = 0 ∨ i = 1 ∨ i = 2 ∨ i = 3 ∨ i = 4 ∨ i = 5 by omega) with rfl | rfl | rfl | rfl | rfl | rfl <;> exact hn _ (by decide +kernel)) (fun i hi => by
    rcases (show i = 0 ∨ i = 1 ∨ i = 2 ∨ i = 3 ∨ i = 4 ∨ i = 5 by omega) with rfl | rfl | rfl | rfl | rfl | rfl <;> exact hn _ (by decide +kernel)) (fun i hi => by
    rcases (show i = 0 ∨ i = 1 ∨ i = 2 ∨ i = 3 ∨ i = 4 ∨ i = 5 by omega) with rfl | rfl | rfl | rfl | rfl | rfl <;> exact hn _ (by decide +kernel)) (fun i hi => by
    rcases (show i = 0 ∨ i = 1 ∨ i = 2 ∨ i = 3 ∨ i = 4 ∨ i = 5 by omega) with rfl | rfl | rfl | rfl | rfl | rfl <;> exact hn _ (by decide +kernel))
    (fun i hi j hj => by
      rcases (show i = 0 ∨ i = 1 ∨ i = 2 ∨ i = 3 ∨ i = 4 ∨ i = 5 by omega) with rfl | rfl | rfl | rfl | rfl | rfl
      · have hj : j < 4 := hj
        rcases (show j = 0 ∨ j = 1 ∨ j = 2 ∨ j = 3 by omega) with rfl | rfl | rfl | rfl <;> exact hn _ (by decide +kernel)
      · have hj : j < 4 := hj
        rcases (show j = 0 ∨ j = 1 ∨ j = 2 ∨ j = 3 by omega) with rfl | rfl | rfl | rfl <;> exact hn _ (by decide +kernel)
      · have hj : j < 4 := hj
        rcases (show j = 0 ∨ j = 1 ∨ j = 2 ∨ j = 3 by omega) with rfl | rfl | rfl | rfl <;> exact hn _ (by decide +kernel)
      · have hj : j < 5 := hj
        rcases (show j = 0 ∨ j = 1 ∨ j = 2 ∨ j = 3 ∨ j = 4 by omega) with rfl | rfl | rfl | rfl | rfl <;> exact hn _ (by decide +kernel)
      · have hj : j < 7 := hj
        rcases (show j = 0 ∨ j = 1 ∨ j = 2 ∨ j = 3 ∨ j = 4 ∨ j = 5 ∨ j = 6 by omega) with rfl | rfl | rfl | rfl | rfl | rfl | rfl <;> exact hn _ (by decide +kernel)
      · have hj : j < 5 := hj
        rcases (show j = 0 ∨ j = 1 ∨ j = 2 ∨ j = 3 ∨ j = 4 by omega) with rfl | rfl | rfl | rfl | rfl <;> exact hn _ (by decide +kernel)
    ) (fun i j hi hj hij => by
      rcases (show i = 0 ∨ i = 1 ∨ i = 2 ∨ i = 3 ∨ i = 4 ∨ i = 5 by omega) with rfl | rfl | rfl | rfl | rfl | rfl
      · rcases (show j = 0 ∨ j = 1 ∨ j = 2 ∨ j = 3 ∨ j = 4 ∨ j = 5 by omega) with rfl | rfl | rfl | rfl | rfl | rfl
        · exact absurd rfl hij
        · exact Or.inl (hn _ (by decide +kernel))
        · exact Or.inl (hn _ (by decide +kernel))
        · exact Or.inl (hn _ (by decide +kernel))
        · exact Or.inl (hn _ (by decide +kernel))
        · exact Or.inl (hn _ (by decide +kernel))
      · rcases (show j = 0 ∨ j = 1 ∨ j = 2 ∨ j = 3 ∨ j = 4 ∨ j = 5 by omega) with rfl | rfl | rfl | rfl | rfl | rfl
        · exact Or.inr (hn _ (by decide +kernel))
        · exact absurd rfl hij
        · exact Or.inl (hn _ (by decide +kernel))
        · exact Or.inl (hn _ (by decide +kernel))
        · exact Or.inl (hn _ (by decide +kernel))
        · exact Or.inl (hn _ (by decide +kernel))
      · rcases (show j = 0 ∨ j = 1 ∨ j = 2 ∨ j = 3 ∨ j = 4 ∨ j = 5 by omega) with rfl | rfl | rfl | rfl | rfl | rfl
        · exact Or.inr (hn _ (by decide +kernel))
        · exact Or.inr (hn _ (by decide +kernel))
        · exact absurd rfl hij
        · exact Or.inl (hn _ (by decide +kernel))
        · exact Or.inl (hn _ (by decide +kernel))
        · exact Or.inl (hn _ (by decide +kernel))
      · rcases (show j = 0 ∨ j = 1 ∨ j = 2 ∨ j = 3 ∨ j = 4 ∨ j = 5 by omega) with rfl | rfl | rfl | rfl | rfl | rfl
        · exact Or.inr (hn _ (by decide +kernel))
        · exact Or.inr (hn _ (by decide +kernel))
        · exact Or.inr (hn _ (by decide +kernel))
        · exact absurd rfl hij
        · exact Or.inl (hn _ (by decide +kernel))
        · exact Or.inl (hn _ (by decide +kernel))
      · rcases (show j = 0 ∨ j = 1 ∨ j = 2 ∨ j = 3 ∨ j = 4 ∨ j = 5 by omega) with rfl | rfl | rfl | rfl | rfl | rfl
        · exact Or.inr (hn _ (by decide +kernel))
        · exact Or.inr (hn _ (by decide +kernel))
        · exact Or.inr (hn _ (by decide +kernel))
        · exact Or.inr (hn _ (by decide +kernel))
        · exact absurd rfl hij
        · exact Or.inl (hn _ (by decide +kernel))
      · rcases (show j = 0 ∨ j = 1 ∨ j = 2 ∨ j = 3 ∨ j = 4 ∨ j = 5 by omega) with rfl | rfl | rfl | rfl | rfl | rfl
        · exact Or.inr (hn _ (by decide +kernel))
        · exact Or.inr (hn _ (by decide +kernel))
        · exact Or.inr (hn _ (by decide +kernel))
        · exact Or.inr (hn _ (by decide +kernel))
        · exact Or.inr (hn _ (by decide +kernel))
        · exact absurd rfl hij
    ) hA
  refine ⟨(fun j => [s0, s1, s2, s3].getD j 0, aK, aV), g0, g1, g2, g3, ⟨va_Nw.of rfl (hts _ (by decide +kernel)), va_Nw.of rfl (hts _ (by decide +kernel)), va_Nw.of rfl (hts _ (by decide +kernel)), va_Nw.of rfl (hts _ (by decide +kernel)), va_Nw.of rfl (hts _ (by decide +kernel)), va_Nw.of rfl (hts _ (by decide +kernel)), va_Nw.of rfl (hts _ (by decide +kernel)), va_Nw.of rfl (hts _ (by decide +kernel)), va_Nw.of rfl (hts _ (by decide +kernel)), va_Nw.of rfl (hts _ (by decide +kernel)), va_Nw.of rfl (hts _ (by decide +kernel))⟩, va_Zof (hts _ (by decide +kernel)) (hts _ (by decide +kernel)) (va_eqi (hn _ (by decide +kernel))) hA, va_Zqof (hts _ (by decide +kernel)) (hts _ (by decide +kernel)) (hn _ (by decide +kernel)) hA, hS, vk_R.of (hts _ (by decide +kernel)) (hev 0 (by omega)), vk_R.of (hts _ (by decide +kernel)) (hev 1 (by omega)), vk_R.of (hts _ (by decide +kernel)) (hev 2 (by omega)), vk_R.of (hts _ (by decide +kernel)) (hev 3 (by omega)), vk_R.of (hts _ (by decide +kernel)) (hev 4 (by omega)), vk_R.of (hts _ (by decide +kernel)) (hev 5 (by omega))⟩
