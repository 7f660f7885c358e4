/-! the steps, one by one -/
theorem relG_push {sg : K2} {sw sh ss : Nat → Int32} {o' : K7} {gw gh gi : Nat → Int32} {n : Nat} {a b d : Int32} (hn : n < 6) (h1 : sg = nI n) (h : ∀ j, j < n → sw j = gw j ∧ sh j = gh j ∧ ss j = gi j ∧ (sw j = 0 ∨ (sw j = 1 ∧ ∃ q : Nat, q ≤ 24 ∧ sh j = nI q) ∨ sw j = 2)) (ha : a = 0 ∨ (a = 1 ∧ ∃ q : Nat, q ≤ 24 ∧ b = nI q) ∨ a = 2) (ho : o'.2.2.2.2.2.2.2.1 = nI (n + 1)) : relG (nI (n + 1)) (upd sw n a) (upd sh n b) (upd ss n d) o' (upd gw n a) (upd gh n b) (upd gi n d) := by
  refine ⟨n + 1, by omega, rfl, ho, fun j hj => ?_⟩
  unfold upd
  by_cases e : j = n
  · simp only [if_pos e]
    exact ⟨trivial, trivial, trivial, ha⟩
  · simp only [if_neg e]; exact h j (by omega)
/-- what a sign may be -/
def okS (a b d : Int32) : Prop := (a = 0 ∧ b = 0 ∧ (0 : Int32).toInt ≤ d.toInt ∧ d.toInt ≤ (200 : Int32).toInt) ∨ (a = 1 ∧ ((1 : Int32).toInt ≤ b.toInt ∧ b.toInt ≤ (24 : Int32).toInt) ∧ ((0 : Int32).toInt ≤ d.toInt ∧ d.toInt ≤ (999 : Int32).toInt)) ∨ (a = 2 ∧ b = 0 ∧ (0 : Int32).toInt ≤ d.toInt ∧ d.toInt ≤ (1 : Int32).toInt)
theorem signX6 (a b d : Int32) : (okS a b d → f_X6_signMayBe a b d = 1) ∧ (¬ okS a b d → f_X6_signMayBe a b d = 0) := by
  unfold f_X6_signMayBe okS
  by_cases k0 : a = 0
  · subst k0
    rw [if_pos rfl]
    by_cases kb : b = 0
    · rw [if_pos kb]
      by_cases kd : (0 : Int32).toInt ≤ d.toInt ∧ d.toInt ≤ (200 : Int32).toInt
      · rw [out0 kd, if_pos rfl]; exact ⟨fun _ => rfl, fun h => absurd (Or.inl ⟨rfl, kb, kd⟩) h⟩
      · rw [out1 kd, if_neg ne10]
        refine ⟨fun h => ?_, fun _ => rfl⟩
        rcases h with ⟨-, -, h⟩ | ⟨h, -⟩ | ⟨h, -⟩
        · exact absurd h kd
        · exact absurd h (by decide)
        · exact absurd h (by decide)
    · rw [if_neg kb]
      refine ⟨fun h => ?_, fun _ => rfl⟩
      rcases h with ⟨-, h, -⟩ | ⟨h, -⟩ | ⟨h, -⟩
      · exact absurd h kb
      · exact absurd h (by decide)
      · exact absurd h (by decide)
  · rw [if_neg k0]
    by_cases k1 : a = 1
    · subst k1
      rw [if_pos rfl]
      by_cases kb : (1 : Int32).toInt ≤ b.toInt ∧ b.toInt ≤ (24 : Int32).toInt
      · rw [out0 kb, if_pos rfl]
        by_cases kd : (0 : Int32).toInt ≤ d.toInt ∧ d.toInt ≤ (999 : Int32).toInt
        · rw [out0 kd, if_pos rfl]; exact ⟨fun _ => rfl, fun h => absurd (Or.inr (Or.inl ⟨rfl, kb, kd⟩)) h⟩
        · rw [out1 kd, if_neg ne10]
          refine ⟨fun h => ?_, fun _ => rfl⟩
          rcases h with ⟨h, -⟩ | ⟨-, -, h⟩ | ⟨h, -⟩
          · exact absurd h k0
          · exact absurd h kd
          · exact absurd h (by decide)
      · rw [out1 kb, if_neg ne10]
        refine ⟨fun h => ?_, fun _ => rfl⟩
        rcases h with ⟨h, -⟩ | ⟨-, h, -⟩ | ⟨h, -⟩
        · exact absurd h k0
        · exact absurd h kb
        · exact absurd h (by decide)
    · rw [if_neg k1]
      by_cases k2 : a = 2
      · subst k2
        rw [if_pos rfl]
        by_cases kb : b = 0
        · rw [if_pos kb]
          by_cases kd : (0 : Int32).toInt ≤ d.toInt ∧ d.toInt ≤ (1 : Int32).toInt
          · rw [out0 kd, if_pos rfl]; exact ⟨fun _ => rfl, fun h => absurd (Or.inr (Or.inr ⟨rfl, kb, kd⟩)) h⟩
          · rw [out1 kd, if_neg ne10]
            refine ⟨fun h => ?_, fun _ => rfl⟩
            rcases h with ⟨h, -⟩ | ⟨h, -⟩ | ⟨-, -, h⟩
            · exact absurd h k0
            · exact absurd h k1
            · exact absurd h kd
        · rw [if_neg kb]
          refine ⟨fun h => ?_, fun _ => rfl⟩
          rcases h with ⟨h, -⟩ | ⟨h, -⟩ | ⟨-, h, -⟩
          · exact absurd h k0
          · exact absurd h k1
          · exact absurd h kb
      · rw [if_neg k2]
        refine ⟨fun h => ?_, fun _ => rfl⟩
        rcases h with ⟨h, -⟩ | ⟨h, -⟩ | ⟨h, -⟩
        · exact absurd h k0
        · exact absurd h k1
        · exact absurd h k2
/-- the reference's question -/
def signQ (a b d : Int32) : Option Int32 := if a = 1 then (if f_X7_in b 1 24 = 0 then some 0 else (if f_X7_in d 0 999 = 0 then some 0 else some 1)) else (if f_X7_in a 0 2 = 0 then some 0 else (if b = 0 then (((if a = 0 then some 200 else some 1 : Option Int32)).bind fun v5 => if f_X7_in d 0 v5 = 0 then some 0 else some 1) else some 0))
theorem signX7 (a b d : Int32) : (okS a b d → signQ a b d = some 1) ∧ (¬ okS a b d → signQ a b d = some 0) := by
  unfold signQ okS
  by_cases k1 : a = 1
  · subst k1
    rw [if_pos rfl]
    by_cases kb : (1 : Int32).toInt ≤ b.toInt ∧ b.toInt ≤ (24 : Int32).toInt
    · rw [in1 kb, if_neg ne10]
      by_cases kd : (0 : Int32).toInt ≤ d.toInt ∧ d.toInt ≤ (999 : Int32).toInt
      · rw [in1 kd, if_neg ne10]; exact ⟨fun _ => rfl, fun h => absurd (Or.inr (Or.inl ⟨rfl, kb, kd⟩)) h⟩
      · rw [in0 kd, if_pos rfl]
        refine ⟨fun h => ?_, fun _ => rfl⟩
        rcases h with ⟨h, -⟩ | ⟨-, -, h⟩ | ⟨h, -⟩
        · exact absurd h (by decide)
        · exact absurd h kd
        · exact absurd h (by decide)
    · rw [in0 kb, if_pos rfl]
      refine ⟨fun h => ?_, fun _ => rfl⟩
      rcases h with ⟨h, -⟩ | ⟨-, h, -⟩ | ⟨h, -⟩
      · exact absurd h (by decide)
      · exact absurd h kb
      · exact absurd h (by decide)
  · rw [if_neg k1]
    by_cases ka : (0 : Int32).toInt ≤ a.toInt ∧ a.toInt ≤ (2 : Int32).toInt
    · rw [in1 ka, if_neg ne10]
      have k02 : a = 0 ∨ a = 2 := by
        have e2 : (2 : Int32).toInt = 2 := by decide
        rw [z0, e2] at ka
        rw [zeq, zeq, z0, e2]
        rw [zeq, z1] at k1
        omega
      by_cases kb : b = 0
      · rw [if_pos kb]
        rcases k02 with rfl | rfl
        · rw [if_pos rfl, Option.bind_some]
          by_cases kd : (0 : Int32).toInt ≤ d.toInt ∧ d.toInt ≤ (200 : Int32).toInt
          · rw [in1 kd, if_neg ne10]; exact ⟨fun _ => rfl, fun h => absurd (Or.inl ⟨rfl, kb, kd⟩) h⟩
          · rw [in0 kd, if_pos rfl]
            refine ⟨fun h => ?_, fun _ => rfl⟩
            rcases h with ⟨-, -, h⟩ | ⟨h, -⟩ | ⟨h, -⟩
            · exact absurd h kd
            · exact absurd h k1
            · exact absurd h (by decide)
        · rw [if_neg (by decide), Option.bind_some]
          by_cases kd : (0 : Int32).toInt ≤ d.toInt ∧ d.toInt ≤ (1 : Int32).toInt
          · rw [in1 kd, if_neg ne10]; exact ⟨fun _ => rfl, fun h => absurd (Or.inr (Or.inr ⟨rfl, kb, kd⟩)) h⟩
          · rw [in0 kd, if_pos rfl]
            refine ⟨fun h => ?_, fun _ => rfl⟩
            rcases h with ⟨h, -⟩ | ⟨h, -⟩ | ⟨-, -, h⟩
            · exact absurd h (by decide)
            · exact absurd h k1
            · exact absurd h kd
      · rw [if_neg kb]
        refine ⟨fun h => ?_, fun _ => rfl⟩
        rcases h with ⟨-, h, -⟩ | ⟨h, -⟩ | ⟨-, h, -⟩
        · exact absurd h kb
        · exact absurd h k1
        · exact absurd h kb
    · rw [in0 ka, if_pos rfl]
      refine ⟨fun h => ?_, fun _ => rfl⟩
      rcases h with ⟨h, -⟩ | ⟨h, -⟩ | ⟨h, -⟩
      · exact absurd (by rw [h]; decide) ka
      · exact absurd h k1
      · exact absurd (by rw [h]; decide) ka
set_option maxHeartbeats 4000000 in
theorem op_sign {N : Nat} (hN : 400 < N) {u : CX} {w : CM} (hR : Rel u w) (a1 : Int32) (a2 : Int32) (a3 : Int32) : ∃ (rx : Int32 × K2 × (Nat → Int32) × (Nat → Int32) × (Nat → Int32)) (rm : Int32 × K7 × (Nat → Int32) × (Nat → Int32) × (Nat → Int32)), f_X6_sign u.1 u.2.2.2.2.2.2.2.2.1 u.2.2.2.2.2.2.2.2.2.1 u.2.2.2.2.2.2.2.2.2.2.1 u.2.2.2.2.2.2.2.2.2.2.2.1 a1 a2 a3 = some rx ∧ f_X7_sign w.1 w.2.2.2.2.2.2.2.1 w.2.2.2.2.2.2.2.2.1 w.2.2.2.2.2.2.2.2.2.1 a1 a2 a3 = some rm ∧ rx.1 = rm.1 ∧ Rel (u.1, u.2.1, u.2.2.1, u.2.2.2.1, u.2.2.2.2.1, u.2.2.2.2.2.1, u.2.2.2.2.2.2.1, u.2.2.2.2.2.2.2.1, rx.2.1, rx.2.2.1, rx.2.2.2.1, rx.2.2.2.2, u.2.2.2.2.2.2.2.2.2.2.2.2.1, u.2.2.2.2.2.2.2.2.2.2.2.2.2.1, u.2.2.2.2.2.2.2.2.2.2.2.2.2.2.1, u.2.2.2.2.2.2.2.2.2.2.2.2.2.2.2.1, u.2.2.2.2.2.2.2.2.2.2.2.2.2.2.2.2.1, u.2.2.2.2.2.2.2.2.2.2.2.2.2.2.2.2.2.1, u.2.2.2.2.2.2.2.2.2.2.2.2.2.2.2.2.2.2.1, u.2.2.2.2.2.2.2.2.2.2.2.2.2.2.2.2.2.2.2.1, u.2.2.2.2.2.2.2.2.2.2.2.2.2.2.2.2.2.2.2.2.1, u.2.2.2.2.2.2.2.2.2.2.2.2.2.2.2.2.2.2.2.2.2.1, u.2.2.2.2.2.2.2.2.2.2.2.2.2.2.2.2.2.2.2.2.2.2.1, u.2.2.2.2.2.2.2.2.2.2.2.2.2.2.2.2.2.2.2.2.2.2.2.1, u.2.2.2.2.2.2.2.2.2.2.2.2.2.2.2.2.2.2.2.2.2.2.2.2) (rm.2.1, w.2.1, w.2.2.1, w.2.2.2.1, w.2.2.2.2.1, w.2.2.2.2.2.1, w.2.2.2.2.2.2.1, rm.2.2.1, rm.2.2.2.1, rm.2.2.2.2, w.2.2.2.2.2.2.2.2.2.2.1, w.2.2.2.2.2.2.2.2.2.2.2.1, w.2.2.2.2.2.2.2.2.2.2.2.2.1, w.2.2.2.2.2.2.2.2.2.2.2.2.2.1, w.2.2.2.2.2.2.2.2.2.2.2.2.2.2.1, w.2.2.2.2.2.2.2.2.2.2.2.2.2.2.2.1, w.2.2.2.2.2.2.2.2.2.2.2.2.2.2.2.2.1, w.2.2.2.2.2.2.2.2.2.2.2.2.2.2.2.2.2.1, w.2.2.2.2.2.2.2.2.2.2.2.2.2.2.2.2.2.2) := by
  obtain ⟨h1, h2, h3, h4, h5, h6, ⟨n, hn, t1, t2, t3⟩, h8, h9, h10, h11⟩ := id hR
  have eQ : ∀ v, signQ a1 a2 a3 = some v → f_X7_sign w.1 w.2.2.2.2.2.2.2.1 w.2.2.2.2.2.2.2.2.1 w.2.2.2.2.2.2.2.2.2.1 a1 a2 a3 = (if v = 0 then some (-1, w.1, w.2.2.2.2.2.2.2.1, w.2.2.2.2.2.2.2.2.1, w.2.2.2.2.2.2.2.2.2.1) else (if w.1.2.2.2.2.2.2.2.1 = 6 then some (-3, w.1, w.2.2.2.2.2.2.2.1, w.2.2.2.2.2.2.2.2.1, w.2.2.2.2.2.2.2.2.2.1) else (if xin w.1.2.2.2.2.2.2.2.1 6 = true then some ((w.1.2.2.2.2.2.2.2.1 + 1), (w.1.1, w.1.2.1, w.1.2.2.1, w.1.2.2.2.1, w.1.2.2.2.2.1, w.1.2.2.2.2.2.1, w.1.2.2.2.2.2.2.1, (w.1.2.2.2.2.2.2.2.1 + 1), w.1.2.2.2.2.2.2.2.2.1, w.1.2.2.2.2.2.2.2.2.2.1, w.1.2.2.2.2.2.2.2.2.2.2.1, w.1.2.2.2.2.2.2.2.2.2.2.2), (upd w.2.2.2.2.2.2.2.1 w.1.2.2.2.2.2.2.2.1.toNatClampNeg a1), (upd w.2.2.2.2.2.2.2.2.1 w.1.2.2.2.2.2.2.2.1.toNatClampNeg a2), (upd w.2.2.2.2.2.2.2.2.2.1 w.1.2.2.2.2.2.2.2.1.toNatClampNeg a3)) else none))) := by
    intro v hv
    show (signQ a1 a2 a3).bind _ = _
    rw [hv, Option.bind_some]
  by_cases ha : okS a1 a2 a3
  · have e1 := (signX6 a1 a2 a3).1 ha
    have e2 := eQ 1 ((signX7 a1 a2 a3).1 ha)
    rw [if_neg ne10] at e2
    by_cases hf : n = 6
    · subst hf
      rw [t2, if_pos (by decide)] at e2
      refine ⟨_, _, by unfold f_X6_sign f_X2_add; rw [e1, if_neg ne10, t1, if_neg (by decide)]; rfl, e2, ?_, ?_⟩
      · rfl
      · exact mkRel h1 h2 h3 h4 h5 h6 ⟨6, by omega, by exact rfl, t2, t3⟩ h8 h9 h10 h11
    · rw [t2, if_neg (by rw [nlit, nI_eq] <;> omega), if_pos (xin_n (by omega) (by omega)), nI_clamp (by omega), nI_1] at e2
      refine ⟨_, _, by unfold f_X6_sign f_X2_add; rw [e1, if_neg ne10, t1, if_pos (by rw [nlit, nlt] <;> omega), if_pos (xin_n (by omega) (by omega)), nI_clamp (by omega), nI_1]; rfl, e2, ?_, ?_⟩
      · rfl
      · refine mkRel h1 h2 h3 h4 h5 h6 (relG_push (by omega) t1 t3 ?_ rfl) h8 h9 h10 h11
        rcases ha with ⟨g, -⟩ | ⟨g, g2, -⟩ | ⟨g, -⟩
        · exact Or.inl g
        · obtain ⟨q, hq, -, e⟩ := rng (n := 24) (by decide) (by decide) g2
          exact Or.inr (Or.inl ⟨g, q, hq, e⟩)
        · exact Or.inr (Or.inr g)
  · have e1 := (signX6 a1 a2 a3).2 ha
    have e2 := eQ 0 ((signX7 a1 a2 a3).2 ha)
    rw [if_pos rfl] at e2
    refine ⟨_, _, by unfold f_X6_sign; rw [e1, if_pos rfl], e2, ?_, ?_⟩
    · rfl
    · exact mkRel h1 h2 h3 h4 h5 h6 ⟨n, hn, t1, t2, t3⟩ h8 h9 h10 h11
def gcF (sp sy : Nat → Int32) : Nat → Int32
  | 0 => 0
  | n + 1 => if sy n = 0 then xmax (gcF sp sy n) (sp n) else gcF sp sy n
def lsF (sp sy : Nat → Int32) : Nat → Int32
  | 0 => -9
  | n + 1 => if sy n = 1 then (if lsF sp sy n = -9 then sp n else if lsF sp sy n ≤ sp n then lsF sp sy n else sp n) else lsF sp sy n
theorem greatestClean_eq {sd : K1} {sp sy : Nat → Int32} {N n : Nat} (h : sd = nI n) (hn : n ≤ 30) (hN : 400 < N) : f_X1_greatestClean N sd sp sy = some (gcF sp sy n) := by
  subst h
  obtain ⟨t, e1, e2⟩ := xlp_rel (st := s_X1_greatestClean_4 (nI n) sp sy) (fun i v => v = (gcF sp sy i, nI i)) n (fun v => v.1 = gcF sp sy n) (n := N) (x := (0, 0))
    (fun i x hi a => by
      subst a
      refine Or.inl ⟨(gcF sp sy (i + 1), nI (i + 1)), ?_, rfl⟩
      unfold s_X1_greatestClean_4
      show (if nI n ≤ nI i then _ else if xin (nI i) 30 = true then (if sy (nI i).toNatClampNeg = 0 then _ else _) else none) = _
      rw [if_neg (by rw [nle] <;> omega), if_pos (xin_n (by omega) (by omega)), nI_clamp (by omega)]
      show (if sy i = 0 then some (Sum.inl (xmax (gcF sp sy i) (sp i), nI i + 1)) else some (Sum.inl (gcF sp sy i, nI i + 1))) = some (Sum.inl (gcF sp sy (i + 1), nI (i + 1)))
      rw [nI_1, gcF]
      split <;> rfl)
    (fun x a => by
      subst a
      exact ⟨_, by unfold s_X1_greatestClean_4; exact if_pos (by show nI n ≤ nI n; rw [nle] <;> omega), rfl⟩) (by omega) rfl
  unfold f_X1_greatestClean
  rw [e1, Option.bind_some, e2]
theorem leastSandy_eq {sd : K1} {sp sy : Nat → Int32} {N n : Nat} (h : sd = nI n) (hn : n ≤ 30) (hN : 400 < N) : f_X1_leastSandy N sd sp sy = some (lsF sp sy n) := by
  subst h
  obtain ⟨t, e1, e2⟩ := xlp_rel (st := s_X1_leastSandy_5 (nI n) sp sy) (fun i v => v = (lsF sp sy i, nI i)) n (fun v => v.1 = lsF sp sy n) (n := N) (x := (-9, 0))
    (fun i x hi a => by
      subst a
      refine Or.inl ⟨(lsF sp sy (i + 1), nI (i + 1)), ?_, rfl⟩
      unfold s_X1_leastSandy_5
      show (if nI n ≤ nI i then _ else if xin (nI i) 30 = true then _ else none) = _
      rw [if_neg (by rw [nle] <;> omega), if_pos (xin_n (by omega) (by omega))]
      show (if sy (nI i).toNatClampNeg = 1 then (if lsF sp sy i = -9 then some (Sum.inl (sp (nI i).toNatClampNeg, nI i + 1)) else if lsF sp sy i ≤ sp (nI i).toNatClampNeg then some (Sum.inl (lsF sp sy i, nI i + 1)) else some (Sum.inl (sp (nI i).toNatClampNeg, nI i + 1))) else some (Sum.inl (lsF sp sy i, nI i + 1))) = some (Sum.inl (lsF sp sy (i + 1), nI (i + 1)))
      rw [nI_clamp (by omega), nI_1, lsF]
      repeat' split
      all_goals rfl)
    (fun x a => by
      subst a
      exact ⟨_, by unfold s_X1_leastSandy_5; exact if_pos (by show nI n ≤ nI n; rw [nle] <;> omega), rfl⟩) (by omega) rfl
  unfold f_X1_leastSandy
  rw [e1, Option.bind_some, e2]
theorem gcF_congr {sp sy tp hs : Nat → Int32} : ∀ n, (∀ j, j < n → sp j = tp j ∧ sy j = hs j) → gcF sp sy n = gcF tp hs n
  | 0, _ => rfl
  | n + 1, h => by rw [gcF, gcF, gcF_congr n (fun j hj => h j (by omega)), (h n (by omega)).1, (h n (by omega)).2]
theorem lsF_congr {sp sy tp hs : Nat → Int32} : ∀ n, (∀ j, j < n → sp j = tp j ∧ sy j = hs j) → lsF sp sy n = lsF tp hs n
  | 0, _ => rfl
  | n + 1, h => by rw [lsF, lsF, lsF_congr n (fun j hj => h j (by omega)), (h n (by omega)).1, (h n (by omega)).2]
theorem lineLoop {o : K7} {tp hs : Nat → Int32} {N n : Nat} (h : o.2.2.2.2.2.2.2.2.2.2.1 = nI n) (hn : n ≤ 30) (hN : 400 < N) : ∃ t, xlp (s_X7_line_19 o tp hs) N (0, -9, 0) = some t ∧ t.1 = gcF tp hs n ∧ t.2.1 = lsF tp hs n := by
  refine xlp_rel (st := s_X7_line_19 o tp hs) (fun i v => v = (gcF tp hs i, lsF tp hs i, nI i)) n (fun v => v.1 = gcF tp hs n ∧ v.2.1 = lsF tp hs n) (n := N) (x := (0, -9, 0))
    (fun i x hi a => ?_) (fun x a => ?_) (by omega) rfl
  · subst a
    refine Or.inl ⟨(gcF tp hs (i + 1), lsF tp hs (i + 1), nI (i + 1)), ?_, rfl⟩
    unfold s_X7_line_19
    show (if o.2.2.2.2.2.2.2.2.2.2.1 ≤ nI i then _ else if xin (nI i) 30 = true then _ else none) = _
    rw [h, if_neg (by rw [nle] <;> omega), if_pos (xin_n (by omega) (by omega))]
    show ((if hs (nI i).toNatClampNeg = 0 then (if tp (nI i).toNatClampNeg ≤ gcF tp hs i then some (gcF tp hs i) else some (tp (nI i).toNatClampNeg)) else some (gcF tp hs i) : Option Int32).bind fun v7 => if hs (nI i).toNatClampNeg = 1 then (if lsF tp hs i = -9 then some (Sum.inl (v7, tp (nI i).toNatClampNeg, nI i + 1)) else if lsF tp hs i ≤ tp (nI i).toNatClampNeg then some (Sum.inl (v7, lsF tp hs i, nI i + 1)) else some (Sum.inl (v7, tp (nI i).toNatClampNeg, nI i + 1))) else some (Sum.inl (v7, lsF tp hs i, nI i + 1))) = _
    rw [nI_clamp (by omega), nI_1]
    have e : (if hs i = 0 then (if tp i ≤ gcF tp hs i then some (gcF tp hs i) else some (tp i)) else some (gcF tp hs i) : Option Int32) = some (gcF tp hs (i + 1)) := by
      rw [gcF]
      by_cases k : hs i = 0
      · rw [if_pos k, if_pos k]
        unfold xmax
        by_cases k2 : tp i ≤ gcF tp hs i
        · rw [if_pos k2, if_neg (by rw [zlt]; rw [zle] at k2; omega)]
        · rw [if_neg k2, if_pos (by rw [zlt]; rw [zle] at k2; omega)]
      · rw [if_neg k, if_neg k]
    rw [e, Option.bind_some, lsF]
    repeat' split
    all_goals rfl
  · subst a
    exact ⟨_, by unfold s_X7_line_19; exact if_pos (by show o.2.2.2.2.2.2.2.2.2.2.1 ≤ nI n; rw [h, nle] <;> omega), rfl, rfl⟩
set_option maxHeartbeats 4000000 in
theorem op_line {N : Nat} (hN : 400 < N) {u : CX} {w : CM} (hR : Rel u w) (a1 : Int32) : ∃ (rx : Int32) (rm : Int32), f_X6_line N u.1 u.2.2.2.2.2.2.2.2.2.2.2.2.2.2.1 u.2.2.2.2.2.2.2.2.2.2.2.2.2.2.2.1 u.2.2.2.2.2.2.2.2.2.2.2.2.2.2.2.2.1 a1 = some rx ∧ f_X7_line N w.1 w.2.2.2.2.2.2.2.2.2.2.2.2.2.2.2.1 w.2.2.2.2.2.2.2.2.2.2.2.2.2.2.2.2.1 a1 = some rm ∧ rx = rm ∧ Rel u w := by
  obtain ⟨h1, h2, h3, h4, h5, h6, h7, h8, h9, ⟨n, hn, t1, t2, t3⟩, h11⟩ := id hR
  by_cases ha : (0 : Int32).toInt ≤ a1.toInt ∧ a1.toInt ≤ (2 : Int32).toInt
  · obtain ⟨t, e1, e2, e3⟩ := lineLoop (tp := w.2.2.2.2.2.2.2.2.2.2.2.2.2.2.2.1) (hs := w.2.2.2.2.2.2.2.2.2.2.2.2.2.2.2.2.1) t2 hn hN
    have g1 := greatestClean_eq (sp := u.2.2.2.2.2.2.2.2.2.2.2.2.2.2.2.1) (sy := u.2.2.2.2.2.2.2.2.2.2.2.2.2.2.2.2.1) t1 hn hN
    have g2 := leastSandy_eq (sp := u.2.2.2.2.2.2.2.2.2.2.2.2.2.2.2.1) (sy := u.2.2.2.2.2.2.2.2.2.2.2.2.2.2.2.2.1) t1 hn hN
    rw [gcF_congr n (fun j hj => ⟨(t3 j hj).1, (t3 j hj).2.1⟩), ← e2] at g1
    rw [lsF_congr n (fun j hj => ⟨(t3 j hj).1, (t3 j hj).2.1⟩), ← e3] at g2
    obtain ⟨r, hr⟩ : ∃ r, (if a1 = 0 then some t.1 else (if a1 = 1 then some t.2.1 else (if t.1 = 0 then some 1 else (if t.2.1 = -9 then some 1 else (if t.2.1 ≤ t.1 then some 0 else some 1)))) : Option Int32) = some r := by
      repeat' split
      all_goals exact ⟨_, rfl⟩
    exact ⟨r, r, by unfold f_X6_line; rw [out0 ha, if_pos rfl, g1, Option.bind_some, g2, Option.bind_some]; exact hr, by unfold f_X7_line; rw [in1 ha, if_neg ne10, e1, Option.bind_some]; exact hr, rfl, hR⟩
  · refine ⟨_, _, by unfold f_X6_line; rw [out1 ha, if_neg ne10], by unfold f_X7_line; rw [in0 ha, if_pos rfl], ?_, ?_⟩
    · rfl
    · exact hR
