/-! the steps, one by one -/
def pullS (y : K4) (n : Nat) (c : K0) : Int32 × K0 := ((iterS y n c).1, addP (iterS y n c).2 (nI n))
def standS (y : K4) (c : K0) : K0 := addH (hourS y c) (nI 1)
def full0 : K0 := (0, 100, 0, 0, 0, 0, 0)
def dayS (y : K4) (a b : Nat) : Nat → Int32 × Int32 × K0
  | 0 => (0, 0, full0)
  | n + 1 => ((dayS y a b n).1 + (pullS y a (dayS y a b n).2.2).1, (dayS y a b n).2.1 + (pullS y b (pullS y a (dayS y a b n).2.2).2).1, standS y (pullS y b (pullS y a (dayS y a b n).2.2).2).2)
theorem dayS_s (y : K4) (a b n : Nat) : dayS y a b (n + 1) = ((dayS y a b n).1 + (pullS y a (dayS y a b n).2.2).1, (dayS y a b n).2.1 + (pullS y b (pullS y a (dayS y a b n).2.2).2).1, standS y (pullS y b (pullS y a (dayS y a b n).2.2).2).2) := rfl
theorem pullS_VC {y : K4} {c : K0} (hy : VY y) (hc : VC c) (n : Nat) : VC (pullS y n c).2 := addP_VC (iterS_VC hy hc n)
theorem standS_VC {y : K4} {c : K0} (hy : VY y) (hc : VC c) : VC (standS y c) := addH_VC (hourS_VC hy hc)
theorem pull_eq {y : K4} {c : K0} {N n : Nat} (hy : VY y) (hc : VC c) (hN : n < N) (hn : n < 2 ^ 31) : f_X0_pull N c y (nI n) = some (pullS y n c) := f_X0_pull_eq hy hc hN hn
theorem stand1_eq {y : K4} {c : K0} {N : Nat} (hy : VY y) (hN : 400 < N) : f_X0_stand N c y 1 = some ((standS y c).1, standS y c) := by
  have h := f_X0_stand_eq (c := c) (N := N) (n := 1) hy (by omega) (by omega)
  rw [iterH_s] at h
  exact h
theorem pullS_0 (y : K4) (c : K0) : pullS y 0 c = (0, c) := by
  unfold pullS
  rw [nI_0, addP_0]
  rfl
theorem dayS_VC {y : K4} (hy : VY y) (a b : Nat) : ∀ n, VC (dayS y a b n).2.2
  | 0 => startFull_VC
  | n + 1 => by rw [dayS_s]; exact standS_VC hy (pullS_VC hy (pullS_VC hy (dayS_VC hy a b n) a) b)
theorem stroke_cups (y : K4) (c : K0) : (strokeS y c).2.2.2.2.1 = c.2.2.2.1 + (strokeS y c).1 := by
  unfold strokeS
  by_cases k : dep y c.2.2.1 ≤ f_X4_lift y
  · rw [if_pos k]
    by_cases k2 : gnS y c ≤ c.1
    · rw [if_pos k2]; exact (iadd0 _).symm
    · rw [if_neg k2]
  · rw [if_neg k]; exact (iadd0 _).symm
theorem iter_cups (y : K4) (c : K0) : ∀ n, (iterS y n c).2.2.2.2.1 = c.2.2.2.1 + (iterS y n c).1
  | 0 => (iadd0 _).symm
  | n + 1 => by rw [iterS_s2, iterS_s1, stroke_cups, iter_cups y c n, Int32.add_assoc]
theorem pull_cups (y : K4) (c : K0) (n : Nat) : (pullS y n c).2.2.2.2.1 = c.2.2.2.1 + (pullS y n c).1 := iter_cups y c n
theorem stand_cups (y : K4) (c : K0) : (standS y c).2.2.2.1 = c.2.2.2.1 := rfl
theorem day_cups (y : K4) (a b : Nat) : ∀ n, (dayS y a b n).2.2.2.2.2.1 = (dayS y a b n).1 + (dayS y a b n).2.1
  | 0 => rfl
  | n + 1 => by
    rw [dayS_s]
    show (standS y (pullS y b (pullS y a (dayS y a b n).2.2).2).2).2.2.2.1 = ((dayS y a b n).1 + (pullS y a (dayS y a b n).2.2).1) + ((dayS y a b n).2.1 + (pullS y b (pullS y a (dayS y a b n).2.2).2).1)
    rw [stand_cups, pull_cups, pull_cups, day_cups y a b n]
    ac_rfl
theorem day33 {y : K4} {c : K0} {r1 t : Nat → Int32} (o : K7) (v3 : Int32 × Int32 × Int32 × (Nat → Int32)) {N a : Nat} (m0 : Int32) (hp : RP r1 y) (hy : VY y) (hc : VC c) (ht : RC t c) (hN : a < N) (ha : a < 2 ^ 30) : ∃ v, xlp (s_X7_goDay_33 o (nI a) r1 v3) N (0, m0, t) = some v ∧ v.2.1 = m0 + (pullS y a c).1 ∧ RC v.2.2 (pullS y a c).2 :=
  xlp_rel (st := s_X7_goDay_33 o (nI a) r1 v3) (fun i v => v.1 = nI i ∧ v.2.1 = m0 + (iterS y i c).1 ∧ RC v.2.2 (addP (iterS y i c).2 (nI i))) a (fun v => v.2.1 = m0 + (pullS y a c).1 ∧ RC v.2.2 (pullS y a c).2) (n := N) (x := (0, m0, t))
    (fun i x hi ⟨e1, e2, e3⟩ => by
      obtain ⟨t2, g1, g2⟩ := refS (o.1, o.2.1, o.2.2.1, o.2.2.2.1, o.2.2.2.2.1, o.2.2.2.2.2.1, o.2.2.2.2.2.2.1, o.2.2.2.2.2.2.2.1, x.2.1, v3.2.2.1, o.2.2.2.2.2.2.2.2.2.2.1, o.2.2.2.2.2.2.2.2.2.2.2) hp hy hc i e3
      refine Or.inl ⟨(nI (i + 1), x.2.1 + (strokeS y (iterS y i c).2).1, t2), ?_, rfl, ?_, g2⟩
      · unfold s_X7_goDay_33
        rw [e1, if_neg (by rw [nle] <;> omega), g1, Option.bind_some, nI_1]
      · show x.2.1 + _ = _
        rw [e2, iterS_s1, Int32.add_assoc])
    (fun x ⟨e1, e2, e3⟩ => ⟨x, by unfold s_X7_goDay_33; rw [e1, if_pos (by rw [nle] <;> omega), ← e1], e2, e3⟩) hN ⟨rfl, (iadd0 _).symm, by rw [nI_0, addP_0]; exact ht⟩
theorem day61 {y : K4} {c : K0} {r1 t : Nat → Int32} (o : K7) (v3 : Int32 × Int32 × (Nat → Int32)) {N a : Nat} (m0 : Int32) (hp : RP r1 y) (hy : VY y) (hc : VC c) (ht : RC t c) (hN : a < N) (ha : a < 2 ^ 30) : ∃ v, xlp (s_X7_goDay_61 o (nI a) r1 v3) N (0, m0, t) = some v ∧ v.2.1 = m0 + (pullS y a c).1 ∧ RC v.2.2 (pullS y a c).2 :=
  xlp_rel (st := s_X7_goDay_61 o (nI a) r1 v3) (fun i v => v.1 = nI i ∧ v.2.1 = m0 + (iterS y i c).1 ∧ RC v.2.2 (addP (iterS y i c).2 (nI i))) a (fun v => v.2.1 = m0 + (pullS y a c).1 ∧ RC v.2.2 (pullS y a c).2) (n := N) (x := (0, m0, t))
    (fun i x hi ⟨e1, e2, e3⟩ => by
      obtain ⟨t2, g1, g2⟩ := refS (o.1, o.2.1, o.2.2.1, o.2.2.2.1, o.2.2.2.2.1, o.2.2.2.2.2.1, o.2.2.2.2.2.2.1, o.2.2.2.2.2.2.2.1, v3.2.1, x.2.1, o.2.2.2.2.2.2.2.2.2.2.1, o.2.2.2.2.2.2.2.2.2.2.2) hp hy hc i e3
      refine Or.inl ⟨(nI (i + 1), x.2.1 + (strokeS y (iterS y i c).2).1, t2), ?_, rfl, ?_, g2⟩
      · unfold s_X7_goDay_61
        rw [e1, if_neg (by rw [nle] <;> omega), g1, Option.bind_some, nI_1]
      · show x.2.1 + _ = _
        rw [e2, iterS_s1, Int32.add_assoc])
    (fun x ⟨e1, e2, e3⟩ => ⟨x, by unfold s_X7_goDay_61; rw [e1, if_pos (by rw [nle] <;> omega), ← e1], e2, e3⟩) hN ⟨rfl, (iadd0 _).symm, by rw [nI_0, addP_0]; exact ht⟩
theorem goDay_eq {y : K4} {told : Nat → Int32} (o : K7) (par t : Nat → Int32) {N a b n : Nat} (hN : 400 < N) (hp : RP told y) (hy : VY y) (ha : a ≤ 200) (hb : b ≤ 200) (hn : n ≤ 24) : ∃ par' t', f_X7_goDay N o told par t (nI a) (nI b) (nI n) = some ((o.1, o.2.1, o.2.2.1, o.2.2.2.1, o.2.2.2.2.1, o.2.2.2.2.2.1, o.2.2.2.2.2.2.1, o.2.2.2.2.2.2.2.1, (dayS y a b n).1, (dayS y a b n).2.1, o.2.2.2.2.2.2.2.2.2.2.1, o.2.2.2.2.2.2.2.2.2.2.2), par', t') := by
  obtain ⟨r1, e1, e2⟩ := f_X7_takeTold_eq (N := N) o (par := par) (by omega) hp
  obtain ⟨r2, e3, e4⟩ := f_X7_begin_eq (N := N) o t 0 100 (by omega)
  obtain ⟨v, e5, e6, e7⟩ := xlp_rel (st := s_X7_goDay_24 N o (nI a) (nI b) (nI n) r1) (fun i v => v.1 = nI i ∧ v.2.1 = (dayS y a b i).1 ∧ v.2.2.1 = (dayS y a b i).2.1 ∧ RC v.2.2.2 (dayS y a b i).2.2) n (fun v => v.2.1 = (dayS y a b n).1 ∧ v.2.2.1 = (dayS y a b n).2.1) (n := N) (x := (0, 0, 0, r2))
    (fun i x hi ⟨a1, a2, a3, a4⟩ => by
      have hv := dayS_VC hy a b i
      obtain ⟨v8, b1, b2, b3⟩ := day33 (N := N) (a := a) o x x.2.1 e2 hy hv a4 (by omega) (by omega)
      obtain ⟨v12, b4, b5, b6⟩ := day61 (N := N) (a := b) o v8 x.2.2.1 e2 hy (pullS_VC hy hv a) b3 (by omega) (by omega)
      obtain ⟨t3, b7, b8⟩ := f_X7_goHour_eq (o.1, o.2.1, o.2.2.1, o.2.2.2.1, o.2.2.2.2.1, o.2.2.2.2.2.1, o.2.2.2.2.2.2.1, o.2.2.2.2.2.2.2.1, v8.2.1, v12.2.1, o.2.2.2.2.2.2.2.2.2.2.1, o.2.2.2.2.2.2.2.2.2.2.2) e2 hy b6 (pullS_VC hy (pullS_VC hy hv a) b)
      refine Or.inl ⟨(nI (i + 1), v8.2.1, v12.2.1, t3), ?_, rfl, ?_, ?_, ?_⟩
      · unfold s_X7_goDay_24
        rw [a1, if_neg (by rw [nle] <;> omega), b1, Option.bind_some, b4, Option.bind_some, b7, Option.bind_some, nI_1]
      · rw [dayS_s]; show v8.2.1 = _; rw [b2, a2]
      · rw [dayS_s]; show v12.2.1 = _; rw [b5, a3]
      · rw [dayS_s]; exact b8)
    (fun x ⟨a1, a2, a3, a4⟩ => ⟨x, by unfold s_X7_goDay_24; rw [a1, if_pos (by rw [nle] <;> omega), ← a1], a2, a3⟩) (by omega) ⟨rfl, rfl, rfl, e4⟩
  exact ⟨r1, v.2.2.2, by unfold f_X7_goDay; rw [e1, Option.bind_some, e3, Option.bind_some, e5, Option.bind_some, e6, e7]⟩
theorem dayCups_eq {y : K4} (o : K6) (sh : K0) {N a n : Nat} (hN : 400 < N) (hy : VY y) (ha : a ≤ 200) (hn : n ≤ 24) : f_X6_dayCups N o y sh (nI a) (nI n) = some ((dayS y a 0 n).1, (dayS y a 0 n).2.2) := by
  have hz : ∀ i, (dayS y a 0 i).2.1 = 0 := by
    intro i
    induction i with
    | zero => rfl
    | succ i ih => rw [dayS_s, pullS_0]; show (dayS y a 0 i).2.1 + 0 = 0; rw [ih]; rfl
  obtain ⟨v, e1, e2⟩ := xlp_rel (st := s_X6_dayCups_9 N y (nI a) (nI n)) (fun i v => v = (nI i, (dayS y a 0 i).2.2)) n (fun v => v.2 = (dayS y a 0 n).2.2) (n := N) (x := (0, full0))
    (fun i x hi a1 => by
      subst a1
      refine Or.inl ⟨(nI (i + 1), (dayS y a 0 (i + 1)).2.2), ?_, rfl⟩
      have hv := dayS_VC hy a 0 i
      unfold s_X6_dayCups_9
      show (if nI n ≤ nI i then _ else (f_X0_pull N (dayS y a 0 i).2.2 y (nI a)).bind _) = _
      rw [if_neg (by rw [nle] <;> omega), pull_eq hy hv (by omega) (by omega), Option.bind_some, stand1_eq hy hN, Option.bind_some, dayS_s, pullS_0, ← nI_1])
    (fun x a1 => by
      subst a1
      exact ⟨(nI n, (dayS y a 0 n).2.2), by unfold s_X6_dayCups_9; exact if_pos (by show nI n ≤ nI n; rw [nle] <;> omega), rfl⟩) (by omega) rfl
  unfold f_X6_dayCups
  show (xlp (s_X6_dayCups_9 N y (nI a) (nI n)) N (0, full0)).bind _ = _
  rw [e1, Option.bind_some, e2, day_cups, hz, iadd0]
set_option maxHeartbeats 4000000 in
theorem op_day {N : Nat} (hN : 400 < N) {u : CX} {w : CM} (hR : Rel u w) (a1 : Int32) (a2 : Int32) : ∃ (rx : Int32 × K0) (rm : Int32 × K7 × (Nat → Int32) × (Nat → Int32)), f_X6_day N u.1 u.2.2.2.1 u.2.2.2.2.2.2.2.2.2.2.2.2.2.2.2.2.2.2.2.2.2.1 a1 a2 = some rx ∧ f_X7_day N w.1 w.2.2.1 w.2.2.2.1 w.2.2.2.2.1 a1 a2 = some rm ∧ rx.1 = rm.1 ∧ Rel (u.1, u.2.1, u.2.2.1, u.2.2.2.1, u.2.2.2.2.1, u.2.2.2.2.2.1, u.2.2.2.2.2.2.1, u.2.2.2.2.2.2.2.1, u.2.2.2.2.2.2.2.2.1, u.2.2.2.2.2.2.2.2.2.1, u.2.2.2.2.2.2.2.2.2.2.1, u.2.2.2.2.2.2.2.2.2.2.2.1, u.2.2.2.2.2.2.2.2.2.2.2.2.1, u.2.2.2.2.2.2.2.2.2.2.2.2.2.1, u.2.2.2.2.2.2.2.2.2.2.2.2.2.2.1, u.2.2.2.2.2.2.2.2.2.2.2.2.2.2.2.1, u.2.2.2.2.2.2.2.2.2.2.2.2.2.2.2.2.1, u.2.2.2.2.2.2.2.2.2.2.2.2.2.2.2.2.2.1, u.2.2.2.2.2.2.2.2.2.2.2.2.2.2.2.2.2.2.1, u.2.2.2.2.2.2.2.2.2.2.2.2.2.2.2.2.2.2.2.1, u.2.2.2.2.2.2.2.2.2.2.2.2.2.2.2.2.2.2.2.2.1, rx.2, u.2.2.2.2.2.2.2.2.2.2.2.2.2.2.2.2.2.2.2.2.2.2.1, u.2.2.2.2.2.2.2.2.2.2.2.2.2.2.2.2.2.2.2.2.2.2.2.1, u.2.2.2.2.2.2.2.2.2.2.2.2.2.2.2.2.2.2.2.2.2.2.2.2) (rm.2.1, w.2.1, w.2.2.1, rm.2.2.1, rm.2.2.2, w.2.2.2.2.2.1, w.2.2.2.2.2.2.1, w.2.2.2.2.2.2.2.1, w.2.2.2.2.2.2.2.2.1, w.2.2.2.2.2.2.2.2.2.1, w.2.2.2.2.2.2.2.2.2.2.1, w.2.2.2.2.2.2.2.2.2.2.2.1, w.2.2.2.2.2.2.2.2.2.2.2.2.1, w.2.2.2.2.2.2.2.2.2.2.2.2.2.1, w.2.2.2.2.2.2.2.2.2.2.2.2.2.2.1, w.2.2.2.2.2.2.2.2.2.2.2.2.2.2.2.1, w.2.2.2.2.2.2.2.2.2.2.2.2.2.2.2.2.1, w.2.2.2.2.2.2.2.2.2.2.2.2.2.2.2.2.2.1, w.2.2.2.2.2.2.2.2.2.2.2.2.2.2.2.2.2.2) := by
  obtain ⟨h1, h2, ⟨hy, hp⟩, ⟨hc, ht⟩, h5, h6, h7, h8, h9, h10, h11⟩ := id hR
  by_cases ha : (1 : Int32).toInt ≤ a1.toInt ∧ a1.toInt ≤ (200 : Int32).toInt
  · by_cases hb : (1 : Int32).toInt ≤ a2.toInt ∧ a2.toInt ≤ (24 : Int32).toInt
    · obtain ⟨q, hq, -, rfl⟩ := rng (n := 200) (by decide) (by decide) ha
      obtain ⟨n, hn, -, rfl⟩ := rng (n := 24) (by decide) (by decide) hb
      obtain ⟨p', t', e1⟩ := goDay_eq w.1 w.2.2.2.1 w.2.2.2.2.1 hN hp hy hq (Nat.zero_le _) hn
      rw [nI_0] at e1
      refine ⟨_, _, by unfold f_X6_day; rw [out0 ha, out0 hb, if_pos rfl, if_pos rfl, dayCups_eq _ _ hN hy hq hn]; rfl, by unfold f_X7_day; rw [in1 ha, in1 hb, if_neg ne10, if_neg ne10, e1]; rfl, ?_, ?_⟩
      · rfl
      · exact mkRel h1 h2 ⟨hy, hp⟩ ⟨hc, ht⟩ h5 h6 h7 h8 h9 h10 h11
    · refine ⟨_, _, by unfold f_X6_day; rw [out0 ha, out1 hb, if_pos rfl, if_neg ne10], by unfold f_X7_day; rw [in1 ha, in0 hb, if_neg ne10, if_pos rfl], ?_, ?_⟩
      · rfl
      · exact mkRel h1 h2 ⟨hy, hp⟩ ⟨hc, ht⟩ h5 h6 h7 h8 h9 h10 h11
  · refine ⟨_, _, by unfold f_X6_day; rw [out1 ha, if_neg ne10], by unfold f_X7_day; rw [in0 ha, if_pos rfl], ?_, ?_⟩
    · rfl
    · exact mkRel h1 h2 ⟨hy, hp⟩ ⟨hc, ht⟩ h5 h6 h7 h8 h9 h10 h11
def paceF (y : K4) (n : Nat) : Nat → Int32 × Int32
  | 0 => (1, -1)
  | i + 1 => if (dayS y (i + 1) 0 n).1 ≤ (paceF y n i).2 then paceF y n i else (nI (i + 1), (dayS y (i + 1) 0 n).1)
theorem paceF_s (y : K4) (n i : Nat) : paceF y n (i + 1) = if (dayS y (i + 1) 0 n).1 ≤ (paceF y n i).2 then paceF y n i else (nI (i + 1), (dayS y (i + 1) 0 n).1) := rfl
set_option maxHeartbeats 4000000 in
theorem op_pace {N : Nat} (hN : 400 < N) {u : CX} {w : CM} (hR : Rel u w) (a1 : Int32) : ∃ (rx : Int32 × K0) (rm : Int32 × K7 × (Nat → Int32) × (Nat → Int32)), f_X6_pace N u.1 u.2.2.2.1 u.2.2.2.2.2.2.2.2.2.2.2.2.2.2.2.2.2.2.2.2.2.1 a1 = some rx ∧ f_X7_pace N w.1 w.2.2.1 w.2.2.2.1 w.2.2.2.2.1 a1 = some rm ∧ rx.1 = rm.1 ∧ Rel (u.1, u.2.1, u.2.2.1, u.2.2.2.1, u.2.2.2.2.1, u.2.2.2.2.2.1, u.2.2.2.2.2.2.1, u.2.2.2.2.2.2.2.1, u.2.2.2.2.2.2.2.2.1, u.2.2.2.2.2.2.2.2.2.1, u.2.2.2.2.2.2.2.2.2.2.1, u.2.2.2.2.2.2.2.2.2.2.2.1, u.2.2.2.2.2.2.2.2.2.2.2.2.1, u.2.2.2.2.2.2.2.2.2.2.2.2.2.1, u.2.2.2.2.2.2.2.2.2.2.2.2.2.2.1, u.2.2.2.2.2.2.2.2.2.2.2.2.2.2.2.1, u.2.2.2.2.2.2.2.2.2.2.2.2.2.2.2.2.1, u.2.2.2.2.2.2.2.2.2.2.2.2.2.2.2.2.2.1, u.2.2.2.2.2.2.2.2.2.2.2.2.2.2.2.2.2.2.1, u.2.2.2.2.2.2.2.2.2.2.2.2.2.2.2.2.2.2.2.1, u.2.2.2.2.2.2.2.2.2.2.2.2.2.2.2.2.2.2.2.2.1, rx.2, u.2.2.2.2.2.2.2.2.2.2.2.2.2.2.2.2.2.2.2.2.2.2.1, u.2.2.2.2.2.2.2.2.2.2.2.2.2.2.2.2.2.2.2.2.2.2.2.1, u.2.2.2.2.2.2.2.2.2.2.2.2.2.2.2.2.2.2.2.2.2.2.2.2) (rm.2.1, w.2.1, w.2.2.1, rm.2.2.1, rm.2.2.2, w.2.2.2.2.2.1, w.2.2.2.2.2.2.1, w.2.2.2.2.2.2.2.1, w.2.2.2.2.2.2.2.2.1, w.2.2.2.2.2.2.2.2.2.1, w.2.2.2.2.2.2.2.2.2.2.1, w.2.2.2.2.2.2.2.2.2.2.2.1, w.2.2.2.2.2.2.2.2.2.2.2.2.1, w.2.2.2.2.2.2.2.2.2.2.2.2.2.1, w.2.2.2.2.2.2.2.2.2.2.2.2.2.2.1, w.2.2.2.2.2.2.2.2.2.2.2.2.2.2.2.1, w.2.2.2.2.2.2.2.2.2.2.2.2.2.2.2.2.1, w.2.2.2.2.2.2.2.2.2.2.2.2.2.2.2.2.2.1, w.2.2.2.2.2.2.2.2.2.2.2.2.2.2.2.2.2.2) := by
  obtain ⟨h1, h2, ⟨hy, hp⟩, ⟨hc, ht⟩, h5, h6, h7, h8, h9, h10, h11⟩ := id hR
  by_cases ha : (1 : Int32).toInt ≤ a1.toInt ∧ a1.toInt ≤ (24 : Int32).toInt
  · obtain ⟨n, hn, -, rfl⟩ := rng (n := 24) (by decide) (by decide) ha
    obtain ⟨v, c1, c2⟩ := xlp_rel (st := s_X6_pace_19 N u.1 u.2.2.2.1 (nI n)) (fun i v => v.1 = (paceF u.2.2.2.1 n i).1 ∧ v.2.1 = (paceF u.2.2.2.1 n i).2 ∧ v.2.2.1 = nI (i + 1)) 200 (fun v => v.1 = (paceF u.2.2.2.1 n 200).1) (n := N) (x := (1, -1, 1, u.2.2.2.2.2.2.2.2.2.2.2.2.2.2.2.2.2.2.2.2.2.1))
      (fun i x hi ⟨b1, b2, b3⟩ => by
        refine Or.inl ?_
        unfold s_X6_pace_19
        rw [b3, if_neg (by rw [nlit, nlt] <;> omega), dayCups_eq _ _ hN hy (by omega) hn, Option.bind_some, paceF_s, b2]
        by_cases k : (dayS u.2.2.2.1 (i + 1) 0 n).1 ≤ (paceF u.2.2.2.1 n i).2
        · rw [if_pos k, if_pos k]
          exact ⟨_, rfl, b1, rfl, nI_1 _⟩
        · rw [if_neg k, if_neg k]
          exact ⟨_, rfl, rfl, rfl, nI_1 _⟩)
      (fun x ⟨b1, b2, b3⟩ => ⟨x, by unfold s_X6_pace_19; rw [b3, if_pos (by rw [nlit, nlt] <;> omega), ← b3], b1⟩) (by omega) ⟨rfl, rfl, rfl⟩
    obtain ⟨v', c3, c4, c5⟩ := xlp_rel (st := s_X7_pace_19 N w.2.2.1 (nI n)) (fun i v => v.1 = (paceF u.2.2.2.1 n i).1 ∧ v.2.1 = (paceF u.2.2.2.1 n i).2 ∧ v.2.2.1 = nI (i + 1) ∧ ∃ q1 q2, v.2.2.2.1 = (w.1.1, w.1.2.1, w.1.2.2.1, w.1.2.2.2.1, w.1.2.2.2.2.1, w.1.2.2.2.2.2.1, w.1.2.2.2.2.2.2.1, w.1.2.2.2.2.2.2.2.1, q1, q2, w.1.2.2.2.2.2.2.2.2.2.2.1, w.1.2.2.2.2.2.2.2.2.2.2.2)) 200 (fun v => v.1 = (paceF u.2.2.2.1 n 200).1 ∧ ∃ q1 q2, v.2.2.2.1 = (w.1.1, w.1.2.1, w.1.2.2.1, w.1.2.2.2.1, w.1.2.2.2.2.1, w.1.2.2.2.2.2.1, w.1.2.2.2.2.2.2.1, w.1.2.2.2.2.2.2.2.1, q1, q2, w.1.2.2.2.2.2.2.2.2.2.2.1, w.1.2.2.2.2.2.2.2.2.2.2.2)) (n := N) (x := (1, -1, 1, w.1, w.2.2.2.1, w.2.2.2.2.1))
      (fun i x hi ⟨b1, b2, b3, q1, q2, b4⟩ => by
        refine Or.inl ?_
        obtain ⟨p', t', e1⟩ := goDay_eq (N := N) (b := 0) (a := i + 1) x.2.2.2.1 x.2.2.2.2.1 x.2.2.2.2.2 hN hp hy (by omega) (Nat.zero_le _) hn
        rw [nI_0] at e1
        unfold s_X7_pace_19
        rw [b3, if_neg (by rw [nlit, nlt] <;> omega), e1, Option.bind_some, paceF_s, b2]
        show ∃ z, (Option.bind (if (dayS u.2.2.2.1 (i + 1) 0 n).1 ≤ (paceF u.2.2.2.1 n i).2 then _ else _) _) = _ ∧ _
        by_cases k : (dayS u.2.2.2.1 (i + 1) 0 n).1 ≤ (paceF u.2.2.2.1 n i).2
        · rw [if_pos k, if_pos k, Option.bind_some]
          show ∃ z, (if (dayS u.2.2.2.1 (i + 1) 0 n).1 ≤ (paceF u.2.2.2.1 n i).2 then _ else _) = _ ∧ _
          rw [if_pos k, b4]
          exact ⟨_, rfl, b1, rfl, nI_1 _, _, _, rfl⟩
        · rw [if_neg k, if_neg k, Option.bind_some]
          show ∃ z, (if (dayS u.2.2.2.1 (i + 1) 0 n).1 ≤ (paceF u.2.2.2.1 n i).2 then _ else _) = _ ∧ _
          rw [if_neg k, b4]
          exact ⟨_, rfl, rfl, rfl, nI_1 _, _, _, rfl⟩)
      (fun x ⟨b1, b2, b3, b4⟩ => ⟨x, by unfold s_X7_pace_19; rw [b3, if_pos (by rw [nlit, nlt] <;> omega), ← b3], b1, b4⟩) (by omega) ⟨rfl, rfl, rfl, _, _, rfl⟩
    obtain ⟨q1, q2, c5⟩ := c5
    refine ⟨_, _, by unfold f_X6_pace; rw [out0 ha, if_pos rfl, c1]; rfl, by unfold f_X7_pace; rw [in1 ha, if_neg ne10, c3]; rfl, ?_, ?_⟩
    · show v.1 = v'.1
      rw [c2, c4]
    · refine mkRel ?_ ?_ ⟨hy, hp⟩ ⟨hc, ht⟩ h5 h6 ?_ h8 h9 ?_ ?_
      · show v'.2.2.2.1.1 = _
        rw [c5]; exact h1
      · show relT _ _ v'.2.2.2.1 _
        rw [c5]; exact h2
      · show relG _ _ _ _ v'.2.2.2.1 _ _ _
        rw [c5]; exact h7
      · show relS _ _ _ v'.2.2.2.1 _ _
        rw [c5]; exact h10
      · show relY _ _ _ v'.2.2.2.1 _ _
        rw [c5]; exact h11
  · refine ⟨_, _, by unfold f_X6_pace; rw [out1 ha, if_neg ne10], by unfold f_X7_pace; rw [in0 ha, if_pos rfl], ?_, ?_⟩
    · rfl
    · exact mkRel h1 h2 ⟨hy, hp⟩ ⟨hc, ht⟩ h5 h6 h7 h8 h9 h10 h11
