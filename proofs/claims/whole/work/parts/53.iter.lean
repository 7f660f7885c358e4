/-! many strokes, many hours; strokes until water -/
def iterS (y : K4) : Nat → K0 → Int32 × K0
  | 0, c => (0, c)
  | n + 1, c => ((iterS y n c).1 + (strokeS y (iterS y n c).2).1, (strokeS y (iterS y n c).2).2)
def iterH (y : K4) : Nat → K0 → K0
  | 0, c => c
  | n + 1, c => hourS y (iterH y n c)
theorem iterS_s (y : K4) (i : Nat) (c : K0) : iterS y (i + 1) c = ((iterS y i c).1 + (strokeS y (iterS y i c).2).1, (strokeS y (iterS y i c).2).2) := rfl
theorem iterS_s2 (y : K4) (i : Nat) (c : K0) : (iterS y (i + 1) c).2 = (strokeS y (iterS y i c).2).2 := by rw [iterS_s]
theorem iterS_s1 (y : K4) (i : Nat) (c : K0) : (iterS y (i + 1) c).1 = (iterS y i c).1 + (strokeS y (iterS y i c).2).1 := by rw [iterS_s]
theorem iterH_s (y : K4) (i : Nat) (c : K0) : iterH y (i + 1) c = hourS y (iterH y i c) := rfl
theorem iterS_VC {y : K4} {c : K0} (hy : VY y) (hc : VC c) : ∀ n, VC (iterS y n c).2
  | 0 => hc
  | n + 1 => by rw [iterS_s2]; exact strokeS_VC hy (iterS_VC hy hc n)
theorem iterH_VC {y : K4} {c : K0} (hy : VY y) (hc : VC c) : ∀ n, VC (iterH y n c)
  | 0 => hc
  | n + 1 => by rw [iterH_s]; exact hourS_VC hy (iterH_VC hy hc n)
theorem iadd0 (a : Int32) : a + 0 = a := by simp
theorem iterS_add (y : K4) (c : K0) (i : Nat) : ∀ k, iterS y (i + k) c = ((iterS y i c).1 + (iterS y k (iterS y i c).2).1, (iterS y k (iterS y i c).2).2)
  | 0 => by
    show iterS y i c = ((iterS y i c).1 + 0, (iterS y i c).2)
    rw [iadd0]
  | k + 1 => by
    have ih := iterS_add y c i k
    rw [show i + (k + 1) = (i + k) + 1 from rfl, iterS_s, ih, iterS_s y k, Int32.add_assoc]
theorem iterS_fix {y : K4} {c : K0} (h : strokeS y c = (0, c)) : ∀ k, iterS y k c = (0, c)
  | 0 => rfl
  | k + 1 => by
    have ih := iterS_fix h k
    rw [iterS_s, ih, h]
    rfl
/-- a stroke that moves nothing: all behind it are its like -/
theorem strokeS_fix {y : K4} {c : K0} (hy : VY y) (hc : VC c) (h0 : (strokeS y c).1 = 0) (h1 : (strokeS y c).2.1 = c.1) : strokeS y (strokeS y c).2 = (0, (strokeS y c).2) := by
  have hg := gnS_int hy hc
  obtain ⟨c1, -⟩ := id hc
  have e4 := zsub (x := gnS y c) (y := c.1) (by omega) (by omega)
  have e : strokeS y c = (0, (c.1, c.2.1, c.2.2.1, c.2.2.2.1, c.2.2.2.2.1, c.2.2.2.2.2.1, feltS y c)) := by
    unfold strokeS at h0 h1 ⊢
    by_cases k : dep y c.2.2.1 ≤ f_X4_lift y
    · rw [if_pos k] at h0 h1 ⊢
      by_cases k2 : gnS y c ≤ c.1
      · rw [if_pos k2] at h0 h1 ⊢
        have h2 : c.1 - gnS y c = c.1 := h1
        rw [h2]
      · rw [if_neg k2] at h0
        have h2 : gnS y c - c.1 = 0 := h0
        rw [zeq, z0] at h2
        rw [zle] at k2
        omega
    · rw [if_neg k] at h0 h1 ⊢
      have h2 : (if c.1 < dep y c.2.2.1 - f_X4_lift y then c.1 else if c.1 - gnS y c < dep y c.2.2.1 - f_X4_lift y then dep y c.2.2.1 - f_X4_lift y else c.1 - gnS y c) = c.1 := h1
      rw [h2]
  have e2 : strokeS y (c.1, c.2.1, c.2.2.1, c.2.2.2.1, c.2.2.2.2.1, c.2.2.2.2.2.1, feltS y c) = strokeS y c := rfl
  rw [e]
  show strokeS y (c.1, c.2.1, c.2.2.1, c.2.2.2.1, c.2.2.2.2.1, c.2.2.2.2.2.1, feltS y c) = _
  rw [e2, e]
def addP (c : K0) (n : Int32) : K0 := (c.1, c.2.1, c.2.2.1, c.2.2.2.1, c.2.2.2.2.1 + n, c.2.2.2.2.2.1, c.2.2.2.2.2.2)
def addH (c : K0) (n : Int32) : K0 := (c.1, c.2.1, c.2.2.1, c.2.2.2.1, c.2.2.2.2.1, c.2.2.2.2.2.1 + n, c.2.2.2.2.2.2)
theorem addP_VC {c : K0} {n : Int32} (h : VC c) : VC (addP c n) := h
theorem addH_VC {c : K0} {n : Int32} (h : VC c) : VC (addH c n) := h
theorem f_X0_pull_eq {y : K4} {c : K0} {N n : Nat} (hy : VY y) (hc : VC c) (hN : n < N) (hn : n < 2 ^ 31) : f_X0_pull N c y (nI n) = some ((iterS y n c).1, addP (iterS y n c).2 (nI n)) := by
  obtain ⟨t, h1, h2⟩ := xlp_rel (st := s_X0_pull_5 y (nI n)) (fun i v => v = ((iterS y i c).1, nI i, (iterS y i c).2)) n (fun t => t = ((iterS y n c).1, addP (iterS y n c).2 (nI n))) (n := N) (x := (0, 0, c))
    (fun i x hi a => by
      subst a
      unfold s_X0_pull_5
      have hv := iterS_VC hy hc i
      show (∃ z, (if nI n ≤ nI i then _ else _) = _ ∧ _) ∨ ∃ t, (if nI n ≤ nI i then _ else _) = _ ∧ _
      rw [if_neg (by rw [nle] <;> omega)]
      show (∃ z, ((f_X0_pullOnce (iterS y i c).2 y).bind _) = _ ∧ _) ∨ ∃ t, ((f_X0_pullOnce (iterS y i c).2 y).bind _) = _ ∧ _
      rw [f_X0_pullOnce_eq hy hv, Option.bind_some]
      by_cases k1 : (strokeS y (iterS y i c).2).1 = 0
      · rw [if_pos k1]
        by_cases k2 : (strokeS y (iterS y i c).2).2.1 = (iterS y i c).2.1
        · rw [if_pos k2]
          refine Or.inr ⟨_, rfl, ?_⟩
          have hf := strokeS_fix hy hv k1 k2
          have e : n = (i + 1) + (n - (i + 1)) := by omega
          have e2 := iterS_add y c (i + 1) (n - (i + 1))
          rw [← e] at e2
          have e3 : iterS y (n - (i + 1)) (iterS y (i + 1) c).2 = (0, (iterS y (i + 1) c).2) := by rw [iterS_s2]; exact iterS_fix hf _
          rw [e3, iadd0] at e2
          rw [e2]
          rfl
        · rw [if_neg k2]
          exact Or.inl ⟨_, rfl, by rw [iterS_s, ← nI_1 i]⟩
      · rw [if_neg k1]
        exact Or.inl ⟨_, rfl, by rw [iterS_s, ← nI_1 i]⟩)
    (fun x a => by
      subst a
      unfold s_X0_pull_5
      refine ⟨_, if_pos (by show nI n ≤ nI n; rw [nle] <;> omega), rfl⟩) hN rfl
  unfold f_X0_pull
  rw [h1, h2]
theorem f_X0_stand_eq {y : K4} {c : K0} {N n : Nat} (hy : VY y) (hN : n < N) (hn : n < 2 ^ 31) : f_X0_stand N c y (nI n) = some ((iterH y n c).1, addH (iterH y n c) (nI n)) := by
  obtain ⟨t, h1, h2⟩ := xlp_rel (st := s_X0_stand_2 y (nI n)) (fun i v => v = (nI i, iterH y i c)) n (fun t => t = (nI n, iterH y n c)) (n := N) (x := (0, c))
    (fun i x hi a => by
      subst a
      unfold s_X0_stand_2
      show (∃ z, (if nI n ≤ nI i then _ else _) = _ ∧ _) ∨ ∃ t, (if nI n ≤ nI i then _ else _) = _ ∧ _
      rw [if_neg (by rw [nle] <;> omega)]
      show (∃ z, ((f_X0_standAnHour (iterH y i c) y).bind _) = _ ∧ _) ∨ ∃ t, ((f_X0_standAnHour (iterH y i c) y).bind _) = _ ∧ _
      rw [f_X0_standAnHour_eq hy, Option.bind_some]
      exact Or.inl ⟨_, rfl, by rw [iterH_s, ← nI_1 i]⟩)
    (fun x a => by
      subst a
      unfold s_X0_stand_2
      exact ⟨_, if_pos (by show nI n ≤ nI n; rw [nle] <;> omega), rfl⟩) hN rfl
  unfold f_X0_stand
  rw [h1, h2]
  rfl
theorem addP_add (c : K0) (i : Nat) : bump (addP c (nI i)) = addP c (nI (i + 1)) := by
  unfold bump addP
  show (c.1, c.2.1, c.2.2.1, c.2.2.2.1, c.2.2.2.2.1 + nI i + 1, c.2.2.2.2.2.1, c.2.2.2.2.2.2) = _
  rw [Int32.add_assoc, nI_1]
theorem addH_add (c : K0) (i : Nat) : bumpH (addH c (nI i)) = addH c (nI (i + 1)) := by
  unfold bumpH addH
  show (c.1, c.2.1, c.2.2.1, c.2.2.2.1, c.2.2.2.2.1, c.2.2.2.2.2.1 + nI i + 1, c.2.2.2.2.2.2) = _
  rw [Int32.add_assoc, nI_1]
theorem strokeS_addP (y : K4) (c : K0) (n : Int32) : strokeS y (addP c n) = ((strokeS y c).1, addP (strokeS y c).2 n) := by
  unfold strokeS
  show (if dep y c.2.2.1 ≤ f_X4_lift y then _ else _) = _
  by_cases k : dep y c.2.2.1 ≤ f_X4_lift y
  · rw [if_pos k, if_pos k]
    show (if gnS y c ≤ c.1 then _ else _) = _
    by_cases k2 : gnS y c ≤ c.1
    · rw [if_pos k2, if_pos k2]; rfl
    · rw [if_neg k2, if_neg k2]; rfl
  · rw [if_neg k, if_neg k]; rfl
theorem hourS_addH (y : K4) (c : K0) (n : Int32) : hourS y (addH c n) = addH (hourS y c) n := rfl
theorem addP_0 (c : K0) : addP c 0 = c := by
  unfold addP; rw [iadd0]
theorem addH_0 (c : K0) : addH c 0 = c := by
  unfold addH; rw [iadd0]
/-- the reference's stroke, again and again -/
theorem refS {p t : Nat → Int32} {y : K4} {c : K0} (o : K7) (hp : RP p y) (hy : VY y) (hc : VC c) (i : Nat) (ht : RC t (addP (iterS y i c).2 (nI i))) : ∃ t', f_X7_stroke o p t = some ((strokeS y (iterS y i c).2).1, t') ∧ RC t' (addP (iterS y (i + 1) c).2 (nI (i + 1))) := by
  obtain ⟨t', h1, h2⟩ := f_X7_stroke_eq o hp hy ht (addP_VC (iterS_VC hy hc i))
  rw [strokeS_addP] at h1 h2
  exact ⟨t', h1, by rw [← addP_add, iterS_s2]; exact h2⟩
theorem refH {p t : Nat → Int32} {y : K4} {c : K0} (o : K7) (hp : RP p y) (hy : VY y) (hc : VC c) (i : Nat) (ht : RC t (addH (iterH y i c) (nI i))) : ∃ t', f_X7_goHour o p t = some t' ∧ RC t' (addH (iterH y (i + 1) c) (nI (i + 1))) := by
  obtain ⟨t', h1, h2⟩ := f_X7_goHour_eq o hp hy ht (addH_VC (iterH_VC hy hc i))
  exact ⟨t', h1, by rw [← addH_add, iterH_s]; exact h2⟩
/-- UNTIL by division -/
def untilS (y : K4) (c : K0) : Int32 := if gnS y c ≤ 0 then 0 else if dep y c.2.2.1 ≤ f_X4_lift y then (if (200 : Int32) < (c.1 / gnS y c) + 1 then 0 else (c.1 / gnS y c) + 1) else 0
theorem f_X0_pullsToWater_eq {y : K4} (hy : VY y) (c : K0) : f_X0_pullsToWater c y = some (untilS y c) := by
  unfold f_X0_pullsToWater untilS
  rw [f_X4_depth_eq hy, Option.bind_some]
  have eg : f_X4_gain y c.2.1 (dep y c.2.2.1) = gnS y c := rfl
  rw [eg]
  by_cases k1 : gnS y c ≤ 0
  · rw [if_pos k1, if_pos k1]
  · rw [if_neg k1, if_neg k1]
    by_cases k2 : dep y c.2.2.1 ≤ f_X4_lift y
    · rw [if_pos k2, if_pos k2]
      split <;> rfl
    · rw [if_neg k2, if_neg k2]
/-- till water comes nothing changes but how high it stands -/
theorem dry {y : K4} {c : K0} (hy : VY y) (hc : VC c) (hl : dep y c.2.2.1 ≤ f_X4_lift y) : ∀ k : Nat, (k : Int) * (gnS y c).toInt ≤ c.1.toInt →
    (iterS y k c).1 = 0 ∧ (iterS y k c).2.1.toInt = c.1.toInt - k * (gnS y c).toInt ∧ (iterS y k c).2.2.1 = c.2.1 ∧ (iterS y k c).2.2.2.1 = c.2.2.1
  | 0, _ => ⟨rfl, by show c.1.toInt = _; simp, rfl, rfl⟩
  | k + 1, h => by
    have hg := gnS_int hy hc
    obtain ⟨c1, -⟩ := id hc
    have m : ((k + 1 : Nat) : Int) * (gnS y c).toInt = k * (gnS y c).toInt + (gnS y c).toInt := by
      rw [Int.natCast_add, Int.add_mul]; simp
    obtain ⟨h1, h2, h3, h4⟩ := dry hy hc hl k (by omega)
    have eg : gnS y (iterS y k c).2 = gnS y c := by unfold gnS; rw [h3, h4]
    have e : strokeS y (iterS y k c).2 = (0, ((iterS y k c).2.1 - gnS y c, (iterS y k c).2.2.1, (iterS y k c).2.2.2.1, (iterS y k c).2.2.2.2.1, (iterS y k c).2.2.2.2.2.1, (iterS y k c).2.2.2.2.2.2.1, feltS y (iterS y k c).2)) := by
      unfold strokeS
      rw [h4, if_pos hl, eg, if_pos (by rw [zle]; omega), ← h4]
    have b0 : 0 ≤ (k : Int) * (gnS y c).toInt := Int.mul_nonneg (by omega) hg.1
    have ez := zsub (x := (iterS y k c).2.1) (y := gnS y c) (by omega) (by omega)
    refine ⟨?_, ?_, ?_, ?_⟩
    · rw [iterS_s1, e, h1]; rfl
    · rw [iterS_s2, e]
      show ((iterS y k c).2.1 - gnS y c).toInt = _
      omega
    · rw [iterS_s2, e]; exact h3
    · rw [iterS_s2, e]; exact h4
/-- too deep a well: no water ever -/
theorem deepS {y : K4} {c : K0} (hl : ¬ dep y c.2.2.1 ≤ f_X4_lift y) : ∀ k : Nat, (iterS y k c).1 = 0 ∧ (iterS y k c).2.2.2.1 = c.2.2.1
  | 0 => ⟨rfl, rfl⟩
  | k + 1 => by
    obtain ⟨h1, h2⟩ := deepS hl k
    have e : (strokeS y (iterS y k c).2).1 = 0 ∧ (strokeS y (iterS y k c).2).2.2.2.1 = (iterS y k c).2.2.2.1 := by
      unfold strokeS
      rw [if_neg (by rw [h2]; exact hl)]
      exact ⟨rfl, rfl⟩
    exact ⟨by rw [iterS_s1, e.1, h1]; rfl, by rw [iterS_s2, e.2, h2]⟩
theorem strokesUntil_never {p t : Nat → Int32} {y : K4} {c : K0} (o : K7) {N : Nat} (hN : 200 < N) (hp : RP p y) (hy : VY y) (ht : RC t c) (hc : VC c) (h : ∀ k, k < 200 → (strokeS y (iterS y k c).2).1 = 0) : ∃ t', f_X7_strokesUntil N o p t = some (-9, t') := by
  obtain ⟨r, h1, h2⟩ := xlp_rel (st := s_X7_strokesUntil_2 o p) (fun i v => v.1 = nI (i + 1) ∧ RC v.2 (addP (iterS y i c).2 (nI i))) 200 (fun r => r.1 = -9) (n := N) (x := (1, t))
    (fun i x hi ⟨a, b⟩ => by
      obtain ⟨t', g1, g2⟩ := refS o hp hy hc i b
      refine Or.inl ⟨(nI (i + 2), t'), ?_, rfl, g2⟩
      unfold s_X7_strokesUntil_2
      rw [a, if_neg (by rw [nlit, nlt] <;> omega), g1, Option.bind_some]
      show (if (strokeS y (iterS y i c).2).1 ≤ 0 then _ else _) = _
      rw [h i hi, if_pos (by decide), nI_1])
    (fun x ⟨a, b⟩ => ⟨(-9, x.2), by unfold s_X7_strokesUntil_2; rw [a, if_pos (by rw [nlit, nlt] <;> omega)], rfl⟩) (by omega) ⟨rfl, by rw [nI_0, addP_0]; exact ht⟩
  exact ⟨r.2, by unfold f_X7_strokesUntil; rw [h1, ← h2]⟩
theorem strokesUntil_at {p t : Nat → Int32} {y : K4} {c : K0} (o : K7) {N : Nat} (hN : 200 < N) (hp : RP p y) (hy : VY y) (ht : RC t c) (hc : VC c) (m : Nat) (hm : m < 200) (h : ∀ k, k < m → (strokeS y (iterS y k c).2).1 = 0) (h9 : ¬ (strokeS y (iterS y m c).2).1 ≤ 0) : ∃ t', f_X7_strokesUntil N o p t = some (nI (m + 1), t') := by
  obtain ⟨r, h1, h2⟩ := xlp_rel (st := s_X7_strokesUntil_2 o p) (fun i v => v.1 = nI (i + 1) ∧ RC v.2 (addP (iterS y i c).2 (nI i))) m (fun r => r.1 = nI (m + 1)) (n := N) (x := (1, t))
    (fun i x hi ⟨a, b⟩ => by
      obtain ⟨t', g1, g2⟩ := refS o hp hy hc i b
      refine Or.inl ⟨(nI (i + 2), t'), ?_, rfl, g2⟩
      unfold s_X7_strokesUntil_2
      rw [a, if_neg (by rw [nlit, nlt] <;> omega), g1, Option.bind_some]
      show (if (strokeS y (iterS y i c).2).1 ≤ 0 then _ else _) = _
      rw [h i hi, if_pos (by decide), nI_1])
    (fun x ⟨a, b⟩ => by
      obtain ⟨t', g1, g2⟩ := refS o hp hy hc m b
      refine ⟨(nI (m + 1), t'), ?_, rfl⟩
      unfold s_X7_strokesUntil_2
      rw [a, if_neg (by rw [nlit, nlt] <;> omega), g1, Option.bind_some]
      show (if (strokeS y (iterS y m c).2).1 ≤ 0 then _ else _) = _
      rw [if_neg h9]) (by omega) ⟨rfl, by rw [nI_0, addP_0]; exact ht⟩
  exact ⟨r.2, by unfold f_X7_strokesUntil; rw [h1, ← h2]⟩
theorem f_X7_strokesUntil_eq {p t : Nat → Int32} {y : K4} {c : K0} (o : K7) {N : Nat} (hN : 200 < N) (hp : RP p y) (hy : VY y) (ht : RC t c) (hc : VC c) : ∃ t', f_X7_strokesUntil N o p t = some ((if untilS y c = 0 then -9 else untilS y c), t') := by
  have hg := gnS_int hy hc
  obtain ⟨c1, -⟩ := id hc
  by_cases k2 : dep y c.2.2.1 ≤ f_X4_lift y
  · by_cases k1 : gnS y c ≤ 0
    · have e : untilS y c = 0 := by unfold untilS; rw [if_pos k1]
      rw [e, if_pos rfl]
      rw [zle, z0] at k1
      have gz : (gnS y c).toInt = 0 := by omega
      refine strokesUntil_never o hN hp hy ht hc (fun k hk => ?_)
      have := (dry hy hc k2 (k + 1) (by rw [gz]; simp; omega)).1
      have h0 := (dry hy hc k2 k (by rw [gz]; simp; omega)).1
      have e2 : (iterS y (k + 1) c).1 = (iterS y k c).1 + (strokeS y (iterS y k c).2).1 := iterS_s1 y k c
      rw [e2, h0] at this
      simpa using this
    · have k1' := k1
      rw [zle, z0] at k1'
      have gp : 0 < (gnS y c).toInt := by omega
      have ed := zdiv (x := c.1) (y := gnS y c) c1.1 gp
      have dn : 0 ≤ c.1.toInt / (gnS y c).toInt := Int.ediv_nonneg c1.1 (by omega)
      have dl : c.1.toInt / (gnS y c).toInt ≤ c.1.toInt := Int.ediv_le_self _ c1.1
      have e1 := zadd (x := c.1 / gnS y c) (y := 1) (by rw [z1]; omega) (by rw [z1]; omega)
      rw [z1, ed] at e1
      have m1 := Int.ediv_mul_le c.1.toInt (b := (gnS y c).toInt) (by omega)
      have m2 := Int.lt_ediv_add_one_mul_self c.1.toInt (b := (gnS y c).toInt) gp
      obtain ⟨q, hq⟩ : ∃ q : Nat, (q : Int) = c.1.toInt / (gnS y c).toInt := ⟨(c.1.toInt / (gnS y c).toInt).toNat, by omega⟩
      rw [← hq] at m1 m2 e1
      have zero : ∀ k, k < q → (strokeS y (iterS y k c).2).1 = 0 := by
        intro k hk
        have mk : ((k + 1 : Nat) : Int) * (gnS y c).toInt ≤ (q : Int) * (gnS y c).toInt := Int.mul_le_mul_of_nonneg_right (by omega) (by omega)
        have mk0 : ((k : Nat) : Int) * (gnS y c).toInt ≤ (q : Int) * (gnS y c).toInt := Int.mul_le_mul_of_nonneg_right (by omega) (by omega)
        have := (dry hy hc k2 (k + 1) (by omega)).1
        have h0 := (dry hy hc k2 k (by omega)).1
        have e2 : (iterS y (k + 1) c).1 = (iterS y k c).1 + (strokeS y (iterS y k c).2).1 := iterS_s1 y k c
        rw [e2, h0] at this
        simpa using this
      by_cases k3 : (200 : Int32) < (c.1 / gnS y c) + 1
      · have e : untilS y c = 0 := by unfold untilS; rw [if_neg k1, if_pos k2, if_pos k3]
        rw [e, if_pos rfl]
        rw [zlt, z200, e1] at k3
        exact strokesUntil_never o hN hp hy ht hc (fun k hk => zero k (by omega))
      · have e : untilS y c = (c.1 / gnS y c) + 1 := by unfold untilS; rw [if_neg k1, if_pos k2, if_neg k3]
        rw [zlt, z200, e1] at k3
        have e9 : (c.1 / gnS y c) + 1 = nI (q + 1) := by rw [zeq, nI_toInt (by omega), e1]; omega
        rw [e, e9, if_neg (nI_ne0 (by omega) (by omega))]
        refine strokesUntil_at o hN hp hy ht hc q (by omega) zero ?_
        obtain ⟨d1, d2, d3, d4⟩ := dry hy hc k2 q m1
        have eg : gnS y (iterS y q c).2 = gnS y c := by unfold gnS; rw [d3, d4]
        have m3 : ((q : Int) + 1) * (gnS y c).toInt = q * (gnS y c).toInt + (gnS y c).toInt := by rw [Int.add_mul]; simp
        have ez := zsub (x := gnS y c) (y := (iterS y q c).2.1) (by omega) (by omega)
        unfold strokeS
        rw [d4, if_pos k2, eg, if_neg (by rw [zle]; omega)]
        show ¬ gnS y c - (iterS y q c).2.1 ≤ 0
        rw [zle, z0]
        omega
  · have e : untilS y c = 0 := by
      unfold untilS
      by_cases k1 : gnS y c ≤ 0
      · rw [if_pos k1]
      · rw [if_neg k1, if_neg k2]
    rw [e, if_pos rfl]
    refine strokesUntil_never o hN hp hy ht hc (fun k hk => ?_)
    have h1 := (deepS k2 (k + 1)).1
    have h0 := (deepS k2 k).1
    have e2 : (iterS y (k + 1) c).1 = (iterS y k c).1 + (strokeS y (iterS y k c).2).1 := iterS_s1 y k c
    rw [e2, h0] at h1
    simpa using h1
theorem dep_0 {y : K4} (hy : VY y) : dep y 0 = 10 * y.2.2.1 := by
  obtain ⟨-, -, hw, -, hb, -⟩ := hy
  have e1 := zdiv (x := 0) (y := y.2.2.2.2.1) (by rw [z0]; omega) (by omega)
  rw [z0, Int.zero_ediv] at e1
  have e2 : (0 : Int32) / y.2.2.2.2.1 = 0 := by rw [zeq, e1, z0]
  unfold dep
  rw [e2, iadd0]
theorem startEmpty_eq {y : K4} (hy : VY y) (c : K0) : f_X0_startEmpty c y = some (dep y 0, y.2.2.2.2.2.2.2.2.1, 0, 0, 0, 0, 0) ∧ VC (dep y 0, y.2.2.2.2.2.2.2.2.1, 0, 0, 0, 0, 0) := by
  have hd := (dep_int (d := 0) hy (by rw [z0]; omega) (by rw [z0]; omega)).2
  refine ⟨?_, ?_, ?_, ?_⟩
  · unfold f_X0_startEmpty
    rw [Option.bind_some, f_X4_depth_eq hy]
    rfl
  · show 0 ≤ (dep y 0).toInt ∧ (dep y 0).toInt ≤ 2000000
    omega
  · exact hy.2.2.2.2.2.2.2.2.1
  · show 0 ≤ (0 : Int32).toInt ∧ (0 : Int32).toInt ≤ 100000
    rw [z0]; omega
theorem startFull_VC : VC (0, 100, 0, 0, 0, 0, 0) := by
  refine ⟨?_, ?_, ?_⟩
  · show 0 ≤ (0 : Int32).toInt ∧ (0 : Int32).toInt ≤ 2000000
    rw [z0]; omega
  · show 0 ≤ (100 : Int32).toInt ∧ (100 : Int32).toInt ≤ 100
    rw [z100]; omega
  · show 0 ≤ (0 : Int32).toInt ∧ (0 : Int32).toInt ≤ 100000
    rw [z0]; omega
theorem untilS_pos {y : K4} {c : K0} (hy : VY y) (hc : VC c) : 0 ≤ (untilS y c).toInt ∧ (untilS y c).toInt ≤ 200 := by
  have hg := gnS_int hy hc
  obtain ⟨c1, -⟩ := id hc
  unfold untilS
  by_cases k1 : gnS y c ≤ 0
  · rw [if_pos k1, z0]; omega
  · rw [if_neg k1]
    by_cases k2 : dep y c.2.2.1 ≤ f_X4_lift y
    · rw [if_pos k2]
      rw [zle, z0] at k1
      have ed := zdiv (x := c.1) (y := gnS y c) c1.1 (by omega)
      have dn : 0 ≤ c.1.toInt / (gnS y c).toInt := Int.ediv_nonneg c1.1 (by omega)
      have dl : c.1.toInt / (gnS y c).toInt ≤ c.1.toInt := Int.ediv_le_self _ c1.1
      have e1 := zadd (x := c.1 / gnS y c) (y := 1) (by rw [z1]; omega) (by rw [z1]; omega)
      rw [z1, ed] at e1
      by_cases k3 : (200 : Int32) < (c.1 / gnS y c) + 1
      · rw [if_pos k3, z0]; omega
      · rw [if_neg k3]
        rw [zlt, z200] at k3
        omega
    · rw [if_neg k2, z0]; omega
