/-! the steps, one by one -/
def setJ (y : K4) (v : Int32) : K4 := (y.1, y.2.1, y.2.2.1, y.2.2.2.1, y.2.2.2.2.1, y.2.2.2.2.2.1, v, y.2.2.2.2.2.2.2.1, y.2.2.2.2.2.2.2.2.1, y.2.2.2.2.2.2.2.2.2.1, y.2.2.2.2.2.2.2.2.2.2)
theorem setJ_VY {y : K4} (hy : VY y) {v : Nat} (h1 : 1 ≤ v) (h : v ≤ 99) : VY (setJ y (nI v)) := by
  obtain ⟨y0, y1, y2, y3, y4, y5, y6, y7, y8, y9, y10⟩ := id hy
  exact ⟨y0, y1, y2, y3, y4, y5, by show 1 ≤ (nI v).toInt ∧ (nI v).toInt ≤ 99; rw [nI_toInt (by omega)]; omega, y7, y8, y9, y10⟩
def whF (y : K4) (p1 p2 : Int32) : Nat → Int32
  | 0 => -9
  | i + 1 => if ansS (setJ y (nI (i + 1))) 0 0 = p1 then (if p2 = 1 then nI (i + 1) else if whF y p1 p2 i = -9 then nI (i + 1) else whF y p1 p2 i) else whF y p1 p2 i
theorem whF_s (y : K4) (p1 p2 : Int32) (i : Nat) : whF y p1 p2 (i + 1) = if ansS (setJ y (nI (i + 1))) 0 0 = p1 then (if p2 = 1 then nI (i + 1) else if whF y p1 p2 i = -9 then nI (i + 1) else whF y p1 p2 i) else whF y p1 p2 i := rfl
theorem whF_stay {y : K4} {p1 p2 : Int32} (h2 : ¬ p2 = 1) : ∀ {i k : Nat}, ¬ whF y p1 p2 i = -9 → whF y p1 p2 (i + k) = whF y p1 p2 i
  | i, 0, _ => rfl
  | i, k + 1, h => by
    have ih := whF_stay h2 (k := k) h
    rw [← Nat.add_assoc, whF_s, if_neg h2, ih, if_neg h]
    split <;> rfl
set_option maxHeartbeats 4000000 in
theorem op_where {N : Nat} (hN : 400 < N) {u : CX} {w : CM} (hR : Rel u w) (a1 : Int32) (a2 : Int32) : ∃ (rx : Int32 × K4 × K0) (rm : Int32 × (Nat → Int32) × (Nat → Int32)), f_X6_where N u.1 u.2.2.2.1 u.2.2.2.2.2.2.2.2.2.2.2.2.2.2.2.2.2.2.2.2.1 u.2.2.2.2.2.2.2.2.2.2.2.2.2.2.2.2.2.2.2.2.2.1 a1 a2 = some rx ∧ f_X7_where N w.1 w.2.2.1 w.2.2.2.1 w.2.2.2.2.1 a1 a2 = some rm ∧ rx.1 = rm.1 ∧ Rel (u.1, u.2.1, u.2.2.1, u.2.2.2.1, u.2.2.2.2.1, u.2.2.2.2.2.1, u.2.2.2.2.2.2.1, u.2.2.2.2.2.2.2.1, u.2.2.2.2.2.2.2.2.1, u.2.2.2.2.2.2.2.2.2.1, u.2.2.2.2.2.2.2.2.2.2.1, u.2.2.2.2.2.2.2.2.2.2.2.1, u.2.2.2.2.2.2.2.2.2.2.2.2.1, u.2.2.2.2.2.2.2.2.2.2.2.2.2.1, u.2.2.2.2.2.2.2.2.2.2.2.2.2.2.1, u.2.2.2.2.2.2.2.2.2.2.2.2.2.2.2.1, u.2.2.2.2.2.2.2.2.2.2.2.2.2.2.2.2.1, u.2.2.2.2.2.2.2.2.2.2.2.2.2.2.2.2.2.1, u.2.2.2.2.2.2.2.2.2.2.2.2.2.2.2.2.2.2.1, u.2.2.2.2.2.2.2.2.2.2.2.2.2.2.2.2.2.2.2.1, rx.2.1, rx.2.2, u.2.2.2.2.2.2.2.2.2.2.2.2.2.2.2.2.2.2.2.2.2.2.1, u.2.2.2.2.2.2.2.2.2.2.2.2.2.2.2.2.2.2.2.2.2.2.2.1, u.2.2.2.2.2.2.2.2.2.2.2.2.2.2.2.2.2.2.2.2.2.2.2.2) (w.1, w.2.1, w.2.2.1, rm.2.1, rm.2.2, w.2.2.2.2.2.1, w.2.2.2.2.2.2.1, w.2.2.2.2.2.2.2.1, w.2.2.2.2.2.2.2.2.1, w.2.2.2.2.2.2.2.2.2.1, w.2.2.2.2.2.2.2.2.2.2.1, w.2.2.2.2.2.2.2.2.2.2.2.1, w.2.2.2.2.2.2.2.2.2.2.2.2.1, w.2.2.2.2.2.2.2.2.2.2.2.2.2.1, w.2.2.2.2.2.2.2.2.2.2.2.2.2.2.1, w.2.2.2.2.2.2.2.2.2.2.2.2.2.2.2.1, w.2.2.2.2.2.2.2.2.2.2.2.2.2.2.2.2.1, w.2.2.2.2.2.2.2.2.2.2.2.2.2.2.2.2.2.1, w.2.2.2.2.2.2.2.2.2.2.2.2.2.2.2.2.2.2) := by
  obtain ⟨h1, h2, ⟨hy, hp⟩, ⟨hc, ht⟩, h5, h6, h7, h8, h9, h10, h11⟩ := id hR
  by_cases ha : (0 : Int32).toInt ≤ a1.toInt ∧ a1.toInt ≤ (200 : Int32).toInt
  · by_cases hb : (0 : Int32).toInt ≤ a2.toInt ∧ a2.toInt ≤ (1 : Int32).toInt
    · have h01 : a2 = 0 ∨ a2 = 1 := by
        rw [z0, z1] at hb
        rw [zeq, zeq, z0, z1]; omega
      obtain ⟨v, c1, c2⟩ := xlp_rel (st := s_X6_where_39 N u.1 a1 a2 u.2.2.2.1) (fun i v => v.1 = whF u.2.2.2.1 a1 a2 i ∧ v.2.1 = nI (i + 1) ∧ (a2 = 0 → whF u.2.2.2.1 a1 a2 i = -9)) 99 (fun v => v.1 = whF u.2.2.2.1 a1 a2 99) (n := N) (x := (-9, 1, u.2.2.2.1.2.2.2.2.2.2.1, u.2.2.2.2.2.2.2.2.2.2.2.2.2.2.2.2.2.2.2.2.2.1))
        (fun i x hi ⟨b1, b2, b3⟩ => by
          obtain ⟨sd', g⟩ := ansX6 (N := N) (y := setJ u.2.2.2.1 (nI (i + 1))) (a := 0) (b := 0) u.1 x.2.2.2 hN (setJ_VY hy (by omega) (by omega)) (Or.inl rfl)
          have ew := whF_s u.2.2.2.1 a1 a2 i
          unfold s_X6_where_39
          rw [b2, if_neg (by rw [nlit, nlt] <;> omega)]
          show (∃ z, (Option.bind (f_X6_answer N u.1 (setJ u.2.2.2.1 (nI (i + 1))) x.2.2.2 0 0) _) = _ ∧ _) ∨ ∃ z, (Option.bind (f_X6_answer N u.1 (setJ u.2.2.2.1 (nI (i + 1))) x.2.2.2 0 0) _) = _ ∧ _
          rw [g, Option.bind_some]
          by_cases k : ansS (setJ u.2.2.2.1 (nI (i + 1))) 0 0 = a1
          · rw [if_pos k]
            rw [if_pos k] at ew
            rcases h01 with k2 | k2
            · rw [if_pos k2]
              refine Or.inr ⟨_, rfl, ?_⟩
              have k3 : ¬ a2 = 1 := by rw [k2]; decide
              rw [if_neg k3, if_pos (b3 k2)] at ew
              have st := whF_stay (y := u.2.2.2.1) (p1 := a1) k3 (i := i + 1) (k := 99 - (i + 1)) (by rw [ew]; exact nI_n9 (by omega))
              rw [show i + 1 + (99 - (i + 1)) = 99 by omega] at st
              show nI (i + 1) = _
              rw [st, ew]
            · rw [if_neg (by rw [k2]; decide)]
              rw [if_pos k2] at ew
              exact Or.inl ⟨_, rfl, ew.symm, nI_1 _, fun e => absurd (k2.symm.trans e) ne10⟩
          · rw [if_neg k]
            rw [if_neg k] at ew
            exact Or.inl ⟨_, rfl, by rw [ew]; exact b1, nI_1 _, fun e => by rw [ew]; exact b3 e⟩)
        (fun x ⟨b1, b2, b3⟩ => by
          unfold s_X6_where_39
          rw [b2, if_pos (by rw [nlit, nlt] <;> omega)]
          exact ⟨_, rfl, b1⟩) (by omega) ⟨rfl, rfl, fun _ => rfl⟩
      obtain ⟨v', d1, d2⟩ := xlp_rel (st := s_X7_where_28 N w.1 w.2.2.1 a1 a2) (fun i v => v.1 = whF u.2.2.2.1 a1 a2 i ∧ v.2.1 = nI (i + 1)) 99 (fun v => v.1 = whF u.2.2.2.1 a1 a2 99) (n := N) (x := (-9, 1, w.2.2.2.1, w.2.2.2.2.1))
        (fun i x hi ⟨b1, b2⟩ => by
          obtain ⟨r1, e1, e2⟩ := f_X7_takeTold_eq (N := N) w.1 (par := x.2.2.1) (by omega) hp
          have hP : RP (upd r1 6 (nI (i + 1))) (setJ u.2.2.2.1 (nI (i + 1))) := by
            obtain ⟨p0, p1, p2, p3, p4, p5, p6, p7, p8, p9, p10⟩ := id e2
            exact ⟨p0, p1, p2, p3, p4, p5, rfl, p7, p8, p9, p10⟩
          obtain ⟨t', g⟩ := ansX7 (N := N) (a := 0) (b := 0) w.1 x.2.2.2 hN (setJ_VY hy (by omega) (by omega)) hP (Or.inl rfl)
          have ew := whF_s u.2.2.2.1 a1 a2 i
          unfold s_X7_where_28
          rw [b1, b2, if_neg (by rw [nlit, nlt] <;> omega), e1, Option.bind_some, g, Option.bind_some]
          by_cases k : ansS (setJ u.2.2.2.1 (nI (i + 1))) 0 0 = a1
          · rw [if_pos k, Option.bind_some, if_neg ne10]
            rw [if_pos k] at ew
            by_cases k2 : a2 = 1
            · rw [if_pos k2]
              rw [if_pos k2] at ew
              exact Or.inl ⟨_, rfl, ew.symm, nI_1 _⟩
            · rw [if_neg k2]
              rw [if_neg k2] at ew
              by_cases k3 : whF u.2.2.2.1 a1 a2 i = -9
              · rw [if_pos k3]
                rw [if_pos k3] at ew
                exact Or.inl ⟨_, rfl, ew.symm, nI_1 _⟩
              · rw [if_neg k3]
                rw [if_neg k3] at ew
                exact Or.inl ⟨_, rfl, ew.symm, nI_1 _⟩
          · rw [if_neg k, Option.bind_some, if_pos rfl]
            rw [if_neg k] at ew
            exact Or.inl ⟨_, rfl, ew.symm, nI_1 _⟩)
        (fun x ⟨b1, b2⟩ => ⟨x, by unfold s_X7_where_28; rw [b2, if_pos (by rw [nlit, nlt] <;> omega), ← b2], b1⟩) (by omega) ⟨rfl, rfl⟩
      refine ⟨_, _, by unfold f_X6_where; rw [out0 ha, out0 hb, if_pos rfl, if_pos rfl, beLike4 _ _ hN, Option.bind_some, c1], by unfold f_X7_where; rw [in1 ha, in1 hb, if_neg ne10, if_neg ne10, d1]; rfl, ?_, ?_⟩
      · exact c2.trans d2.symm
      · exact mkRel h1 h2 ⟨hy, hp⟩ ⟨hc, ht⟩ h5 h6 h7 h8 h9 h10 h11
    · refine ⟨_, _, by unfold f_X6_where; rw [out0 ha, out1 hb, if_pos rfl, if_neg ne10], by unfold f_X7_where; rw [in1 ha, in0 hb, if_neg ne10, if_pos rfl], ?_, ?_⟩
      · rfl
      · exact mkRel h1 h2 ⟨hy, hp⟩ ⟨hc, ht⟩ h5 h6 h7 h8 h9 h10 h11
  · refine ⟨_, _, by unfold f_X6_where; rw [out1 ha, if_neg ne10], by unfold f_X7_where; rw [in0 ha, if_pos rfl], ?_, ?_⟩
    · rfl
    · exact mkRel h1 h2 ⟨hy, hp⟩ ⟨hc, ht⟩ h5 h6 h7 h8 h9 h10 h11
theorem n9 : (9 : Int32) = nI 9 := rfl
theorem div9 {i : Nat} (h : i < 54) : nI i / 9 = nI (i / 9) := by
  rw [n9, pk_div (by omega) (by omega) (by omega)]
theorem mod9 {i : Nat} (h : i < 54) : nI i - nI i / 9 * 9 = nI (i % 9) := by
  rw [div9 h, n9, pk_mul, nI_sub (by omega) (by omega)]
  congr 1
  omega
def answ (y : K4) (a : Int32) (i : Nat) : Int32 := ansS (f_X4_worsen y (nI (i / 9)) (nI (i % 9 + 1))) a 12
theorem okA2 {i : Nat} (h : i ≤ 2) : okA (nI i) 12 := by
  rcases (show i = 0 ∨ i = 1 ∨ i = 2 by omega) with rfl | rfl | rfl
  · exact Or.inl rfl
  · exact Or.inr (Or.inl ⟨rfl, 12, by omega, rfl⟩)
  · exact Or.inr (Or.inr rfl)
def firB (f : Nat → Int32) (k : Nat) : Nat → Bool
  | 0 => true
  | j + 1 => firB f k j && !decide (f j = f k)
theorem firB_s (f : Nat → Int32) (k j : Nat) : firB f k (j + 1) = (firB f k j && !decide (f j = f k)) := rfl
theorem firB_F {f : Nat → Int32} {k : Nat} : ∀ {i m : Nat}, firB f k i = false → firB f k (i + m) = false
  | i, 0, h => h
  | i, m + 1, h => by rw [← Nat.add_assoc, firB_s, firB_F h]; rfl
def cntF (f : Nat → Int32) (k : Nat) (v : Int32) : Nat → Int32
  | 0 => 0
  | i + 1 => if f (k * 9 + i) = v then cntF f k v i + 1 else cntF f k v i
theorem cntF_s (f : Nat → Int32) (k : Nat) (v : Int32) (i : Nat) : cntF f k v (i + 1) = if f (k * 9 + i) = v then cntF f k v i + 1 else cntF f k v i := rfl
def gwF (f ch : Nat → Int32) (v : Int32) : Nat → Int32
  | 0 => 0
  | k + 1 => xmax (gwF f ch v k) (ch k * cntF f k v 9)
theorem gwF_s (f ch : Nat → Int32) (v : Int32) (k : Nat) : gwF f ch v (k + 1) = xmax (gwF f ch v k) (ch k * cntF f k v 9) := rfl
def worF (f ch : Nat → Int32) : Nat → Int32
  | 0 => 0
  | k + 1 => if firB f k k = true then worF f ch k + gwF f ch (f k) 6 else worF f ch k
theorem worF_s (f ch : Nat → Int32) (k : Nat) : worF f ch (k + 1) = if firB f k k = true then worF f ch k + gwF f ch (f k) 6 else worF f ch k := rfl
theorem cntF_n (f : Nat → Int32) (k : Nat) (v : Int32) : ∀ i, ∃ q : Nat, q ≤ i ∧ cntF f k v i = nI q
  | 0 => ⟨0, by omega, rfl⟩
  | i + 1 => by
    obtain ⟨q, hq, e⟩ := cntF_n f k v i
    rw [cntF_s]
    by_cases c : f (k * 9 + i) = v
    · rw [if_pos c, e]; exact ⟨q + 1, by omega, nI_1 q⟩
    · rw [if_neg c]; exact ⟨q, by omega, e⟩
theorem gwF_n {f ch : Nat → Int32} {v : Int32} (h : ∀ j, j < 6 → ∃ q : Nat, q ≤ 9 ∧ ch j = nI q) : ∀ k, k ≤ 6 → ∃ q : Nat, q ≤ 81 ∧ gwF f ch v k = nI q
  | 0, _ => ⟨0, by omega, rfl⟩
  | k + 1, hk => by
    obtain ⟨q, hq, e⟩ := gwF_n h k (by omega)
    obtain ⟨a, ha, ea⟩ := h k (by omega)
    obtain ⟨b, hb, eb⟩ := cntF_n f k v 9
    have hab : a * b ≤ 9 * 9 := Nat.mul_le_mul ha hb
    rw [gwF_s, e, ea, eb, pk_mul]
    unfold xmax
    split
    · exact ⟨a * b, by omega, rfl⟩
    · exact ⟨q, hq, rfl⟩
theorem worF_n {f ch : Nat → Int32} (h : ∀ j, j < 6 → ∃ q : Nat, q ≤ 9 ∧ ch j = nI q) : ∀ k, ∃ q : Nat, q ≤ 81 * k ∧ worF f ch k = nI q
  | 0 => ⟨0, by omega, rfl⟩
  | k + 1 => by
    obtain ⟨q, hq, e⟩ := worF_n (f := f) h k
    obtain ⟨a, ha, ea⟩ := gwF_n (f := f) (v := f k) h 6 (by omega)
    rw [worF_s]
    by_cases c : firB f k k = true
    · rw [if_pos c, e, ea, nI_add]; exact ⟨q + a, by omega, rfl⟩
    · rw [if_neg c]; exact ⟨q, by omega, e⟩
theorem firB_congr {f g : Nat → Int32} {k : Nat} (hk : k < 54) (h : ∀ j, j < 54 → f j = g j) : ∀ j, j ≤ 54 → firB f k j = firB g k j
  | 0, _ => rfl
  | j + 1, hj => by rw [firB_s, firB_s, firB_congr hk h j (by omega), h j (by omega), h k hk]
theorem cntF_congr {f g : Nat → Int32} {k : Nat} (hk : k < 6) (h : ∀ j, j < 54 → f j = g j) (v : Int32) : ∀ i, i ≤ 9 → cntF f k v i = cntF g k v i
  | 0, _ => rfl
  | i + 1, hi => by rw [cntF_s, cntF_s, cntF_congr hk h v i (by omega), h _ (by omega)]
theorem gwF_congr {f g ch ch' : Nat → Int32} (h : ∀ j, j < 54 → f j = g j) (hc : ∀ j, j < 6 → ch j = ch' j) (v : Int32) : ∀ k, k ≤ 6 → gwF f ch v k = gwF g ch' v k
  | 0, _ => rfl
  | k + 1, hk => by rw [gwF_s, gwF_s, gwF_congr h hc v k (by omega), hc k (by omega), cntF_congr (by omega) h v 9 (by omega)]
theorem worF_congr {f g ch ch' : Nat → Int32} (h : ∀ j, j < 54 → f j = g j) (hc : ∀ j, j < 6 → ch j = ch' j) : ∀ k, k ≤ 54 → worF f ch k = worF g ch' k
  | 0, _ => rfl
  | k + 1, hk => by rw [worF_s, worF_s, worF_congr h hc k (by omega), firB_congr (by omega) h k (by omega), h k (by omega), gwF_congr h hc _ 6 (by omega)]
theorem firX6 (o : K6) (f : Nat → Int32) {N k : Nat} (hN : 400 < N) (hk : k < 54) : f_X6_isFirstOfItsKind N o f (nI k) = some (if firB f k k = true then 1 else 0) := by
  obtain ⟨v, e1, e2⟩ := xlp_rel (st := s_X6_isFirstOfItsKind_2 f (nI k)) (fun i v => v = nI i ∧ firB f k i = true) k (fun v => v = (if firB f k k = true then 1 else 0)) (n := N) (x := 0)
    (fun i x hi ⟨a1, a2⟩ => by
      subst a1
      unfold s_X6_isFirstOfItsKind_2
      rw [if_neg (by rw [nle] <;> omega), if_pos (xin_n (by omega) (by omega)), if_pos (xin_n (by omega) (by omega)), nI_clamp (by omega), nI_clamp (by omega)]
      by_cases c : f i = f k
      · rw [if_pos c]
        refine Or.inr ⟨0, rfl, ?_⟩
        have f1 : firB f k (i + 1) = false := by rw [firB_s, decide_eq_true c, Bool.not_true, Bool.and_false]
        have f2 := firB_F (m := k - (i + 1)) f1
        rw [show i + 1 + (k - (i + 1)) = k by omega] at f2
        rw [f2]; rfl
      · rw [if_neg c]
        exact Or.inl ⟨nI i + 1, rfl, nI_1 i, by rw [firB_s, a2, decide_eq_false c]; rfl⟩)
    (fun x ⟨a1, a2⟩ => by
      subst a1
      exact ⟨1, by unfold s_X6_isFirstOfItsKind_2; exact if_pos (by rw [nle] <;> omega), by rw [a2]; rfl⟩) (by omega) ⟨rfl, rfl⟩
  unfold f_X6_isFirstOfItsKind
  rw [e1, e2]
theorem gwX6 (o : K6) (f ch : Nat → Int32) (v : Int32) {N : Nat} (hN : 400 < N) : f_X6_greatestWeight N o ch f v = some (gwF f ch v 6) := by
  obtain ⟨r, e1, e2⟩ := xlp_rel (st := s_X6_greatestWeight_4 N ch f v) (fun k x => x.1 = gwF f ch v k ∧ x.2 = nI k) 6 (fun x => x.1 = gwF f ch v 6) (n := N) (x := (0, 0))
    (fun k x hk ⟨a1, a2⟩ => by
      obtain ⟨r, c1, c2⟩ := xlp_rel (st := s_X6_greatestWeight_16 f v x) (fun i z => z.1 = cntF f k v i ∧ z.2 = nI i) 9 (fun z => z.1 = cntF f k v 9) (n := N) (x := (0, 0))
        (fun i z hi ⟨b1, b2⟩ => by
          refine Or.inl ⟨(cntF f k v (i + 1), nI (i + 1)), ?_, rfl, rfl⟩
          have m1 : nI k * 9 + nI i = nI (k * 9 + i) := by rw [n9, pk_mul, nI_add]
          unfold s_X6_greatestWeight_16
          rw [a2, b2, if_neg (by rw [nlit, nle] <;> omega), m1, if_pos (xin_n (by omega) (by omega)), nI_clamp (by omega), cntF_s, b1, nI_1]
          by_cases c : f (k * 9 + i) = v
          · rw [if_pos c, if_pos c]
          · rw [if_neg c, if_neg c])
        (fun z ⟨b1, b2⟩ => ⟨z, by unfold s_X6_greatestWeight_16; rw [b2, if_pos (by rw [nlit, nle] <;> omega), ← b2], b1⟩) (by omega) ⟨rfl, rfl⟩
      refine Or.inl ⟨(gwF f ch v (k + 1), nI (k + 1)), ?_, rfl, rfl⟩
      unfold s_X6_greatestWeight_4
      rw [a1, a2, if_neg (by rw [nlit, nle] <;> omega), c1, Option.bind_some, if_pos (xin_n (by omega) (by omega)), nI_clamp (by omega), c2, nI_1, gwF_s])
    (fun x ⟨a1, a2⟩ => ⟨x, by unfold s_X6_greatestWeight_4; rw [a2, if_pos (by rw [nlit, nle] <;> omega), ← a2], a1⟩) (by omega) ⟨rfl, rfl⟩
  unfold f_X6_greatestWeight
  rw [e1, Option.bind_some, e2]
theorem gwX7 (o : K7) (f ch : Nat → Int32) (v : Int32) {N : Nat} (hN : 400 < N) : f_X7_greatestOf N o ch f v = some (gwF f ch v 6) := by
  obtain ⟨r, e1, e2⟩ := xlp_rel (st := s_X7_greatestOf_4 N ch f v) (fun k x => x.1 = gwF f ch v k ∧ x.2 = nI k) 6 (fun x => x.1 = gwF f ch v 6) (n := N) (x := (0, 0))
    (fun k x hk ⟨a1, a2⟩ => by
      obtain ⟨r, c1, c2⟩ := xlp_rel (st := s_X7_greatestOf_16 f v x) (fun i z => z.1 = cntF f k v i ∧ z.2 = nI i) 9 (fun z => z.1 = cntF f k v 9) (n := N) (x := (0, 0))
        (fun i z hi ⟨b1, b2⟩ => by
          refine Or.inl ⟨(cntF f k v (i + 1), nI (i + 1)), ?_, rfl, rfl⟩
          have m1 : 9 * nI k + nI i = nI (k * 9 + i) := by rw [n9, pk_mul, nI_add, Nat.mul_comm]
          unfold s_X7_greatestOf_16
          rw [a2, b2, if_neg (by rw [nlit, nle] <;> omega), m1, if_pos (xin_n (by omega) (by omega)), nI_clamp (by omega), cntF_s, b1, nI_1]
          by_cases c : f (k * 9 + i) = v
          · rw [if_pos c, if_pos c]
          · rw [if_neg c, if_neg c, iadd0])
        (fun z ⟨b1, b2⟩ => ⟨z, by unfold s_X7_greatestOf_16; rw [b2, if_pos (by rw [nlit, nle] <;> omega), ← b2], b1⟩) (by omega) ⟨rfl, rfl⟩
      refine Or.inl ⟨(gwF f ch v (k + 1), nI (k + 1)), ?_, rfl, rfl⟩
      unfold s_X7_greatestOf_4
      rw [a1, a2, if_neg (by rw [nlit, nle] <;> omega), c1, Option.bind_some, if_pos (xin_n (by omega) (by omega)), nI_clamp (by omega), c2, nI_1, gwF_s, Int32.mul_comm (cntF f k v 9)]
      unfold xmax
      by_cases c : ch k * cntF f k v 9 ≤ gwF f ch v k
      · rw [if_pos c, if_neg (by rw [zlt]; rw [zle] at c; omega)]
      · rw [if_neg c, if_pos (by rw [zlt]; rw [zle] at c; omega)])
    (fun x ⟨a1, a2⟩ => ⟨x, by unfold s_X7_greatestOf_4; rw [a2, if_pos (by rw [nlit, nle] <;> omega), ← a2], a1⟩) (by omega) ⟨rfl, rfl⟩
  unfold f_X7_greatestOf
  rw [e1, Option.bind_some, e2]
theorem worthX6 {y : K4} (o : K6) (ch : Nat → Int32) (ot : K4) (sd : K0) (an : Nat → Int32) {N a : Nat} (hN : 400 < N) (hy : VY y) (ha : a ≤ 2) : ∃ ot' sd' an', f_X6_worthOf N o y ch ot sd an (nI a) = some (worF (answ y (nI a)) ch 54, ot', sd', an') := by
  obtain ⟨v, e1, e2⟩ := xlp_rel (st := s_X6_worthOf_2 N o y (nI a)) (fun i v => v.1 = nI i ∧ ∀ j, j < i → v.2.2.2 j = answ y (nI a) j) 54 (fun v => ∀ j, j < 54 → v.2.2.2 j = answ y (nI a) j) (n := N) (x := (0, ot, sd, an))
    (fun i x hi ⟨a1, a2⟩ => by
      obtain ⟨sd', g⟩ := ansX6 (N := N) (y := f_X4_worsen y (nI (i / 9)) (nI (i % 9 + 1))) (a := nI a) (b := 12) o x.2.2.1 hN (worVY hy (by omega) (by omega) (by omega)) (okA2 ha)
      refine Or.inl ⟨(nI (i + 1), f_X4_worsen y (nI (i / 9)) (nI (i % 9 + 1)), sd', upd x.2.2.2 i (answ y (nI a) i)), ?_, rfl, fun j hj => ?_⟩
      · unfold s_X6_worthOf_2
        rw [a1, if_neg (by rw [nlit, nle] <;> omega), mod9 hi, div9 hi, nI_1, trouble6 _ _ _ hN, Option.bind_some, g, Option.bind_some, if_pos (xin_n (by omega) (by omega)), nI_clamp (by omega), nI_1]; rfl
      · show upd x.2.2.2 i _ j = _
        unfold upd
        split
        · rename_i e; rw [e]
        · exact a2 j (by omega))
    (fun x ⟨a1, a2⟩ => ⟨x, by unfold s_X6_worthOf_2; rw [a1, if_pos (by rw [nlit, nle] <;> omega), ← a1], a2⟩) (by omega) ⟨rfl, fun j hj => by omega⟩
  obtain ⟨r, e3, e4⟩ := xlp_rel (st := s_X6_worthOf_48 N o ch v) (fun i x => x.1 = worF v.2.2.2 ch i ∧ x.2 = nI i) 54 (fun x => x.1 = worF v.2.2.2 ch 54) (n := N) (x := (0, 0))
    (fun i x hi ⟨a1, a2⟩ => by
      refine Or.inl ⟨(worF v.2.2.2 ch (i + 1), nI (i + 1)), ?_, rfl, rfl⟩
      unfold s_X6_worthOf_48
      rw [a1, a2, if_neg (by rw [nlit, nle] <;> omega), firX6 _ _ hN hi, Option.bind_some, worF_s, nI_1]
      by_cases c : firB v.2.2.2 i i = true
      · rw [if_pos c, if_neg ne10, if_pos c, if_pos (xin_n (by omega) (by omega)), nI_clamp (by omega), gwX6 _ _ _ _ hN]; rfl
      · rw [if_neg c, if_pos rfl, if_neg c])
    (fun x ⟨a1, a2⟩ => ⟨x, by unfold s_X6_worthOf_48; rw [a2, if_pos (by rw [nlit, nle] <;> omega), ← a2], a1⟩) (by omega) ⟨rfl, rfl⟩
  exact ⟨v.2.1, v.2.2.1, v.2.2.2, by unfold f_X6_worthOf; rw [e1, Option.bind_some, e3, Option.bind_some, e4, worF_congr e2 (fun _ _ => rfl) 54 (by omega)]⟩
theorem worthX7 {y : K4} {told : Nat → Int32} (o : K7) (ch par t an : Nat → Int32) {N a : Nat} (hN : 400 < N) (hp : RP told y) (hy : VY y) (ha : a ≤ 2) : ∃ par' t' an', f_X7_toldBy N o told par t ch an (nI a) = some (worF (answ y (nI a)) ch 54, par', t', an') := by
  obtain ⟨v, e1, e2⟩ := xlp_rel (st := s_X7_toldBy_2 N o told (nI a)) (fun i v => v.1 = nI i ∧ ∀ j, j < i → v.2.2.2 j = answ y (nI a) j) 54 (fun v => ∀ j, j < 54 → v.2.2.2 j = answ y (nI a) j) (n := N) (x := (0, par, t, an))
    (fun i x hi ⟨a1, a2⟩ => by
      obtain ⟨hv, par', g1, g2⟩ := worX7 (N := N) (k := i / 9) (s := i % 9 + 1) o x.2.1 hN hp hy (by omega) (by omega) (by omega)
      obtain ⟨t', g⟩ := ansX7 (N := N) (a := nI a) (b := 12) o x.2.2.1 hN hv g2 (okA2 ha)
      refine Or.inl ⟨(nI (i + 1), par', t', upd x.2.2.2 i (answ y (nI a) i)), ?_, rfl, fun j hj => ?_⟩
      · unfold s_X7_toldBy_2
        rw [a1, if_neg (by rw [nlit, nle] <;> omega), mod9 hi, div9 hi, nI_1, g1, Option.bind_some, g, Option.bind_some, if_pos (xin_n (by omega) (by omega)), nI_clamp (by omega), nI_1]; rfl
      · show upd x.2.2.2 i _ j = _
        unfold upd
        split
        · rename_i e; rw [e]
        · exact a2 j (by omega))
    (fun x ⟨a1, a2⟩ => ⟨x, by unfold s_X7_toldBy_2; rw [a1, if_pos (by rw [nlit, nle] <;> omega), ← a1], a2⟩) (by omega) ⟨rfl, fun j hj => by omega⟩
  obtain ⟨r, e3, e4⟩ := xlp_rel (st := s_X7_toldBy_45 N o ch v) (fun i x => x.1 = worF v.2.2.2 ch i ∧ x.2 = nI i) 54 (fun x => x.1 = worF v.2.2.2 ch 54) (n := N) (x := (0, 0))
    (fun i x hi ⟨a1, a2⟩ => by
      obtain ⟨z, c1, c2⟩ := xlp_rel (st := s_X7_toldBy_57 v x) (fun j z => z.2 = nI j ∧ z.1 = (if firB v.2.2.2 i j = true then 1 else 0)) i (fun z => z.1 = (if firB v.2.2.2 i i = true then 1 else 0)) (n := N) (x := (1, 0))
        (fun j z hj ⟨b1, b2⟩ => by
          refine Or.inl ⟨((if firB v.2.2.2 i (j + 1) = true then 1 else 0), nI (j + 1)), ?_, rfl, rfl⟩
          unfold s_X7_toldBy_57
          rw [a2, b1, b2, if_neg (by rw [nle] <;> omega), firB_s, nI_1]
          by_cases c0 : firB v.2.2.2 i j = true
          · rw [c0, if_pos rfl, if_neg ne10, if_pos (xin_n (by omega) (by omega)), if_pos (xin_n (by omega) (by omega)), nI_clamp (by omega), nI_clamp (by omega)]
            by_cases c1 : v.2.2.2 j = v.2.2.2 i
            · rw [if_pos c1, decide_eq_true c1]; rfl
            · rw [if_neg c1, decide_eq_false c1]; rfl
          · rw [Bool.not_eq_true] at c0
            rw [c0]; rfl)
        (fun z ⟨b1, b2⟩ => ⟨z, by unfold s_X7_toldBy_57; rw [a2, b1, if_pos (by rw [nle] <;> omega), ← b1], b2⟩) (by omega) ⟨rfl, rfl⟩
      refine Or.inl ⟨(worF v.2.2.2 ch (i + 1), nI (i + 1)), ?_, rfl, rfl⟩
      unfold s_X7_toldBy_45
      rw [c1, a1, a2, if_neg (by rw [nlit, nle] <;> omega), Option.bind_some, c2, worF_s, nI_1]
      by_cases c : firB v.2.2.2 i i = true
      · rw [if_pos c, if_neg ne10, if_pos c, if_pos (xin_n (by omega) (by omega)), nI_clamp (by omega), gwX7 _ _ _ _ hN]; rfl
      · rw [if_neg c, if_pos rfl, if_neg c, iadd0])
    (fun x ⟨a1, a2⟩ => ⟨x, by unfold s_X7_toldBy_45; rw [a2, if_pos (by rw [nlit, nle] <;> omega), ← a2], a1⟩) (by omega) ⟨rfl, rfl⟩
  exact ⟨v.2.1, v.2.2.1, v.2.2.2, by unfold f_X7_toldBy; rw [e1, Option.bind_some, e3, Option.bind_some, e4, worF_congr e2 (fun _ _ => rfl) 54 (by omega)]⟩
def tlF (y : K4) (ch : Nat → Int32) : Nat → Int32 × Int32
  | 0 => (0, -1)
  | i + 1 => if worF (answ y (nI i)) ch 54 ≤ (tlF y ch i).2 then tlF y ch i else (nI i, worF (answ y (nI i)) ch 54)
theorem tlF_s (y : K4) (ch : Nat → Int32) (i : Nat) : tlF y ch (i + 1) = if worF (answ y (nI i)) ch 54 ≤ (tlF y ch i).2 then tlF y ch i else (nI i, worF (answ y (nI i)) ch 54) := rfl
theorem tlF_congr {y : K4} {ch ch' : Nat → Int32} (h : ∀ j, j < 6 → ch j = ch' j) : ∀ i, tlF y ch i = tlF y ch' i
  | 0 => rfl
  | i + 1 => by rw [tlF_s, tlF_s, tlF_congr h i, worF_congr (fun _ _ => rfl) h 54 (by omega)]
set_option maxHeartbeats 4000000 in
theorem op_tells {N : Nat} (hN : 400 < N) {u : CX} {w : CM} (hR : Rel u w) : ∃ (rx : Int32 × K4 × K0 × (Nat → Int32)) (rm : Int32 × (Nat → Int32) × (Nat → Int32) × (Nat → Int32)), f_X6_tells N u.1 u.2.2.2.1 u.2.2.2.2.2.2.2.2.2.2.2.2.1 u.2.2.2.2.2.2.2.2.2.2.2.2.2.2.2.2.2.2.2.2.1 u.2.2.2.2.2.2.2.2.2.2.2.2.2.2.2.2.2.2.2.2.2.1 u.2.2.2.2.2.2.2.2.2.2.2.2.2.2.2.2.2.2.2.2.2.2.1 = some rx ∧ f_X7_tells N w.1 w.2.2.1 w.2.2.2.1 w.2.2.2.2.1 w.2.2.2.2.2.2.2.2.2.2.1 w.2.2.2.2.2.2.2.2.2.2.2.1 = some rm ∧ rx.1 = rm.1 ∧ Rel (u.1, u.2.1, u.2.2.1, u.2.2.2.1, u.2.2.2.2.1, u.2.2.2.2.2.1, u.2.2.2.2.2.2.1, u.2.2.2.2.2.2.2.1, u.2.2.2.2.2.2.2.2.1, u.2.2.2.2.2.2.2.2.2.1, u.2.2.2.2.2.2.2.2.2.2.1, u.2.2.2.2.2.2.2.2.2.2.2.1, u.2.2.2.2.2.2.2.2.2.2.2.2.1, u.2.2.2.2.2.2.2.2.2.2.2.2.2.1, u.2.2.2.2.2.2.2.2.2.2.2.2.2.2.1, u.2.2.2.2.2.2.2.2.2.2.2.2.2.2.2.1, u.2.2.2.2.2.2.2.2.2.2.2.2.2.2.2.2.1, u.2.2.2.2.2.2.2.2.2.2.2.2.2.2.2.2.2.1, u.2.2.2.2.2.2.2.2.2.2.2.2.2.2.2.2.2.2.1, u.2.2.2.2.2.2.2.2.2.2.2.2.2.2.2.2.2.2.2.1, rx.2.1, rx.2.2.1, rx.2.2.2, u.2.2.2.2.2.2.2.2.2.2.2.2.2.2.2.2.2.2.2.2.2.2.2.1, u.2.2.2.2.2.2.2.2.2.2.2.2.2.2.2.2.2.2.2.2.2.2.2.2) (w.1, w.2.1, w.2.2.1, rm.2.1, rm.2.2.1, w.2.2.2.2.2.1, w.2.2.2.2.2.2.1, w.2.2.2.2.2.2.2.1, w.2.2.2.2.2.2.2.2.1, w.2.2.2.2.2.2.2.2.2.1, w.2.2.2.2.2.2.2.2.2.2.1, rm.2.2.2, w.2.2.2.2.2.2.2.2.2.2.2.2.1, w.2.2.2.2.2.2.2.2.2.2.2.2.2.1, w.2.2.2.2.2.2.2.2.2.2.2.2.2.2.1, w.2.2.2.2.2.2.2.2.2.2.2.2.2.2.2.1, w.2.2.2.2.2.2.2.2.2.2.2.2.2.2.2.2.1, w.2.2.2.2.2.2.2.2.2.2.2.2.2.2.2.2.2.1, w.2.2.2.2.2.2.2.2.2.2.2.2.2.2.2.2.2.2) := by
  obtain ⟨h1, h2, ⟨hy, hp⟩, ⟨hc, ht⟩, h5, h6, h7, h8, h9, h10, h11⟩ := id hR
  have hch : ∀ j, j < 6 → u.2.2.2.2.2.2.2.2.2.2.2.2.1 j = w.2.2.2.2.2.2.2.2.2.2.1 j := fun j hj => (h8 j hj).1
  have hcn : ∀ j, j < 6 → ∃ q : Nat, q ≤ 9 ∧ w.2.2.2.2.2.2.2.2.2.2.1 j = nI q := fun j hj => by rw [← hch j hj]; exact (h8 j hj).2
  obtain ⟨v, c1, c2⟩ := xlp_rel (st := s_X6_tells_6 N u.1 u.2.2.2.1 u.2.2.2.2.2.2.2.2.2.2.2.2.1) (fun i v => v.1 = (tlF u.2.2.2.1 u.2.2.2.2.2.2.2.2.2.2.2.2.1 i).1 ∧ v.2.1 = (tlF u.2.2.2.1 u.2.2.2.2.2.2.2.2.2.2.2.2.1 i).2 ∧ v.2.2.1 = nI i) 3 (fun v => v.1 = (tlF u.2.2.2.1 u.2.2.2.2.2.2.2.2.2.2.2.2.1 3).1) (n := N) (x := (0, -1, 0, u.2.2.2.2.2.2.2.2.2.2.2.2.2.2.2.2.2.2.2.2.1, u.2.2.2.2.2.2.2.2.2.2.2.2.2.2.2.2.2.2.2.2.2.1, u.2.2.2.2.2.2.2.2.2.2.2.2.2.2.2.2.2.2.2.2.2.2.1))
    (fun i x hi ⟨b1, b2, b3⟩ => by
      obtain ⟨q1, q2, q3, g⟩ := worthX6 (N := N) (a := i) u.1 u.2.2.2.2.2.2.2.2.2.2.2.2.1 x.2.2.2.1 x.2.2.2.2.1 x.2.2.2.2.2 hN hy (by omega)
      refine Or.inl ?_
      unfold s_X6_tells_6
      rw [b3, if_neg (by rw [nlit, nlt] <;> omega), g, Option.bind_some, tlF_s, b2]
      by_cases k : worF (answ u.2.2.2.1 (nI i)) u.2.2.2.2.2.2.2.2.2.2.2.2.1 54 ≤ (tlF u.2.2.2.1 u.2.2.2.2.2.2.2.2.2.2.2.2.1 i).2
      · rw [if_pos k, if_pos k]; exact ⟨_, rfl, b1, rfl, nI_1 i⟩
      · rw [if_neg k, if_neg k]; exact ⟨_, rfl, rfl, rfl, nI_1 i⟩)
    (fun x ⟨b1, b2, b3⟩ => ⟨x, by unfold s_X6_tells_6; rw [b3, if_pos (by rw [nlit, nlt] <;> omega), ← b3], b1⟩) (by omega) ⟨rfl, rfl, rfl⟩
  obtain ⟨p1, t1, a1, g1⟩ := worthX7 (N := N) (a := 0) w.1 w.2.2.2.2.2.2.2.2.2.2.1 w.2.2.2.1 w.2.2.2.2.1 w.2.2.2.2.2.2.2.2.2.2.2.1 hN hp hy (by omega)
  have e1 : tlF u.2.2.2.1 w.2.2.2.2.2.2.2.2.2.2.1 1 = (0, worF (answ u.2.2.2.1 (nI 0)) w.2.2.2.2.2.2.2.2.2.2.1 54) := by
    obtain ⟨q, hq, e⟩ := worF_n (f := answ u.2.2.2.1 (nI 0)) hcn 54
    rw [tlF_s, if_neg]
    · rfl
    · show ¬ worF (answ u.2.2.2.1 (nI 0)) w.2.2.2.2.2.2.2.2.2.2.1 54 ≤ -1
      rw [e, zle, nI_toInt (by omega), show (-1 : Int32).toInt = -1 from by decide]; omega
  obtain ⟨v', d1, d2⟩ := xlp_rel (st := s_X7_tells_10 N w.1 w.2.2.1 w.2.2.2.2.2.2.2.2.2.2.1) (fun i v => v.1 = (tlF u.2.2.2.1 w.2.2.2.2.2.2.2.2.2.2.1 (i + 1)).1 ∧ v.2.1 = (tlF u.2.2.2.1 w.2.2.2.2.2.2.2.2.2.2.1 (i + 1)).2 ∧ v.2.2.1 = nI (i + 1)) 2 (fun v => v.1 = (tlF u.2.2.2.1 w.2.2.2.2.2.2.2.2.2.2.1 3).1) (n := N) (x := (0, worF (answ u.2.2.2.1 (nI 0)) w.2.2.2.2.2.2.2.2.2.2.1 54, 1, p1, t1, a1))
    (fun i x hi ⟨b1, b2, b3⟩ => by
      obtain ⟨q1, q2, q3, g⟩ := worthX7 (N := N) (a := i + 1) w.1 w.2.2.2.2.2.2.2.2.2.2.1 x.2.2.2.1 x.2.2.2.2.1 x.2.2.2.2.2 hN hp hy (by omega)
      refine Or.inl ?_
      unfold s_X7_tells_10
      rw [b3, if_neg (by rw [nlit, nle] <;> omega), g, Option.bind_some, tlF_s _ _ (i + 1), b2]
      by_cases k : worF (answ u.2.2.2.1 (nI (i + 1))) w.2.2.2.2.2.2.2.2.2.2.1 54 ≤ (tlF u.2.2.2.1 w.2.2.2.2.2.2.2.2.2.2.1 (i + 1)).2
      · rw [if_pos k, if_pos k, Option.bind_some, if_pos k]; exact ⟨_, rfl, b1, rfl, nI_1 _⟩
      · rw [if_neg k, if_neg k, Option.bind_some, if_neg k]; exact ⟨_, rfl, rfl, rfl, nI_1 _⟩)
    (fun x ⟨b1, b2, b3⟩ => ⟨x, by unfold s_X7_tells_10; rw [b3, if_pos (by rw [nlit, nle] <;> omega), ← b3], b1⟩) (by omega) ⟨by rw [e1], by rw [e1], rfl⟩
  rw [nI_0] at g1
  refine ⟨_, _, by unfold f_X6_tells; rw [c1]; rfl, by unfold f_X7_tells; rw [g1, Option.bind_some]; show (xlp (s_X7_tells_10 N w.1 w.2.2.1 w.2.2.2.2.2.2.2.2.2.2.1) N (0, worF (answ u.2.2.2.1 (nI 0)) w.2.2.2.2.2.2.2.2.2.2.1 54, 1, p1, t1, a1)).bind _ = _; rw [d1]; rfl, ?_, ?_⟩
  · show v.1 = v'.1
    rw [c2, d2, tlF_congr hch]
  · exact mkRel h1 h2 ⟨hy, hp⟩ ⟨hc, ht⟩ h5 h6 h7 h8 h9 h10 h11
