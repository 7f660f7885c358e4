/-! the whole text, item by item: class and reference -/
def hiN (j : Nat) : Nat := [2, 5, 6, 8, 9, 11].getD j 0
theorem his : ∀ j, j < 6 → nI (sloN j) + f_X7_manyOf (nI (sloN j)) = nI (hiN j) ∧ sloN j ≤ hiN j ∧ hiN j ≤ 11 ∧ ¬ (20 : Int32) ≤ nI (sloN j) ∧ ¬ nI (sloN j) = 20 := by decide +kernel
theorem bitD01 (d j : Nat) : bitD d j = 0 ∨ bitD d j = 1 := by
  show d / 2 ^ j % 2 = 0 ∨ d / 2 ^ j % 2 = 1
  omega
/-- the next token, read ahead -/
theorem next_ok {N n p : Nat} {bt : Nat → Nat} {tb text : Nat → Int32} {W o : K7} (hN : 400 < N) (h : txB n bt tb text) (kp : KP W o n) (o2 : o.2.2.1 = nI p) (of : k7f o = -9) (hp : p ≤ n) : ∃ R, f_X7_next N o text = some R ∧ k7f R = -9 ∧ AH N text W R n p := by
  obtain ⟨s, e6, e7, kd, vl, sr, vr, -, g7, -⟩ := tok_ok (tx := (nI n, nI p, 0, 0, 0, 0)) (o := o) hN h rfl rfl kp.2.1 o2 hp
  exact ⟨_, g7, of, o, kp, o2, of, g7⟩
/-- the reference's round, when the token can't stand there -/
theorem bad25 {N s : Nat} {text : Nat → Int32} {v3 : Int32 × Int32 × K7 × (Nat → Int32)} (hN : 0 < N) (hs : s < 2 ^ 31) (hf : k7f v3.2.2.1 = -9) (hst : v3.2.2.1.2.2.2.1 = nI s) (h20 : ¬ v3.2.2.1.2.2.2.2.1 = 20) (h8 : (if 20 ≤ v3.2.2.1.2.2.2.2.1 then some 0 else if ((v3.2.1 >>> (v3.2.2.1.2.2.2.2.1 &&& 31)) &&& 1) = 0 then some 1 else some 0 : Option Int32) = some 0) : ∃ mk, s_X7_pump_25 N text v3 = some (.inl (v3.1 + 1, mk, (v3.2.2.1.1, v3.2.2.1.2.1, v3.2.2.1.2.2.1, v3.2.2.1.2.2.2.1, v3.2.2.1.2.2.2.2.1, v3.2.2.1.2.2.2.2.2.1, v3.2.2.1.2.2.2.1, v3.2.2.1.2.2.2.2.2.2.2.1, v3.2.2.1.2.2.2.2.2.2.2.2.1, v3.2.2.1.2.2.2.2.2.2.2.2.2.1, v3.2.2.1.2.2.2.2.2.2.2.2.2.2.1, v3.2.2.1.2.2.2.2.2.2.2.2.2.2.2), v3.2.2.2)) := by
  have e94 : ∀ (fu : Nat) (o' : K7), 0 < fu → xlp (s_X7_pump_94 N text v3 0) fu (v3.2.2.1.2.2.2.2.1, o', v3.2.2.2) = some (v3.2.2.1.2.2.2.2.1, o', v3.2.2.2) := by
    intro fu o' hfu
    obtain ⟨k, rfl⟩ : ∃ k, fu = k + 1 := ⟨fu - 1, by omega⟩
    have st : s_X7_pump_94 N text v3 0 (v3.2.2.1.2.2.2.2.1, o', v3.2.2.2) = some (.inr (v3.2.2.1.2.2.2.2.1, o', v3.2.2.2)) := by
      unfold s_X7_pump_94
      exact if_pos (by show v3.2.2.1.2.2.2.2.1 + 0 ≤ v3.2.2.1.2.2.2.2.1; rw [Int32.add_zero]; exact Int32.le_refl _)
    rw [xlp, st]; rfl
  have hn9 : ¬ v3.2.2.1.2.2.2.1 = -9 := by rw [hst]; exact n9n hs
  unfold s_X7_pump_25
  rw [if_pos hf, if_neg h20, h8, Option.bind_some, due0 hf, Option.bind_some]
  dsimp only
  rw [if_neg hn9, Option.bind_some, e94 N _ hN, Option.bind_some]
  dsimp only
  obtain ⟨w, ew⟩ : ∃ w, (if v3.2.2.1.2.2.2.2.1 = 22 then some 1 else some 0 : Option Int32) = some w := by split <;> exact ⟨_, rfl⟩
  rw [ew, Option.bind_some, dueF hn9, Option.bind_some]
  split <;> exact ⟨_, rfl⟩
/-- the reference's round, when it is a word that is due -/
theorem good25 {N : Nat} {text : Nat → Int32} {v3 : Int32 × Int32 × K7 × (Nat → Int32)} {R1 R2 : K7} {z : Int32} {v21 : Int32 × K7 × (Nat → Int32)} (hf : k7f v3.2.2.1 = -9) (h20 : ¬ v3.2.2.1.2.2.2.2.1 = 20) (hlt : ¬ 20 ≤ v3.2.2.1.2.2.2.2.1) (h8 : ((v3.2.1 >>> (v3.2.2.1.2.2.2.2.1 &&& 31)) &&& 1) = 0) (hn : f_X7_next N v3.2.2.1 text = some R1) (hR1 : k7f R1 = -9) (hx : xlp (s_X7_pump_94 N text v3 (f_X7_manyOf v3.2.2.1.2.2.2.2.1)) N (v3.2.2.1.2.2.2.2.1, R1, v3.2.2.2) = some v21) (hd : f_X7_due N v21.2.1 text (if v21.2.1.2.2.2.2.1 = 22 then 1 else 0) = some (z, R2)) : s_X7_pump_25 N text v3 = some (.inl (v3.1 + 1, (v3.2.1 ||| (1 <<< (v3.2.2.1.2.2.2.2.1 &&& 31))), R2, v21.2.2)) := by
  have e23 : (if v21.2.1.2.2.2.2.1 = 22 then some 1 else some 0 : Option Int32) = some (if v21.2.1.2.2.2.2.1 = 22 then 1 else 0) := by split <;> rfl
  unfold s_X7_pump_25
  rw [if_pos hf, if_neg h20, if_neg hlt, if_pos h8, Option.bind_some, due1 hf hn, Option.bind_some]
  dsimp only
  rw [if_pos hR1, Option.bind_some, hx, Option.bind_some, e23, Option.bind_some, hd, Option.bind_some]
  dsimp only
  rw [if_neg hlt]
/-- one item, in the class: a word that was told before; a word that is due -/
theorem item6b {N d j : Nat} {tb : Nat → Int32} {tx : K3} (y : K4) (hd : d < 64) (hj : j < 6) (hk : tx.2.2.2.1 = 1) (h1 : tx.2.2.2.2.1 = nI j) (h2 : tx.2.2.2.2.2 = nI d) (b : bitD d j = 1) : f_X3_readItem N tx tb y = some (0, tx, y) := by
  have e := (maskF d hd j hj).1
  rw [decide_eq_true b] at e
  have e := of_decide_eq_true e
  unfold f_X3_readItem
  rw [if_pos hk, h1, h2, if_pos e]
theorem item6g {N d j : Nat} {tb : Nat → Int32} {tx : K3} (y : K4) (hd : d < 64) (hj : j < 6) (hk : tx.2.2.2.1 = 1) (h1 : tx.2.2.2.2.1 = nI j) (h2 : tx.2.2.2.2.2 = nI d) (b : bitD d j = 0) : f_X3_readItem N tx tb y = xlp (s_X3_readItem_48 N tx tb) N (nI (sloN j), (tx.1, tx.2.1, tx.2.2.1, tx.2.2.2.1, nI j, nI (d + 2 ^ j)), y) := by
  have e := (maskF d hd j hj).1
  have b1 : ¬ bitD d j = 1 := by omega
  rw [decide_eq_false b1] at e
  have e := of_decide_eq_false e
  unfold f_X3_readItem
  rw [if_pos hk, h1, h2, if_neg e, if_pos (xin_n (by omega) (by omega)), nI_clamp (by omega), (slots j hj).1, ((maskF d hd j hj).2.2 b).1]
/-- what both leave, from an item's beginning to the end -/
def RO (N n : Nat) (tb text : Nat → Int32) (W : K7) (d : Nat) (tx : K3) (y : K4) (o : K7) (told : Nat → Int32) (f6 f7 : Nat) : Prop := ∃ (ans : Int32) (tx' : K3) (y' : K4) (v : Int32 × Int32 × K7 × (Nat → Int32)), xlp (s_X3_read_16 N tb) f6 (nI (cntD d), tx, y) = some (ans, tx', y') ∧ xlp (s_X7_pump_25 N text) f7 (nI (cntD d), nI (refD d), o, told) = some v ∧ tx'.1 = nI n ∧ (∀ j, j < 11 → v.2.2.2 j = told j) ∧ KP W v.2.2.1 n ∧ ((∃ q : Nat, q ≤ 6 ∧ ans = nI q ∧ v.1 = nI q ∧ k7f v.2.2.1 = -9 ∧ VY y' ∧ RP (fun j => v.2.2.2 (11 + j)) y') ∨ ∃ s : Nat, s ≤ n ∧ ans = -10 - nI s ∧ k7f v.2.2.1 = nI s)
theorem RO_bad {N n s d f6 f7 : Nat} {tb text : Nat → Int32} {W o o' : K7} {tx tx' : K3} {y y' : K4} {told told' : Nat → Int32} {c mk : Int32} (hn : n ≤ 300) (hs : s ≤ n) (h6 : s_X3_read_16 N tb (nI (cntD d), tx, y) = some (.inr (-10 - nI s, tx', y'))) (h1 : tx'.1 = nI n) (h7 : s_X7_pump_25 N text (nI (cntD d), nI (refD d), o, told) = some (.inl (c, mk, o', told'))) (hf : k7f o' = nI s) (ht : ∀ j, j < 11 → told' j = told j) (kp : KP W o' n) (hf6 : 1 < f6) (hf7 : 2 < f7) : RO N n tb text W d tx y o told f6 f7 := by
  obtain ⟨a, rfl⟩ : ∃ k, f6 = k + 1 := ⟨f6 - 1, by omega⟩
  obtain ⟨b, rfl⟩ : ∃ k, f7 = k + 1 + 1 := ⟨f7 - 2, by omega⟩
  have e : s_X7_pump_25 N text (c, mk, o', told') = some (.inr (c, mk, o', told')) := by
    unfold s_X7_pump_25
    exact if_neg (by show ¬ k7f o' = -9; rw [hf]; exact n9n (by omega))
  refine ⟨_, _, _, (c, mk, o', told'), by rw [xlp, h6]; rfl, ?_, h1, ht, kp, Or.inr ⟨s, hs, rfl, hf⟩⟩
  rw [xlp, h7]
  show xlp (s_X7_pump_25 N text) (b + 1) (c, mk, o', told') = _
  rw [xlp, e]; rfl
