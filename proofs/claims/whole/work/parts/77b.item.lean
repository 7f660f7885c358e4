/-! one item of the pump's text, its numbers: the reference is one token ahead -/
abbrev k7f (o : K7) : Int32 := o.2.2.2.2.2.2.1
/-- what the reading leaves alone -/
def KP (W o : K7) (n : Nat) : Prop := o.1 = W.1 ∧ o.2.1 = nI n ∧ o.2.2.2.2.2.2.2.1 = W.2.2.2.2.2.2.2.1 ∧ o.2.2.2.2.2.2.2.2.2.2.1 = W.2.2.2.2.2.2.2.2.2.2.1 ∧ o.2.2.2.2.2.2.2.2.2.2.2 = W.2.2.2.2.2.2.2.2.2.2.2
/-- the reference has read the token at p, no fault yet -/
def AH (N : Nat) (text : Nat → Int32) (W o : K7) (n p : Nat) : Prop := ∃ o0 : K7, KP W o0 n ∧ o0.2.2.1 = nI p ∧ k7f o0 = -9 ∧ f_X7_next N o0 text = some o
theorem due1 {N : Nat} {o r : K7} {text : Nat → Int32} (h : k7f o = -9) (hn : f_X7_next N o text = some r) : f_X7_due N o text 1 = some (o.2.2.2.2.2.1, r) := by
  unfold f_X7_due
  rw [if_pos h, if_neg ne10, hn]; rfl
theorem due0 {N : Nat} {o : K7} {text : Nat → Int32} (h : k7f o = -9) : f_X7_due N o text 0 = some (o.2.2.2.2.2.1, (o.1, o.2.1, o.2.2.1, o.2.2.2.1, o.2.2.2.2.1, o.2.2.2.2.2.1, o.2.2.2.1, o.2.2.2.2.2.2.2.1, o.2.2.2.2.2.2.2.2.1, o.2.2.2.2.2.2.2.2.2.1, o.2.2.2.2.2.2.2.2.2.2.1, o.2.2.2.2.2.2.2.2.2.2.2)) := by
  unfold f_X7_due
  rw [if_pos h, if_pos rfl]
theorem dueF {N : Nat} {o : K7} {text : Nat → Int32} {v : Int32} (h : ¬ k7f o = -9) : f_X7_due N o text v = some (o.2.2.2.2.2.1, o) := by
  unfold f_X7_due
  rw [if_neg h]
/-- with a fault set the rest of the item's numbers changes nothing -/
theorem rest94 {N hi : Nat} {text : Nat → Int32} (v3 : Int32 × Int32 × K7 × (Nat → Int32)) (v11 : Int32) {o : K7} (told : Nat → Int32) (hb : v3.2.2.1.2.2.2.2.1 + v11 = nI hi) (hf : ¬ k7f o = -9) : ∀ m idx fu, idx + m = hi → hi ≤ 11 → m < fu → xlp (s_X7_pump_94 N text v3 v11) fu (nI idx, o, told) = some (nI hi, o, told)
  | 0, idx, fu, h1, h2, h3 => by
    obtain ⟨k, rfl⟩ : ∃ k, fu = k + 1 := ⟨fu - 1, by omega⟩
    have e : idx = hi := by omega
    subst e
    have st : s_X7_pump_94 N text v3 v11 (nI idx, o, told) = some (.inr (nI idx, o, told)) := by
      unfold s_X7_pump_94
      rw [hb]
      exact if_pos (by show nI idx ≤ nI idx; rw [nle] <;> omega)
    rw [xlp, st]; rfl
  | m + 1, idx, fu, h1, h2, h3 => by
    obtain ⟨k, rfl⟩ : ∃ k, fu = k + 1 := ⟨fu - 1, by omega⟩
    have st : s_X7_pump_94 N text v3 v11 (nI idx, o, told) = some (.inl (nI (idx + 1), o, told)) := by
      unfold s_X7_pump_94
      rw [hb]
      show (if nI hi ≤ nI idx then _ else (Option.bind (if o.2.2.2.2.1 = 21 then _ else some 0) _)) = _
      rw [if_neg (by rw [nle] <;> omega)]
      have e17 : ∃ w, (if o.2.2.2.2.1 = 21 then ((some (f_X7_in o.2.2.2.2.2.1 (f_X7_lowOf (nI idx)) (f_X7_highOf (nI idx))) : Option Int32).bind fun r15 => if r15 = 0 then some 0 else some 1) else some 0 : Option Int32) = some w := by
        split
        · rw [Option.bind_some]; split <;> exact ⟨_, rfl⟩
        · exact ⟨_, rfl⟩
      obtain ⟨w, ew⟩ := e17
      rw [ew, Option.bind_some]
      show (Option.bind (f_X7_due N o text w) _) = _
      rw [dueF hf, Option.bind_some]
      show (if k7f o = -9 then _ else some (Sum.inl (nI idx + 1, o, told))) = _
      rw [if_neg hf, nI_1]
    rw [xlp, st]
    exact rest94 v3 v11 told hb hf m (idx + 1) k (by omega) h2 (by omega)
