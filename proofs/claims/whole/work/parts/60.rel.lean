/-! what ties the class's state to the reference's -/
def relT (tx : K3) (tb : Nat → Int32) (o : K7) (text : Nat → Int32) : Prop := ∃ n : Nat, n ≤ 300 ∧ tx.1 = nI n ∧ o.2.1 = nI n ∧ ∀ j, j < n → ∃ v : Nat, v < 256 ∧ tb j = nI v ∧ text j &&& 255 = nI v
def relI (i0 i1 : K0) (nows : Nat → Int32) : Prop := VC i0 ∧ VC i1 ∧ RC (fun j => nows (7 + j)) i0 ∧ RC (fun j => nows (14 + j)) i1
def relK (kp isKept : Nat → Int32) : Prop := kp 0 = isKept 0 ∧ kp 1 = isKept 1
def relG (sg : K2) (sw sh ss : Nat → Int32) (o : K7) (gw gh gi : Nat → Int32) : Prop := ∃ n : Nat, n ≤ 6 ∧ sg = nI n ∧ o.2.2.2.2.2.2.2.1 = nI n ∧ ∀ j, j < n → sw j = gw j ∧ sh j = gh j ∧ ss j = gi j ∧ (sw j = 0 ∨ (sw j = 1 ∧ ∃ q : Nat, q ≤ 24 ∧ sh j = nI q) ∨ sw j = 2)
def relN (m b : Nat) (f g : Nat → Int32) : Prop := ∀ j, j < m → f j = g j ∧ ∃ q : Nat, q ≤ b ∧ f j = nI q
def relS (sd : K1) (sp sy : Nat → Int32) (o : K7) (tp hs : Nat → Int32) : Prop := ∃ n : Nat, n ≤ 30 ∧ sd = nI n ∧ o.2.2.2.2.2.2.2.2.2.2.1 = nI n ∧ ∀ j, j < n → sp j = tp j ∧ sy j = hs j ∧ (∃ q : Nat, 1 ≤ q ∧ q ≤ 200 ∧ sp j = nI q) ∧ (sy j = 0 ∨ sy j = 1)
def relY (yr : K5) (ysp ysu : Nat → Int32) (o : K7) (spr sm : Nat → Int32) : Prop := ∃ n : Nat, n ≤ 20 ∧ yr = nI n ∧ o.2.2.2.2.2.2.2.2.2.2.2 = nI n ∧ ∀ j, j < n → ysp j = spr j ∧ ysu j = sm j ∧ (∃ q : Nat, q ≤ 999 ∧ ysp j = nI q) ∧ ∃ q : Nat, q ≤ 999 ∧ ysu j = nI q
def Rel (u : CX) (w : CM) : Prop := w.1.1 = u.1 ∧ relT u.2.1 u.2.2.1 w.1 w.2.1 ∧ (VY u.2.2.2.1 ∧ RP w.2.2.1 u.2.2.2.1) ∧ (VC u.2.2.2.2.1 ∧ RC w.2.2.2.2.2.1 u.2.2.2.2.1) ∧ relI u.2.2.2.2.2.1 u.2.2.2.2.2.2.1 w.2.2.2.2.2.1 ∧ relK u.2.2.2.2.2.2.2.1 w.2.2.2.2.2.2.1 ∧
  relG u.2.2.2.2.2.2.2.2.1 u.2.2.2.2.2.2.2.2.2.1 u.2.2.2.2.2.2.2.2.2.2.1 u.2.2.2.2.2.2.2.2.2.2.2.1 w.1 w.2.2.2.2.2.2.2.1 w.2.2.2.2.2.2.2.2.1 w.2.2.2.2.2.2.2.2.2.1 ∧ relN 6 9 u.2.2.2.2.2.2.2.2.2.2.2.2.1 w.2.2.2.2.2.2.2.2.2.2.1 ∧ relN 5 99 u.2.2.2.2.2.2.2.2.2.2.2.2.2.1 w.2.2.2.2.2.2.2.2.2.2.2.2.2.2.1 ∧
  relS u.2.2.2.2.2.2.2.2.2.2.2.2.2.2.1 u.2.2.2.2.2.2.2.2.2.2.2.2.2.2.2.1 u.2.2.2.2.2.2.2.2.2.2.2.2.2.2.2.2.1 w.1 w.2.2.2.2.2.2.2.2.2.2.2.2.2.2.2.1 w.2.2.2.2.2.2.2.2.2.2.2.2.2.2.2.2.1 ∧ relY u.2.2.2.2.2.2.2.2.2.2.2.2.2.2.2.2.2.1 u.2.2.2.2.2.2.2.2.2.2.2.2.2.2.2.2.2.2.1 u.2.2.2.2.2.2.2.2.2.2.2.2.2.2.2.2.2.2.2.1 w.1 w.2.2.2.2.2.2.2.2.2.2.2.2.2.2.2.2.2.1 w.2.2.2.2.2.2.2.2.2.2.2.2.2.2.2.2.2.2
theorem mkRel {u : CX} {w : CM} (h1 : w.1.1 = u.1) (h2 : relT u.2.1 u.2.2.1 w.1 w.2.1) (h3 : VY u.2.2.2.1 ∧ RP w.2.2.1 u.2.2.2.1) (h4 : VC u.2.2.2.2.1 ∧ RC w.2.2.2.2.2.1 u.2.2.2.2.1) (h5 : relI u.2.2.2.2.2.1 u.2.2.2.2.2.2.1 w.2.2.2.2.2.1) (h6 : relK u.2.2.2.2.2.2.2.1 w.2.2.2.2.2.2.1)
  (h7 : relG u.2.2.2.2.2.2.2.2.1 u.2.2.2.2.2.2.2.2.2.1 u.2.2.2.2.2.2.2.2.2.2.1 u.2.2.2.2.2.2.2.2.2.2.2.1 w.1 w.2.2.2.2.2.2.2.1 w.2.2.2.2.2.2.2.2.1 w.2.2.2.2.2.2.2.2.2.1) (h8 : relN 6 9 u.2.2.2.2.2.2.2.2.2.2.2.2.1 w.2.2.2.2.2.2.2.2.2.2.1) (h9 : relN 5 99 u.2.2.2.2.2.2.2.2.2.2.2.2.2.1 w.2.2.2.2.2.2.2.2.2.2.2.2.2.2.1)
  (h10 : relS u.2.2.2.2.2.2.2.2.2.2.2.2.2.2.1 u.2.2.2.2.2.2.2.2.2.2.2.2.2.2.2.1 u.2.2.2.2.2.2.2.2.2.2.2.2.2.2.2.2.1 w.1 w.2.2.2.2.2.2.2.2.2.2.2.2.2.2.2.1 w.2.2.2.2.2.2.2.2.2.2.2.2.2.2.2.2.1) (h11 : relY u.2.2.2.2.2.2.2.2.2.2.2.2.2.2.2.2.2.1 u.2.2.2.2.2.2.2.2.2.2.2.2.2.2.2.2.2.2.1 u.2.2.2.2.2.2.2.2.2.2.2.2.2.2.2.2.2.2.2.1 w.1 w.2.2.2.2.2.2.2.2.2.2.2.2.2.2.2.2.2.1 w.2.2.2.2.2.2.2.2.2.2.2.2.2.2.2.2.2.2) : Rel u w := by
  unfold Rel
  exact ⟨h1, h2, h3, h4, h5, h6, h7, h8, h9, h10, h11⟩
theorem out0 {a lo hi : Int32} (h : lo.toInt ≤ a.toInt ∧ a.toInt ≤ hi.toInt) : f_X6_outside a lo hi = 0 := by
  unfold f_X6_outside
  rw [if_neg (by rw [zlt]; omega), if_pos (by rw [zle]; omega)]
theorem out1 {a lo hi : Int32} (h : ¬ (lo.toInt ≤ a.toInt ∧ a.toInt ≤ hi.toInt)) : f_X6_outside a lo hi = 1 := by
  unfold f_X6_outside
  by_cases k : a < lo
  · rw [if_pos k]
  · rw [if_neg k, if_neg (by rw [zlt] at k; rw [zle]; omega)]
theorem in1 {a lo hi : Int32} (h : lo.toInt ≤ a.toInt ∧ a.toInt ≤ hi.toInt) : f_X7_in a lo hi = 1 := by
  unfold f_X7_in
  rw [if_neg (by rw [zlt]; omega), if_neg (by rw [zlt]; omega)]
theorem in0 {a lo hi : Int32} (h : ¬ (lo.toInt ≤ a.toInt ∧ a.toInt ≤ hi.toInt)) : f_X7_in a lo hi = 0 := by
  unfold f_X7_in
  by_cases k : a < lo
  · rw [if_pos k]
  · rw [if_neg k, if_pos (by rw [zlt] at *; omega)]
/-- a number between two small ones, by its Nat -/
theorem rng {a lo hi : Int32} {n : Nat} (h0 : 0 ≤ lo.toInt) (hh : hi.toInt = n) (h : lo.toInt ≤ a.toInt ∧ a.toInt ≤ hi.toInt) : ∃ q : Nat, q ≤ n ∧ lo.toInt ≤ q ∧ a = nI q := by
  have := zr a
  exact ⟨a.toInt.toNat, by omega, by omega, znI (by omega)⟩
theorem ne10 : ¬ (1 : Int32) = 0 := by decide
theorem relI_of {i0 i1 : K0} {nows n' : Nat → Int32} (h : relI i0 i1 nows) (hn : ∀ j, 7 ≤ j → n' j = nows j) : relI i0 i1 n' := by
  obtain ⟨h1, h2, h3, h4⟩ := h
  exact ⟨h1, h2, RC_of (fun j _ => hn (7 + j) (by omega)) h3, RC_of (fun j _ => hn (14 + j) (by omega)) h4⟩
