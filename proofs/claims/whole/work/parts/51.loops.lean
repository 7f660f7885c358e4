/-! loops by what they hold; the reference's copies of rows -/
theorem xlp_rel {σ τ : Type} {st : σ → Option (σ ⊕ τ)} (I : Nat → σ → Prop) (b : Nat) (Q : τ → Prop) (hs : ∀ i x, i < b → I i x → (∃ y, st x = some (.inl y) ∧ I (i + 1) y) ∨ (∃ t, st x = some (.inr t) ∧ Q t)) (he : ∀ x, I b x → ∃ t, st x = some (.inr t) ∧ Q t) : ∀ {n : Nat} {x : σ}, b < n → I 0 x → ∃ t, xlp st n x = some t ∧ Q t := by
  have key : ∀ (n i : Nat) (x : σ), i ≤ b → b - i < n → I i x → ∃ t, xlp st n x = some t ∧ Q t := by
    intro n
    induction n with
    | zero => intro i x _ h _; omega
    | succ n ih =>
      intro i x hi hn hx
      rcases Nat.lt_or_ge i b with h | h
      · rcases hs i x h hx with ⟨y, h1, h2⟩ | ⟨t, h1, h2⟩
        · obtain ⟨t, h3, h4⟩ := ih (i + 1) y h (by omega) h2
          exact ⟨t, by rw [xlp, h1]; exact h3, h4⟩
        · exact ⟨t, by rw [xlp, h1]; rfl, h2⟩
      · have e : i = b := by omega
        subst e
        obtain ⟨t, h1, h2⟩ := he x hx
        exact ⟨t, by rw [xlp, h1]; rfl, h2⟩
  intro n x hn hx
  exact key n 0 x (Nat.zero_le _) (by omega) hx
theorem nle {a b : Nat} (ha : a < 2 ^ 31) (hb : b < 2 ^ 31) : nI a ≤ nI b ↔ a ≤ b := nI_leI ha hb
theorem nlt {a b : Nat} (ha : a < 2 ^ 31) (hb : b < 2 ^ 31) : nI a < nI b ↔ a < b := nI_ltI ha hb
theorem xin_n {i n : Nat} (h : i < n) (hn : n < 2 ^ 31) : xin (nI i) n = true := by
  unfold xin
  rw [nI_toInt (by omega)]
  simp
  omega
theorem nlit (n : Nat) : (OfNat.ofNat n : Int32) = nI (@OfNat.ofNat Nat n (instOfNatNat n)) := rfl
theorem f_X7_takeTold_ex (o : K7) (told par : Nat → Int32) {N : Nat} (hN : 11 < N) : ∃ p, f_X7_takeTold N o told par = some p ∧ ∀ j, j < 11 → p j = told j := by
  obtain ⟨t, h1, h2⟩ := xlp_rel (st := s_X7_takeTold_2 told) (fun i v => v.1 = nI i ∧ ∀ j, j < i → v.2 j = told j) 11 (fun v => ∀ j, j < 11 → v.2 j = told j) (n := N) (x := (0, par))
    (fun i x hi ⟨a, b⟩ => Or.inl ⟨(nI (i + 1), upd x.2 i (told i)), by
      unfold s_X7_takeTold_2
      rw [a, if_neg (by rw [nlit, nle] <;> omega), if_pos (xin_n (by omega) (by omega)), if_pos (xin_n (by omega) (by omega)), nI_clamp (by omega), nI_1], rfl, fun j hj => by
        show upd x.2 i (told i) j = told j
        unfold upd
        split
        · rename_i e; rw [e]
        · exact b j (by omega)⟩)
    (fun x ⟨a, b⟩ => ⟨x, by unfold s_X7_takeTold_2; rw [a, if_pos (by rw [nlit, nle] <;> omega), ← a], b⟩) hN ⟨rfl, fun j hj => by omega⟩
  exact ⟨t.2, by unfold f_X7_takeTold; rw [h1]; rfl, h2⟩
theorem RP_of {p told : Nat → Int32} {y : K4} (h : ∀ j, j < 11 → p j = told j) (ht : RP told y) : RP p y := by
  unfold RP at *
  rw [h 0 (by omega), h 1 (by omega), h 2 (by omega), h 3 (by omega), h 4 (by omega), h 5 (by omega), h 6 (by omega), h 7 (by omega), h 8 (by omega), h 9 (by omega), h 10 (by omega)]
  exact ht
theorem RC_of {p t : Nat → Int32} {c : K0} (h : ∀ j, j < 7 → p j = t j) (ht : RC t c) : RC p c := by
  unfold RC at *
  rw [h 0 (by omega), h 1 (by omega), h 2 (by omega), h 3 (by omega), h 4 (by omega), h 5 (by omega), h 6 (by omega)]
  exact ht
theorem f_X7_takeTold_eq (o : K7) {told par : Nat → Int32} {y : K4} {N : Nat} (hN : 11 < N) (ht : RP told y) : ∃ p, f_X7_takeTold N o told par = some p ∧ RP p y := by
  obtain ⟨p, h1, h2⟩ := f_X7_takeTold_ex o told par hN
  exact ⟨p, h1, RP_of h2 ht⟩
theorem f_X7_takeNow_eq (o : K7) {told par t nows : Nat → Int32} {y : K4} {c : K0} {N : Nat} (hN : 11 < N) (ht : RP told y) (hc : RC nows c) : ∃ p t', f_X7_takeNow N o told par t nows = some (p, t') ∧ RP p y ∧ RC t' c := by
  obtain ⟨p, h1, h2⟩ := f_X7_takeTold_eq o (par := par) hN ht
  obtain ⟨t', h3, h4⟩ := xlp_rel (st := s_X7_takeNow_6 nows) (fun i v => v.1 = nI i ∧ ∀ j, j < i → v.2 j = nows j) 7 (fun v => ∀ j, j < 7 → v.2 j = nows j) (n := N) (x := (0, t))
    (fun i x hi ⟨a, b⟩ => Or.inl ⟨(nI (i + 1), upd x.2 i (nows i)), by
      unfold s_X7_takeNow_6
      rw [a, if_neg (by rw [nlit, nle] <;> omega), if_pos (xin_n (by omega) (by omega)), if_pos (xin_n (by omega) (by omega)), nI_clamp (by omega), nI_1], rfl, fun j hj => by
        show upd x.2 i (nows i) j = nows j
        unfold upd
        split
        · rename_i e; rw [e]
        · exact b j (by omega)⟩)
    (fun x ⟨a, b⟩ => ⟨x, by unfold s_X7_takeNow_6; rw [a, if_pos (by rw [nlit, nle] <;> omega), ← a], b⟩) (by omega) ⟨rfl, fun j hj => by omega⟩
  exact ⟨p, t'.2, by unfold f_X7_takeNow; rw [h1, Option.bind_some, h3]; rfl, h2, RC_of h4 hc⟩
theorem f_X7_giveNow_eq (o : K7) {t nows : Nat → Int32} {c : K0} {N : Nat} (hN : 11 < N) (hc : RC t c) : ∃ n', f_X7_giveNow N o t nows = some n' ∧ RC n' c ∧ ∀ j, 7 ≤ j → n' j = nows j := by
  obtain ⟨t', h3, h4⟩ := xlp_rel (st := s_X7_giveNow_2 t) (fun i v => v.1 = nI i ∧ (∀ j, j < i → v.2 j = t j) ∧ ∀ j, 7 ≤ j → v.2 j = nows j) 7 (fun v => (∀ j, j < 7 → v.2 j = t j) ∧ ∀ j, 7 ≤ j → v.2 j = nows j) (n := N) (x := (0, nows))
    (fun i x hi ⟨a, b, d⟩ => Or.inl ⟨(nI (i + 1), upd x.2 i (t i)), by
      unfold s_X7_giveNow_2
      rw [a, if_neg (by rw [nlit, nle] <;> omega), if_pos (xin_n (by omega) (by omega)), if_pos (xin_n (by omega) (by omega)), nI_clamp (by omega), nI_1], rfl, fun j hj => by
        show upd x.2 i (t i) j = t j
        unfold upd
        split
        · rename_i e; rw [e]
        · exact b j (by omega), fun j hj => by
        show upd x.2 i (t i) j = nows j
        unfold upd
        rw [if_neg (by omega)]; exact d j hj⟩)
    (fun x ⟨a, b⟩ => ⟨x, by unfold s_X7_giveNow_2; rw [a, if_pos (by rw [nlit, nle] <;> omega), ← a], b⟩) (by omega) ⟨rfl, fun j hj => by omega, fun _ _ => rfl⟩
  exact ⟨t'.2, by unfold f_X7_giveNow; rw [h3]; rfl, RC_of h4.1 hc, h4.2⟩
theorem f_X7_begin_eq (o : K7) (t : Nat → Int32) (e w : Int32) {N : Nat} (hN : 11 < N) : ∃ t', f_X7_begin N o t e w = some t' ∧ RC t' (e, w, 0, 0, 0, 0, 0) := by
  obtain ⟨t', h3, h4⟩ := xlp_rel (st := s_X7_begin_2) (fun i v => v.1 = nI i ∧ ∀ j, j < i → v.2 j = 0) 7 (fun v => ∀ j, j < 7 → v.2 j = 0) (n := N) (x := (0, t))
    (fun i x hi ⟨a, b⟩ => Or.inl ⟨(nI (i + 1), upd x.2 i 0), by
      unfold s_X7_begin_2
      rw [a, if_neg (by rw [nlit, nle] <;> omega), if_pos (xin_n (by omega) (by omega)), nI_clamp (by omega), nI_1], rfl, fun j hj => by
        show upd x.2 i 0 j = 0
        unfold upd
        split
        · rfl
        · exact b j (by omega)⟩)
    (fun x ⟨a, b⟩ => ⟨x, by unfold s_X7_begin_2; rw [a, if_pos (by rw [nlit, nle] <;> omega), ← a], b⟩) (by omega) ⟨rfl, fun j hj => by omega⟩
  refine ⟨_, by unfold f_X7_begin; rw [h3]; rfl, ?_⟩
  simp [RC, upd, h4]
