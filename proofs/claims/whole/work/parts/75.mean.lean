/-! a word and its number: which of the six it is, for class and reference alike -/
theorem wdB_iff (bt : Nat → Nat) (s j : Nat) : ∀ i, wdB bt s j i = true ↔ ∀ m, m < i → bt (s + m) = (wdN j).getD m 0
  | 0 => ⟨fun _ m hm => by omega, fun _ => rfl⟩
  | i + 1 => by
    rw [wdB_s, Bool.and_eq_true, wdB_iff bt s j i, decide_eq_true_iff]
    refine ⟨fun ⟨h1, h2⟩ m hm => ?_, fun h => ⟨fun m hm => h m (by omega), h i (by omega)⟩⟩
    rcases Nat.eq_or_lt_of_le (Nat.le_of_lt_succ hm) with e | e
    · rw [e]; exact h2
    · exact h1 m e
theorem wdM_iff (bt : Nat → Nat) (s L j : Nat) : wdM bt s L j = true ↔ L = xlen.getD j 0 ∧ ∀ m, m < xlen.getD j 0 → bt (s + m) = (wdN j).getD m 0 := by
  unfold wdM; rw [Bool.and_eq_true, decide_eq_true_iff, wdB_iff]
theorem cod1 (bt : Nat → Nat) (s : Nat) : codeF bt s 1 = 27 * 0 + (bt (s + 0) - 96) := rfl
theorem cod2 (bt : Nat → Nat) (s : Nat) : codeF bt s 2 = 27 * (27 * 0 + (bt (s + 0) - 96)) + (bt (s + 1) - 96) := rfl
theorem cod3 (bt : Nat → Nat) (s : Nat) : codeF bt s 3 = 27 * (27 * (27 * 0 + (bt (s + 0) - 96)) + (bt (s + 1) - 96)) + (bt (s + 2) - 96) := rfl
theorem cod4 (bt : Nat → Nat) (s : Nat) : codeF bt s 4 = 27 * (27 * (27 * (27 * 0 + (bt (s + 0) - 96)) + (bt (s + 1) - 96)) + (bt (s + 2) - 96)) + (bt (s + 3) - 96) := rfl
theorem cod5 (bt : Nat → Nat) (s : Nat) : codeF bt s 5 = 27 * (27 * (27 * (27 * (27 * 0 + (bt (s + 0) - 96)) + (bt (s + 1) - 96)) + (bt (s + 2) - 96)) + (bt (s + 3) - 96)) + (bt (s + 4) - 96) := rfl
theorem cod6 (bt : Nat → Nat) (s : Nat) : codeF bt s 6 = 27 * (27 * (27 * (27 * (27 * (27 * 0 + (bt (s + 0) - 96)) + (bt (s + 1) - 96)) + (bt (s + 2) - 96)) + (bt (s + 3) - 96)) + (bt (s + 4) - 96)) + (bt (s + 5) - 96) := rfl
theorem exL (bt : Nat → Nat) (s : Nat) : ∀ L, (L ≤ 6 → exF bt s L = 0) ∧ (L = 7 → exF bt s L = bt (s + 6) - 96) ∧ (8 ≤ L → exF bt s L = 99)
  | 0 => ⟨fun _ => rfl, fun h => by omega, fun h => by omega⟩
  | i + 1 => by
    obtain ⟨h1, h2, h3⟩ := exL bt s i
    rw [exF_s]
    by_cases c : i = 6
    · subst c; rw [if_pos rfl]; exact ⟨fun h => by omega, fun _ => rfl, fun h => by omega⟩
    · rw [if_neg c]
      by_cases c2 : i ≤ 6
      · rw [if_pos c2]; exact ⟨fun _ => h1 c2, fun h => by omega, fun h => by omega⟩
      · rw [if_neg c2]; exact ⟨fun h => by omega, fun h => by omega, fun _ => rfl⟩
theorem cod7 (bt : Nat → Nat) (s : Nat) : codeF bt s 7 = codeF bt s 6 := rfl
set_option maxHeartbeats 4000000 in
theorem wkey0 {bt : Nat → Nat} {s L : Nat} (hL : 1 ≤ L) (ha : ∀ j, j < L → 97 ≤ bt (s + j) ∧ bt (s + j) ≤ 122) : wdM bt s L 0 = true ↔ codeF bt s L = 330604 ∧ exF bt s L = 0 := by
  rw [wdM_iff]
  constructor
  · rintro ⟨h1, h2⟩
    have h1 : L = 4 := h1
    subst h1
    have g0 : bt (s + 0) = 112 := h2 0 (show 0 < 4 by omega)
    have g1 : bt (s + 1) = 117 := h2 1 (show 1 < 4 by omega)
    have g2 : bt (s + 2) = 109 := h2 2 (show 2 < 4 by omega)
    have g3 : bt (s + 3) = 112 := h2 3 (show 3 < 4 by omega)
    have hx := exL bt s 4
    have hc := cod4 bt s
    omega
  · rintro ⟨h1, h2⟩
    obtain ⟨x1, x2, x3⟩ := exL bt s L
    have hL6 : L ≤ 6 := by
      rcases Nat.lt_or_ge L 7 with k | k
      · omega
      · rcases Nat.eq_or_lt_of_le k with k2 | k2
        · have := (ha 6 (by omega)).1; have := x2 k2.symm; omega
        · have := x3 (by omega); omega
    clear x1 x2 x3 h2
    rcases (show L = 1 ∨ L = 2 ∨ L = 3 ∨ L = 4 ∨ L = 5 ∨ L = 6 by omega) with rfl | rfl | rfl | rfl | rfl | rfl
    · have hc := cod1 bt s
      have g0 := ha 0 (by omega)
      rw [h1] at hc
      exfalso; clear ha h1; omega
    · have hc := cod2 bt s
      have g0 := ha 0 (by omega)
      have g1 := ha 1 (by omega)
      rw [h1] at hc
      exfalso; clear ha h1; omega
    · have hc := cod3 bt s
      have g0 := ha 0 (by omega)
      have g1 := ha 1 (by omega)
      have g2 := ha 2 (by omega)
      rw [h1] at hc
      exfalso; clear ha h1; omega
    · have hc := cod4 bt s
      have g0 := ha 0 (by omega)
      have g1 := ha 1 (by omega)
      have g2 := ha 2 (by omega)
      have g3 := ha 3 (by omega)
      rw [h1] at hc
      have e0 : bt (s + 0) = 112 := by clear ha h1; omega
      have e1 : bt (s + 1) = 117 := by clear ha h1; omega
      have e2 : bt (s + 2) = 109 := by clear ha h1; omega
      have e3 : bt (s + 3) = 112 := by clear ha h1; omega
      refine ⟨rfl, fun m hm => ?_⟩
      have hm : m < 4 := hm
      rcases (show m = 0 ∨ m = 1 ∨ m = 2 ∨ m = 3 by omega) with rfl | rfl | rfl | rfl
      · exact e0
      · exact e1
      · exact e2
      · exact e3
    · have hc := cod5 bt s
      have g0 := ha 0 (by omega)
      have g1 := ha 1 (by omega)
      have g2 := ha 2 (by omega)
      have g3 := ha 3 (by omega)
      have g4 := ha 4 (by omega)
      rw [h1] at hc
      exfalso; clear ha h1; omega
    · have hc := cod6 bt s
      have g0 := ha 0 (by omega)
      have g1 := ha 1 (by omega)
      have g2 := ha 2 (by omega)
      have g3 := ha 3 (by omega)
      have g4 := ha 4 (by omega)
      have g5 := ha 5 (by omega)
      rw [h1] at hc
      exfalso; clear ha h1; omega
set_option maxHeartbeats 4000000 in
theorem wkey1 {bt : Nat → Nat} {s L : Nat} (hL : 1 ≤ L) (ha : ∀ j, j < L → 97 ≤ bt (s + j) ∧ bt (s + j) ≤ 122) : wdM bt s L 1 = true ↔ codeF bt s L = 456690 ∧ exF bt s L = 0 := by
  rw [wdM_iff]
  constructor
  · rintro ⟨h1, h2⟩
    have h1 : L = 4 := h1
    subst h1
    have g0 : bt (s + 0) = 119 := h2 0 (show 0 < 4 by omega)
    have g1 : bt (s + 1) = 101 := h2 1 (show 1 < 4 by omega)
    have g2 : bt (s + 2) = 108 := h2 2 (show 2 < 4 by omega)
    have g3 : bt (s + 3) = 108 := h2 3 (show 3 < 4 by omega)
    have hx := exL bt s 4
    have hc := cod4 bt s
    omega
  · rintro ⟨h1, h2⟩
    obtain ⟨x1, x2, x3⟩ := exL bt s L
    have hL6 : L ≤ 6 := by
      rcases Nat.lt_or_ge L 7 with k | k
      · omega
      · rcases Nat.eq_or_lt_of_le k with k2 | k2
        · have := (ha 6 (by omega)).1; have := x2 k2.symm; omega
        · have := x3 (by omega); omega
    clear x1 x2 x3 h2
    rcases (show L = 1 ∨ L = 2 ∨ L = 3 ∨ L = 4 ∨ L = 5 ∨ L = 6 by omega) with rfl | rfl | rfl | rfl | rfl | rfl
    · have hc := cod1 bt s
      have g0 := ha 0 (by omega)
      rw [h1] at hc
      exfalso; clear ha h1; omega
    · have hc := cod2 bt s
      have g0 := ha 0 (by omega)
      have g1 := ha 1 (by omega)
      rw [h1] at hc
      exfalso; clear ha h1; omega
    · have hc := cod3 bt s
      have g0 := ha 0 (by omega)
      have g1 := ha 1 (by omega)
      have g2 := ha 2 (by omega)
      rw [h1] at hc
      exfalso; clear ha h1; omega
    · have hc := cod4 bt s
      have g0 := ha 0 (by omega)
      have g1 := ha 1 (by omega)
      have g2 := ha 2 (by omega)
      have g3 := ha 3 (by omega)
      rw [h1] at hc
      have e0 : bt (s + 0) = 119 := by clear ha h1; omega
      have e1 : bt (s + 1) = 101 := by clear ha h1; omega
      have e2 : bt (s + 2) = 108 := by clear ha h1; omega
      have e3 : bt (s + 3) = 108 := by clear ha h1; omega
      refine ⟨rfl, fun m hm => ?_⟩
      have hm : m < 4 := hm
      rcases (show m = 0 ∨ m = 1 ∨ m = 2 ∨ m = 3 by omega) with rfl | rfl | rfl | rfl
      · exact e0
      · exact e1
      · exact e2
      · exact e3
    · have hc := cod5 bt s
      have g0 := ha 0 (by omega)
      have g1 := ha 1 (by omega)
      have g2 := ha 2 (by omega)
      have g3 := ha 3 (by omega)
      have g4 := ha 4 (by omega)
      rw [h1] at hc
      exfalso; clear ha h1; omega
    · have hc := cod6 bt s
      have g0 := ha 0 (by omega)
      have g1 := ha 1 (by omega)
      have g2 := ha 2 (by omega)
      have g3 := ha 3 (by omega)
      have g4 := ha 4 (by omega)
      have g5 := ha 5 (by omega)
      rw [h1] at hc
      exfalso; clear ha h1; omega
set_option maxHeartbeats 4000000 in
theorem wkey2 {bt : Nat → Nat} {s L : Nat} (hL : 1 ≤ L) (ha : ∀ j, j < L → 97 ≤ bt (s + j) ∧ bt (s + j) ≤ 122) : wdM bt s L 2 = true ↔ codeF bt s L = 126889 ∧ exF bt s L = 0 := by
  rw [wdM_iff]
  constructor
  · rintro ⟨h1, h2⟩
    have h1 : L = 4 := h1
    subst h1
    have g0 : bt (s + 0) = 102 := h2 0 (show 0 < 4 by omega)
    have g1 : bt (s + 1) = 108 := h2 1 (show 1 < 4 by omega)
    have g2 : bt (s + 2) = 97 := h2 2 (show 2 < 4 by omega)
    have g3 : bt (s + 3) = 112 := h2 3 (show 3 < 4 by omega)
    have hx := exL bt s 4
    have hc := cod4 bt s
    omega
  · rintro ⟨h1, h2⟩
    obtain ⟨x1, x2, x3⟩ := exL bt s L
    have hL6 : L ≤ 6 := by
      rcases Nat.lt_or_ge L 7 with k | k
      · omega
      · rcases Nat.eq_or_lt_of_le k with k2 | k2
        · have := (ha 6 (by omega)).1; have := x2 k2.symm; omega
        · have := x3 (by omega); omega
    clear x1 x2 x3 h2
    rcases (show L = 1 ∨ L = 2 ∨ L = 3 ∨ L = 4 ∨ L = 5 ∨ L = 6 by omega) with rfl | rfl | rfl | rfl | rfl | rfl
    · have hc := cod1 bt s
      have g0 := ha 0 (by omega)
      rw [h1] at hc
      exfalso; clear ha h1; omega
    · have hc := cod2 bt s
      have g0 := ha 0 (by omega)
      have g1 := ha 1 (by omega)
      rw [h1] at hc
      exfalso; clear ha h1; omega
    · have hc := cod3 bt s
      have g0 := ha 0 (by omega)
      have g1 := ha 1 (by omega)
      have g2 := ha 2 (by omega)
      rw [h1] at hc
      exfalso; clear ha h1; omega
    · have hc := cod4 bt s
      have g0 := ha 0 (by omega)
      have g1 := ha 1 (by omega)
      have g2 := ha 2 (by omega)
      have g3 := ha 3 (by omega)
      rw [h1] at hc
      have e0 : bt (s + 0) = 102 := by clear ha h1; omega
      have e1 : bt (s + 1) = 108 := by clear ha h1; omega
      have e2 : bt (s + 2) = 97 := by clear ha h1; omega
      have e3 : bt (s + 3) = 112 := by clear ha h1; omega
      refine ⟨rfl, fun m hm => ?_⟩
      have hm : m < 4 := hm
      rcases (show m = 0 ∨ m = 1 ∨ m = 2 ∨ m = 3 by omega) with rfl | rfl | rfl | rfl
      · exact e0
      · exact e1
      · exact e2
      · exact e3
    · have hc := cod5 bt s
      have g0 := ha 0 (by omega)
      have g1 := ha 1 (by omega)
      have g2 := ha 2 (by omega)
      have g3 := ha 3 (by omega)
      have g4 := ha 4 (by omega)
      rw [h1] at hc
      exfalso; clear ha h1; omega
    · have hc := cod6 bt s
      have g0 := ha 0 (by omega)
      have g1 := ha 1 (by omega)
      have g2 := ha 2 (by omega)
      have g3 := ha 3 (by omega)
      have g4 := ha 4 (by omega)
      have g5 := ha 5 (by omega)
      rw [h1] at hc
      exfalso; clear ha h1; omega
set_option maxHeartbeats 4000000 in
theorem wkey3 {bt : Nat → Nat} {s L : Nat} (hL : 1 ≤ L) (ha : ∀ j, j < L → 97 ≤ bt (s + j) ∧ bt (s + j) ≤ 122) : wdM bt s L 3 = true ↔ codeF bt s L = 5616614 ∧ exF bt s L = 0 := by
  rw [wdM_iff]
  constructor
  · rintro ⟨h1, h2⟩
    have h1 : L = 5 := h1
    subst h1
    have g0 : bt (s + 0) = 106 := h2 0 (show 0 < 5 by omega)
    have g1 : bt (s + 1) = 111 := h2 1 (show 1 < 5 by omega)
    have g2 : bt (s + 2) = 105 := h2 2 (show 2 < 5 by omega)
    have g3 : bt (s + 3) = 110 := h2 3 (show 3 < 5 by omega)
    have g4 : bt (s + 4) = 116 := h2 4 (show 4 < 5 by omega)
    have hx := exL bt s 5
    have hc := cod5 bt s
    omega
  · rintro ⟨h1, h2⟩
    obtain ⟨x1, x2, x3⟩ := exL bt s L
    have hL6 : L ≤ 6 := by
      rcases Nat.lt_or_ge L 7 with k | k
      · omega
      · rcases Nat.eq_or_lt_of_le k with k2 | k2
        · have := (ha 6 (by omega)).1; have := x2 k2.symm; omega
        · have := x3 (by omega); omega
    clear x1 x2 x3 h2
    rcases (show L = 1 ∨ L = 2 ∨ L = 3 ∨ L = 4 ∨ L = 5 ∨ L = 6 by omega) with rfl | rfl | rfl | rfl | rfl | rfl
    · have hc := cod1 bt s
      have g0 := ha 0 (by omega)
      rw [h1] at hc
      exfalso; clear ha h1; omega
    · have hc := cod2 bt s
      have g0 := ha 0 (by omega)
      have g1 := ha 1 (by omega)
      rw [h1] at hc
      exfalso; clear ha h1; omega
    · have hc := cod3 bt s
      have g0 := ha 0 (by omega)
      have g1 := ha 1 (by omega)
      have g2 := ha 2 (by omega)
      rw [h1] at hc
      exfalso; clear ha h1; omega
    · have hc := cod4 bt s
      have g0 := ha 0 (by omega)
      have g1 := ha 1 (by omega)
      have g2 := ha 2 (by omega)
      have g3 := ha 3 (by omega)
      rw [h1] at hc
      exfalso; clear ha h1; omega
    · have hc := cod5 bt s
      have g0 := ha 0 (by omega)
      have g1 := ha 1 (by omega)
      have g2 := ha 2 (by omega)
      have g3 := ha 3 (by omega)
      have g4 := ha 4 (by omega)
      rw [h1] at hc
      have e0 : bt (s + 0) = 106 := by clear ha h1; omega
      have e1 : bt (s + 1) = 111 := by clear ha h1; omega
      have e2 : bt (s + 2) = 105 := by clear ha h1; omega
      have e3 : bt (s + 3) = 110 := by clear ha h1; omega
      have e4 : bt (s + 4) = 116 := by clear ha h1; omega
      refine ⟨rfl, fun m hm => ?_⟩
      have hm : m < 5 := hm
      rcases (show m = 0 ∨ m = 1 ∨ m = 2 ∨ m = 3 ∨ m = 4 by omega) with rfl | rfl | rfl | rfl | rfl
      · exact e0
      · exact e1
      · exact e2
      · exact e3
      · exact e4
    · have hc := cod6 bt s
      have g0 := ha 0 (by omega)
      have g1 := ha 1 (by omega)
      have g2 := ha 2 (by omega)
      have g3 := ha 3 (by omega)
      have g4 := ha 4 (by omega)
      have g5 := ha 5 (by omega)
      rw [h1] at hc
      exfalso; clear ha h1; omega
set_option maxHeartbeats 4000000 in
theorem wkey4 {bt : Nat → Nat} {s L : Nat} (hL : 1 ≤ L) (ha : ∀ j, j < L → 97 ≤ bt (s + j) ∧ bt (s + j) ≤ 122) : wdM bt s L 4 = true ↔ codeF bt s L = 174878573 ∧ exF bt s L = 18 := by
  rw [wdM_iff]
  constructor
  · rintro ⟨h1, h2⟩
    have h1 : L = 7 := h1
    subst h1
    have g0 : bt (s + 0) = 108 := h2 0 (show 0 < 7 by omega)
    have g1 : bt (s + 1) = 101 := h2 1 (show 1 < 7 by omega)
    have g2 : bt (s + 2) = 97 := h2 2 (show 2 < 7 by omega)
    have g3 : bt (s + 3) = 116 := h2 3 (show 3 < 7 by omega)
    have g4 : bt (s + 4) = 104 := h2 4 (show 4 < 7 by omega)
    have g5 : bt (s + 5) = 101 := h2 5 (show 5 < 7 by omega)
    have g6 : bt (s + 6) = 114 := h2 6 (show 6 < 7 by omega)
    have hx := exL bt s 7
    have hc := cod6 bt s
    have h7 := cod7 bt s
    omega
  · rintro ⟨h1, h2⟩
    obtain ⟨x1, x2, x3⟩ := exL bt s L
    have hL7 : L = 7 := by
      rcases Nat.lt_or_ge L 7 with k | k
      · have := x1 (by omega); omega
      · rcases Nat.eq_or_lt_of_le k with k2 | k2
        · exact k2.symm
        · have := x3 (by omega); omega
    subst hL7
    have hx := x2 rfl
    have hc := cod6 bt s
    rw [cod7] at h1; rw [h1] at hc; rw [h2] at hx
    have g0 := ha 0 (by omega)
    have g1 := ha 1 (by omega)
    have g2 := ha 2 (by omega)
    have g3 := ha 3 (by omega)
    have g4 := ha 4 (by omega)
    have g5 := ha 5 (by omega)
    have g6 := ha 6 (by omega)
    clear ha h1 x1 x2 x3 h2
    have e0 : bt (s + 0) = 108 := by omega
    have e1 : bt (s + 1) = 101 := by omega
    have e2 : bt (s + 2) = 97 := by omega
    have e3 : bt (s + 3) = 116 := by omega
    have e4 : bt (s + 4) = 104 := by omega
    have e5 : bt (s + 5) = 101 := by omega
    have e6 : bt (s + 6) = 114 := by omega
    refine ⟨rfl, fun m hm => ?_⟩
    have hm : m < 7 := hm
    rcases (show m = 0 ∨ m = 1 ∨ m = 2 ∨ m = 3 ∨ m = 4 ∨ m = 5 ∨ m = 6 by omega) with rfl | rfl | rfl | rfl | rfl | rfl | rfl
    · exact e0
    · exact e1
    · exact e2
    · exact e3
    · exact e4
    · exact e5
    · exact e6
set_option maxHeartbeats 4000000 in
theorem wkey5 {bt : Nat → Nat} {s L : Nat} (hL : 1 ≤ L) (ha : ∀ j, j < L → 97 ≤ bt (s + j) ∧ bt (s + j) ≤ 122) : wdM bt s L 5 = true ↔ codeF bt s L = 8740067 ∧ exF bt s L = 0 := by
  rw [wdM_iff]
  constructor
  · rintro ⟨h1, h2⟩
    have h1 : L = 5 := h1
    subst h1
    have g0 : bt (s + 0) = 112 := h2 0 (show 0 < 5 by omega)
    have g1 : bt (s + 1) = 108 := h2 1 (show 1 < 5 by omega)
    have g2 : bt (s + 2) = 97 := h2 2 (show 2 < 5 by omega)
    have g3 : bt (s + 3) = 99 := h2 3 (show 3 < 5 by omega)
    have g4 : bt (s + 4) = 101 := h2 4 (show 4 < 5 by omega)
    have hx := exL bt s 5
    have hc := cod5 bt s
    omega
  · rintro ⟨h1, h2⟩
    obtain ⟨x1, x2, x3⟩ := exL bt s L
    have hL6 : L ≤ 6 := by
      rcases Nat.lt_or_ge L 7 with k | k
      · omega
      · rcases Nat.eq_or_lt_of_le k with k2 | k2
        · have := (ha 6 (by omega)).1; have := x2 k2.symm; omega
        · have := x3 (by omega); omega
    clear x1 x2 x3 h2
    rcases (show L = 1 ∨ L = 2 ∨ L = 3 ∨ L = 4 ∨ L = 5 ∨ L = 6 by omega) with rfl | rfl | rfl | rfl | rfl | rfl
    · have hc := cod1 bt s
      have g0 := ha 0 (by omega)
      rw [h1] at hc
      exfalso; clear ha h1; omega
    · have hc := cod2 bt s
      have g0 := ha 0 (by omega)
      have g1 := ha 1 (by omega)
      rw [h1] at hc
      exfalso; clear ha h1; omega
    · have hc := cod3 bt s
      have g0 := ha 0 (by omega)
      have g1 := ha 1 (by omega)
      have g2 := ha 2 (by omega)
      rw [h1] at hc
      exfalso; clear ha h1; omega
    · have hc := cod4 bt s
      have g0 := ha 0 (by omega)
      have g1 := ha 1 (by omega)
      have g2 := ha 2 (by omega)
      have g3 := ha 3 (by omega)
      rw [h1] at hc
      exfalso; clear ha h1; omega
    · have hc := cod5 bt s
      have g0 := ha 0 (by omega)
      have g1 := ha 1 (by omega)
      have g2 := ha 2 (by omega)
      have g3 := ha 3 (by omega)
      have g4 := ha 4 (by omega)
      rw [h1] at hc
      have e0 : bt (s + 0) = 112 := by clear ha h1; omega
      have e1 : bt (s + 1) = 108 := by clear ha h1; omega
      have e2 : bt (s + 2) = 97 := by clear ha h1; omega
      have e3 : bt (s + 3) = 99 := by clear ha h1; omega
      have e4 : bt (s + 4) = 101 := by clear ha h1; omega
      refine ⟨rfl, fun m hm => ?_⟩
      have hm : m < 5 := hm
      rcases (show m = 0 ∨ m = 1 ∨ m = 2 ∨ m = 3 ∨ m = 4 by omega) with rfl | rfl | rfl | rfl | rfl
      · exact e0
      · exact e1
      · exact e2
      · exact e3
      · exact e4
    · have hc := cod6 bt s
      have g0 := ha 0 (by omega)
      have g1 := ha 1 (by omega)
      have g2 := ha 2 (by omega)
      have g3 := ha 3 (by omega)
      have g4 := ha 4 (by omega)
      have g5 := ha 5 (by omega)
      rw [h1] at hc
      exfalso; clear ha h1; omega
def sloN (j : Nat) : Nat := [0, 2, 5, 6, 8, 9].getD j 0
theorem mean_ok {bt : Nat → Nat} {s L : Nat} (hL : 1 ≤ L) (ha : ∀ j, j < L → 97 ≤ bt (s + j) ∧ bt (s + j) ≤ 122) : (∃ j, j < 6 ∧ wdM bt s L j = true ∧ (∀ i, i < 6 → wdM bt s L i = true → i = j) ∧ f_X7_meaning (nI (codeF bt s L)) (nI (exF bt s L)) = nI (sloN j)) ∨ ((∀ j, j < 6 → wdM bt s L j = false) ∧ f_X7_meaning (nI (codeF bt s L)) (nI (exF bt s L)) = 23) := by
  have w0 := wkey0 hL ha
  have w1 := wkey1 hL ha
  have w2 := wkey2 hL ha
  have w3 := wkey3 hL ha
  have w4 := wkey4 hL ha
  have w5 := wkey5 hL ha
  have hc := (codeF_lt (bt := bt) (s := s) L (fun j hj => (ha j hj).2)).1
  have hx := exF_lt (bt := bt) (s := s) L (fun j hj => (ha j hj).2)
  generalize codeF bt s L = c at *
  generalize exF bt s L = x at *
  have nc : ∀ k : Nat, k < 1000000000 → (nI c = nI k ↔ c = k) := fun k hk => nI_eq (by omega) (by omega)
  have nx : ∀ k : Nat, k < 1000000000 → (nI x = nI k ↔ x = k) := fun k hk => nI_eq (by omega) (by omega)
  by_cases k0 : c = 330604 ∧ x = 0
  · obtain ⟨rfl, rfl⟩ := k0
    refine Or.inl ⟨0, by omega, w0.mpr ⟨rfl, rfl⟩, fun i hi hw => ?_, by decide⟩
    rcases (show i = 0 ∨ i = 1 ∨ i = 2 ∨ i = 3 ∨ i = 4 ∨ i = 5 by omega) with rfl | rfl | rfl | rfl | rfl | rfl
    · rfl
    · have := w1.mp hw; omega
    · have := w2.mp hw; omega
    · have := w3.mp hw; omega
    · have := w4.mp hw; omega
    · have := w5.mp hw; omega
  by_cases k1 : c = 456690 ∧ x = 0
  · obtain ⟨rfl, rfl⟩ := k1
    refine Or.inl ⟨1, by omega, w1.mpr ⟨rfl, rfl⟩, fun i hi hw => ?_, by decide⟩
    rcases (show i = 0 ∨ i = 1 ∨ i = 2 ∨ i = 3 ∨ i = 4 ∨ i = 5 by omega) with rfl | rfl | rfl | rfl | rfl | rfl
    · have := w0.mp hw; omega
    · rfl
    · have := w2.mp hw; omega
    · have := w3.mp hw; omega
    · have := w4.mp hw; omega
    · have := w5.mp hw; omega
  by_cases k2 : c = 126889 ∧ x = 0
  · obtain ⟨rfl, rfl⟩ := k2
    refine Or.inl ⟨2, by omega, w2.mpr ⟨rfl, rfl⟩, fun i hi hw => ?_, by decide⟩
    rcases (show i = 0 ∨ i = 1 ∨ i = 2 ∨ i = 3 ∨ i = 4 ∨ i = 5 by omega) with rfl | rfl | rfl | rfl | rfl | rfl
    · have := w0.mp hw; omega
    · have := w1.mp hw; omega
    · rfl
    · have := w3.mp hw; omega
    · have := w4.mp hw; omega
    · have := w5.mp hw; omega
  by_cases k3 : c = 5616614 ∧ x = 0
  · obtain ⟨rfl, rfl⟩ := k3
    refine Or.inl ⟨3, by omega, w3.mpr ⟨rfl, rfl⟩, fun i hi hw => ?_, by decide⟩
    rcases (show i = 0 ∨ i = 1 ∨ i = 2 ∨ i = 3 ∨ i = 4 ∨ i = 5 by omega) with rfl | rfl | rfl | rfl | rfl | rfl
    · have := w0.mp hw; omega
    · have := w1.mp hw; omega
    · have := w2.mp hw; omega
    · rfl
    · have := w4.mp hw; omega
    · have := w5.mp hw; omega
  by_cases k4 : c = 174878573 ∧ x = 18
  · obtain ⟨rfl, rfl⟩ := k4
    refine Or.inl ⟨4, by omega, w4.mpr ⟨rfl, rfl⟩, fun i hi hw => ?_, by decide⟩
    rcases (show i = 0 ∨ i = 1 ∨ i = 2 ∨ i = 3 ∨ i = 4 ∨ i = 5 by omega) with rfl | rfl | rfl | rfl | rfl | rfl
    · have := w0.mp hw; omega
    · have := w1.mp hw; omega
    · have := w2.mp hw; omega
    · have := w3.mp hw; omega
    · rfl
    · have := w5.mp hw; omega
  by_cases k5 : c = 8740067 ∧ x = 0
  · obtain ⟨rfl, rfl⟩ := k5
    refine Or.inl ⟨5, by omega, w5.mpr ⟨rfl, rfl⟩, fun i hi hw => ?_, by decide⟩
    rcases (show i = 0 ∨ i = 1 ∨ i = 2 ∨ i = 3 ∨ i = 4 ∨ i = 5 by omega) with rfl | rfl | rfl | rfl | rfl | rfl
    · have := w0.mp hw; omega
    · have := w1.mp hw; omega
    · have := w2.mp hw; omega
    · have := w3.mp hw; omega
    · have := w4.mp hw; omega
    · rfl
  refine Or.inr ⟨fun j hj => ?_, ?_⟩
  · rcases (show j = 0 ∨ j = 1 ∨ j = 2 ∨ j = 3 ∨ j = 4 ∨ j = 5 by omega) with rfl | rfl | rfl | rfl | rfl | rfl
    · exact Bool.eq_false_iff.mpr (fun h => k0 (w0.mp h))
    · exact Bool.eq_false_iff.mpr (fun h => k1 (w1.mp h))
    · exact Bool.eq_false_iff.mpr (fun h => k2 (w2.mp h))
    · exact Bool.eq_false_iff.mpr (fun h => k3 (w3.mp h))
    · exact Bool.eq_false_iff.mpr (fun h => k4 (w4.mp h))
    · exact Bool.eq_false_iff.mpr (fun h => k5 (w5.mp h))
  · unfold f_X7_meaning
    by_cases cx : x = 0
    · subst cx
      rw [if_pos (by decide)]
      rw [if_neg (show ¬ nI c = 126889 from fun q => k2 ⟨(nc 126889 (by omega)).mp q, rfl⟩)]
      rw [if_neg (show ¬ nI c = 330604 from fun q => k0 ⟨(nc 330604 (by omega)).mp q, rfl⟩)]
      rw [if_neg (show ¬ nI c = 456690 from fun q => k1 ⟨(nc 456690 (by omega)).mp q, rfl⟩)]
      rw [if_neg (show ¬ nI c = 5616614 from fun q => k3 ⟨(nc 5616614 (by omega)).mp q, rfl⟩)]
      rw [if_neg (show ¬ nI c = 8740067 from fun q => k5 ⟨(nc 8740067 (by omega)).mp q, rfl⟩)]
    · rw [if_neg (show ¬ nI x ≤ 0 by rw [zle, z0, nI_toInt (by omega)]; omega)]
      by_cases cc : c = 174878573
      · rw [if_pos (show nI c = 174878573 from (nc 174878573 (by omega)).mpr cc), if_neg (show ¬ nI x = 18 from fun q => k4 ⟨cc, (nx 18 (by omega)).mp q⟩)]
      · rw [if_neg (show ¬ nI c = 174878573 from fun q => cc ((nc 174878573 (by omega)).mp q))]
