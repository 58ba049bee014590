/-! notes and marks -/
theorem someW (v : Int32) {n : Nat} (hn : n ≤ 8) : (f_X10_isSetOfWords (nI n) v = some 0 ∧ f_X11_isSome (nI n) v = some 0) ∨ (∃ a, 1 ≤ a ∧ a < 2 ^ n ∧ v = nI a ∧ f_X10_isSetOfWords (nI n) v = some 1 ∧ f_X11_isSome (nI n) v = some 1) := by
  have h2 := p28 hn
  have hpos := Nat.two_pow_pos n
  have ha : f_X9_all (nI n) = some (nI (2 ^ n - 1)) := by unfold f_X9_all; rw [all_eq hn]
  have key : ∀ b : Int32, b = 0 ∨ b = 1 → f_X11_in v 1 (nI (2 ^ n - 1)) = some b → f_X11_isSome (nI n) v = some b := by
    intro b hb h
    unfold f_X11_isSome
    rw [all_eq hn]
    exact b_some h (ip hb rfl)
  by_cases h1 : v < 1
  · exact Or.inl ⟨ip h1 rfl, key 0 (Or.inl rfl) (ip h1 rfl)⟩
  · have h0 : ¬ v < 0 := by
      rw [i_lt] at h1 ⊢
      have e1 : (1 : Int32).toInt = 1 := by decide
      have e0 : (0 : Int32).toInt = 0 := by decide
      omega
    obtain ⟨a, hA, rfl⟩ := nI_of h0
    have ha1 : 1 ≤ a := by
      rcases Nat.eq_zero_or_pos a with rfl | h
      · exact absurd (by decide) h1
      · exact h
    by_cases h3 : a < 2 ^ n
    · have q : ¬ nI (2 ^ n - 1) < nI a := nI_nlt (by omega) (by omega)
      exact Or.inr ⟨a, ha1, h3, rfl, ino h1 (b_some ha (ino q rfl)), key 1 (Or.inr rfl) (ino h1 (ino q rfl))⟩
    · have q : nI (2 ^ n - 1) < nI a := nI_lt (by omega) hA
      exact Or.inl ⟨ino h1 (b_some ha (ip q rfl)), key 0 (Or.inl rfl) (ino h1 (ip q rfl))⟩
theorem mul4 (k : Nat) : (4 : Int32) * nI k = nI (4 * k) := by rw [show (4 : Int32) = nI 4 from rfl, pk_mul]
theorem mul3 (k : Nat) : (3 : Int32) * nI k = nI (3 * k) := by rw [show (3 : Int32) = nI 3 from rfl, pk_mul]
theorem full24 : f_X5_isFull 24 (nI 6) = some 1 := by rw [isFull_eq (by decide) (by decide)]; rfl
theorem free24 {k : Nat} (h : k < 6) : f_X5_isFull 24 (nI k) = some 0 := by rw [isFull_eq (by decide) (by omega), if_pos (by omega)]
def upd3 (f : Nat → Int32) (i : Nat) (a b c : Int32) : Nat → Int32 := upd (upd (upd f i a) (i + 1) b) (i + 2) c
theorem upd3_lo {f : Nat → Int32} {i j : Nat} {a b c : Int32} (h : j < i) : upd3 f i a b c j = f j := by
  unfold upd3
  rw [pk_un (by omega), pk_un (by omega), pk_un (by omega)]
theorem upd3_at (f : Nat → Int32) (i : Nat) (a b c : Int32) : upd3 f i a b c i = a ∧ upd3 f i a b c (i + 1) = b ∧ upd3 f i a b c (i + 2) = c := by
  unfold upd3
  refine ⟨?_, ?_, ?_⟩
  · rw [pk_un (by omega), pk_un (by omega), pk_us]
  · rw [pk_un (by omega), pk_us]
  · rw [pk_us]
theorem note40 (rb rf s : Int32) (c : Nat → Int32) (x1 x2 x3 x4 : Int32) : J_X10_note_40 rb rf s c x1 x2 x3 x4 = some (-2, rb + 1, rf, s, c) := by
  unfold J_X10_note_40 J_X10_note_41
  exact ip rfl rfl
theorem mark31 (rb rf s : Int32) (c : Nat → Int32) (x1 x2 x3 : Int32) : J_X10_mark_31 rb rf s c x1 x2 x3 = some (-2, rb + 1, rf, s, c) := by
  unfold J_X10_mark_31 J_X10_mark_32
  exact ip rfl rfl
