/-! loops, numbers, bits: plain facts -/
theorem lp_seq {V O : Type} {B : V → Option (V ⊕ O)} (st : Nat → V) (N : Nat) {o : O} (h1 : ∀ i, i < N → B (st i) = some (.inl (st (i + 1)))) (h2 : B (st N) = some (.inr o)) : ∀ (d i n : Nat), N = i + d → d < n → lp B n (st i) = some o := by
  intro d
  induction d with
  | zero =>
    intro i n hN hn
    obtain ⟨n, rfl⟩ : ∃ k, n = k + 1 := ⟨n - 1, by omega⟩
    have : i = N := by omega
    subst this
    show (B (st i)).bind _ = _
    rw [h2]
    rfl
  | succ d ih =>
    intro i n hN hn
    obtain ⟨n, rfl⟩ : ∃ k, n = k + 1 := ⟨n - 1, by omega⟩
    show (B (st i)).bind _ = _
    rw [h1 i (by omega)]
    exact ih (i + 1) n (by omega) (by omega)
/-- a loop by its states -/
theorem lp_run {V O : Type} {B : V → Option (V ⊕ O)} (st : Nat → V) (N : Nat) {v : V} {o : O} (h0 : v = st 0) (hN : N < 2000) (h1 : ∀ i, i < N → B (st i) = some (.inl (st (i + 1)))) (h2 : B (st N) = some (.inr o)) : lp B KN v = some o := by
  rw [h0]
  exact lp_seq st N h1 h2 N 0 KN (by omega) hN
theorem i_lt {a b : Int32} : a < b ↔ a.toInt < b.toInt := Int32.lt_iff_toInt_lt
theorem i_le {a b : Int32} : a ≤ b ↔ a.toInt ≤ b.toInt := Int32.le_iff_toInt_le
/-- below a limit, or not: both sides' tests -/
theorem cmp3 (v : Int32) (N : Nat) (h0 : 0 < N) (hN : N < 2 ^ 31) : (f_X10_isBelow v (nI N) = some 0 ∧ f_X11_in v 0 (nI (N - 1)) = some 0 ∧ oob v N) ∨ (∃ k, k < N ∧ v = nI k ∧ f_X10_isBelow v (nI N) = some 1 ∧ f_X11_in v 0 (nI (N - 1)) = some 1 ∧ ¬ oob v N) := by
  rcases pk_ix v hN with h | h | ⟨j, hj, rfl⟩
  · refine Or.inl ⟨?_, ?_, Or.inl h⟩
    · unfold f_X10_isBelow; rw [if_pos h]
    · unfold f_X11_in; rw [if_pos h]
  · have hz : ¬ v < 0 := by
      rw [i_lt]; rw [i_le, nI_toInt hN] at h
      show ¬ v.toInt < 0
      omega
    obtain ⟨k, hk, rfl⟩ := nI_of hz
    have hkN : N ≤ k := by rwa [nI_leI hN hk] at h
    refine Or.inl ⟨?_, ?_, Or.inr ?_⟩
    · unfold f_X10_isBelow; rw [if_neg hz, if_pos h]
    · unfold f_X11_in; rw [if_neg hz, if_pos ((nI_ltI (by omega) hk).mpr (by omega))]
    · rw [nI_clamp hk]; exact hkN
  · have hz : ¬ nI j < 0 := nI_pos (by omega)
    refine Or.inr ⟨j, hj, rfl, ?_, ?_, ?_⟩
    · unfold f_X10_isBelow; rw [if_neg hz, if_neg (nI_ge hj hN)]
    · unfold f_X11_in; rw [if_neg hz, if_neg (nI_nlt (by omega) (by omega))]
    · exact vp_in_nI hj hN
theorem bad_eq (r : Nat → Int32) : f_X11_bad r = some (-2, upd r 0 (r 0 + 1)) := by
  unfold f_X11_bad
  rw [if_neg (by decide), if_neg (by decide)]
  rfl
theorem no_eq (r : Nat → Int32) : f_X11_no r = some (-3, upd r 1 (r 1 + 1)) := by
  unfold f_X11_no
  rw [if_neg (by decide), if_neg (by decide)]
  rfl
theorem full_eq (r : Nat → Int32) : f_X11_full r = some (-4, upd r 2 (r 2 + 1)) := by
  unfold f_X11_full
  rw [if_neg (by decide), if_neg (by decide)]
  rfl
theorem rb_eq (x : Int32) : f_X10_refuseBad x = some (-2, x + 1) := rfl
theorem rn_eq (x : Int32) : f_X10_refuseNo x = some (-3, x + 1) := rfl
theorem rf_eq (x : Int32) : f_X10_refuseFull x = some (-4, x + 1) := rfl
theorem isKind_eq {v b : Int32} (h : f_X11_in v 0 5 = some b) (hb : b = 0 ∨ b = 1) : f_X11_isKind v = some b := by
  unfold f_X11_isKind
  rw [show f_X11_in v (0 : Int32) (5 : Int32) = some b from h]
  show (if (b = 0 ∨ b = 1) then some b else none) = some b
  rw [if_pos hb]
theorem isLet_eq {v b : Int32} (h : f_X11_in v 0 9 = some b) (hb : b = 0 ∨ b = 1) : f_X11_isLetterNumber v = some b := by
  unfold f_X11_isLetterNumber
  rw [show f_X11_in v (0 : Int32) (9 : Int32) = some b from h]
  show (if (b = 0 ∨ b = 1) then some b else none) = some b
  rw [if_pos hb]
theorem b_some {α β : Type} {a : Option α} {x : α} {f : α → Option β} {b : Option β} (h : a = some x) (h2 : f x = b) : a.bind f = b := by rw [h]; exact h2
/-- the counts of what was refused -/
def RefR (rb rn rf : Int32) (r : Nat → Int32) : Prop := rb = r 0 ∧ rn = r 1 ∧ rf = r 2
theorem RefR.bad {rb rn rf : Int32} {r : Nat → Int32} (h : RefR rb rn rf r) : RefR (rb + 1) rn rf (upd r 0 (r 0 + 1)) := ⟨by rw [h.1]; exact pk_us.symm, by rw [h.2.1]; exact (pk_un (by decide)).symm, by rw [h.2.2]; exact (pk_un (by decide)).symm⟩
theorem RefR.no {rb rn rf : Int32} {r : Nat → Int32} (h : RefR rb rn rf r) : RefR rb (rn + 1) rf (upd r 1 (r 1 + 1)) := ⟨by rw [h.1]; exact (pk_un (by decide)).symm, by rw [h.2.1]; exact pk_us.symm, by rw [h.2.2]; exact (pk_un (by decide)).symm⟩
theorem RefR.full {rb rn rf : Int32} {r : Nat → Int32} (h : RefR rb rn rf r) : RefR rb rn (rf + 1) (upd r 2 (r 2 + 1)) := ⟨by rw [h.1]; exact (pk_un (by decide)).symm, by rw [h.2.1]; exact (pk_un (by decide)).symm, by rw [h.2.2]; exact pk_us.symm⟩
theorem ip {c : Prop} [Decidable c] {α : Type} {a b z : α} (h : c) (e : a = z) : (if c then a else b) = z := by rw [if_pos h]; exact e
theorem ino {c : Prop} [Decidable c] {α : Type} {a b z : α} (h : ¬ c) (e : b = z) : (if c then a else b) = z := by rw [if_neg h]; exact e
theorem i10 : ¬ (1 : Int32) = 0 := by decide
/-- the letters' rows emptied -/
def remH (f : Nat → Int32) : Nat → (Nat → Int32)
  | 0 => f
  | n + 1 => upd (remH f n) n 0
def removeAllH (f : Nat → Int32) : Nat → Int32 := remH f 10
theorem remH_at (f : Nat → Int32) : ∀ (n l : Nat), l < n → remH f n l = 0
  | 0, l, h => absurd h (by omega)
  | n + 1, l, h => by
    show upd (remH f n) n 0 l = 0
    by_cases e : l = n
    · subst e; exact pk_us
    · rw [pk_un e]; exact remH_at f n l (by omega)
theorem removeAllH_at (f : Nat → Int32) {l : Nat} (h : l < 10) : removeAllH f l = 0 := remH_at f 10 l h
theorem nI_lit (n : Nat) : (OfNat.ofNat n : Int32) = nI n := rfl
theorem removeAll_eq (f : Nat → Int32) : f_X9_removeAll f = some (0, removeAllH f) := by
  unfold f_X9_removeAll
  refine b_some (lp_run (fun i => (nI i, remH f i)) 10 rfl (by decide) (fun i hi => ?_) ?_) rfl
  · show B_X9_removeAll_7 (nI i) (remH f i) = _
    unfold B_X9_removeAll_7
    refine ino (nI_ge (a := i) (b := 10) hi (by decide)) (ino (vp_in_nI hi (by decide)) ?_)
    rw [nI_clamp (by omega), nI_1]
    rfl
  · show B_X9_removeAll_7 (nI 10) (remH f 10) = _
    unfold B_X9_removeAll_7
    exact ip (by decide) rfl
theorem gs_0 (cd : Nat → Nat) (lf : Nat) : GsOK cd lf 0 := ⟨by decide, fun v w l _ _ h => by rw [Nat.zero_testBit] at h; cases h⟩
