/-! what may be undone -/
def nx (np : Nat) : Nat := if np = 8 then 8 else np + 1
def dl (np : Nat) : Nat := if np = 8 then 1 else 0
def upd4 (f : Nat → Int32) (i : Nat) (a b c d : Int32) : Nat → Int32 := upd (upd (upd (upd f i a) (i + 1) b) (i + 2) c) (i + 3) d
theorem upd4_lo {f : Nat → Int32} {i j : Nat} {a b c d : Int32} (h : j < i) : upd4 f i a b c d j = f j := by
  unfold upd4
  rw [pk_un (by omega), pk_un (by omega), pk_un (by omega), pk_un (by omega)]
theorem upd4_at (f : Nat → Int32) (i : Nat) (a b c d : Int32) : upd4 f i a b c d i = a ∧ upd4 f i a b c d (i + 1) = b ∧ upd4 f i a b c d (i + 2) = c ∧ upd4 f i a b c d (i + 3) = d := by
  unfold upd4
  refine ⟨?_, ?_, ?_, ?_⟩
  · rw [pk_un (by omega), pk_un (by omega), pk_un (by omega), pk_us]
  · rw [pk_un (by omega), pk_un (by omega), pk_us]
  · rw [pk_un (by omega), pk_us]
  · rw [pk_us]
theorem isFull_eq {N k : Nat} (hN : N < 1000) (hk : k < 1000) : f_X5_isFull N (nI k) = some (if (k + 1) * 4 ≤ N then 0 else 1) := by
  unfold f_X5_isFull
  have e : (nI k + (1 : Int32)) * (4 : Int32) = nI ((k + 1) * 4) := by
    rw [nI_1, show (4 : Int32) = nI 4 from rfl, pk_mul]
  rw [e]
  by_cases h : (k + 1) * 4 ≤ N
  · rw [if_pos h]; exact ip (nI_le h (by omega)) rfl
  · rw [if_neg h]; exact ino (nI_ge (a := N) (b := (k + 1) * 4) (by omega) (by omega)) rfl
theorem rowsAdd_eq {N k : Nat} {f : Nat → Int32} {a b c d : Int32} (hN : N < 1000) (hk : (k + 1) * 4 ≤ N) : f_X5_add N (nI k) f a b c d = some (nI (k + 1), upd4 f (4 * k) a b c d) := by
  unfold f_X5_add
  have hf : f_X5_isFull N (nI k) = some 0 := by rw [isFull_eq hN (by omega), if_pos hk]
  refine b_some hf ?_
  have e : nI k * (4 : Int32) = nI (4 * k) := by rw [show (4 : Int32) = nI 4 from rfl, pk_mul, Nat.mul_comm]
  rw [e, show (1 : Int32) = nI 1 from rfl, show (2 : Int32) = nI 2 from rfl, show (3 : Int32) = nI 3 from rfl, nI_add, nI_add, nI_add, nI_add]
  refine ip rfl (ino (vp_in_nI (by omega) (by omega)) (ino (vp_in_nI (by omega) (by omega)) (ino (vp_in_nI (by omega) (by omega)) (ino (vp_in_nI (by omega) (by omega)) ?_))))
  rw [nI_clamp (by omega), nI_clamp (by omega), nI_clamp (by omega), nI_clamp (by omega)]
  rfl
theorem cell_eq {N i j : Nat} {f : Nat → Int32} (hN : N < 1000) (h : 4 * i + j < N) : f_X5_cell N f (nI i) (nI j) = some (f (4 * i + j)) := by
  unfold f_X5_cell
  have e : nI i * (4 : Int32) + nI j = nI (4 * i + j) := by rw [show (4 : Int32) = nI 4 from rfl, pk_mul, nI_add, Nat.mul_comm]
  rw [e]
  have hb : f_X10_isBelow (nI (4 * i + j)) (Int32.ofNat N) = some 1 := by
    unfold f_X10_isBelow
    exact ino (nI_pos (by omega)) (ino (nI_ge (b := N) h (by omega)) rfl)
  refine b_some hb (ino i10 (ino (vp_in_nI h (by omega)) ?_))
  rw [nI_clamp (by omega)]
theorem drop_eq {f : Nat → Int32} : f_X5_dropFirst 32 (nI 8) f = some (nI 7, va_cpy f f 4 0 28) := by
  unfold f_X5_dropFirst
  exact ino (by decide) (ino (by decide) rfl)
theorem remember_ok {np : Nat} (h : np ≤ 8) (sec left gs wr : Int32) (f : Nat → Int32) : ∃ f2, f_X7_remember sec left gs wr (nI np) f = some (nI (nx np), f2) ∧ (∀ k, k < nx np - 1 → ∀ j, j < 4 → f2 (4 * k + j) = f (4 * (k + dl np) + j)) ∧ f2 (4 * (nx np - 1)) = left ∧ f2 (4 * (nx np - 1) + 1) = gs ∧ f2 (4 * (nx np - 1) + 2) = wr ∧ f2 (4 * (nx np - 1) + 3) = sec := by
  by_cases h8 : np = 8
  · subst h8
    refine ⟨upd4 (va_cpy f f 4 0 28) 28 left gs wr sec, ?_, ?_, upd4_at _ 28 _ _ _ _⟩
    · unfold f_X7_remember
      refine b_some (isFull_eq (by decide) (by decide)) (ino (by decide) (b_some drop_eq ?_))
      unfold J_X7_remember_17
      exact b_some (rowsAdd_eq (N := 32) (k := 7) (by decide) (by decide)) rfl
    · intro k hk j hj
      have hk : k < 7 := hk
      rw [upd4_lo (by omega), pk_cpy_in (by omega) (by omega)]
      show f (4 + (4 * k + j - 0)) = f (4 * (k + 1) + j)
      congr 1
      omega
  · have hx : nx np = np + 1 := by unfold nx; rw [if_neg h8]
    have hd : dl np = 0 := by unfold dl; rw [if_neg h8]
    rw [hx, hd]
    refine ⟨upd4 f (4 * np) left gs wr sec, ?_, ?_, ?_⟩
    · unfold f_X7_remember
      have hf : f_X5_isFull 32 (nI np) = some 0 := by rw [isFull_eq (by decide) (by omega), if_pos (by omega)]
      refine b_some hf (ip rfl ?_)
      unfold J_X7_remember_17
      exact b_some (rowsAdd_eq (N := 32) (k := np) (by decide) (by omega)) rfl
    · intro k hk j hj
      rw [upd4_lo (by omega)]
      rfl
    · exact upd4_at _ (4 * np) _ _ _ _
theorem lays_eq {i : Nat} {sec gs left wr : Int32} {f : Nat → Int32} (h : i + 3 < 32) : f_X11_lays_m_ahead sec gs left wr f (nI i) = some (upd4 f i gs left wr sec) := by
  unfold f_X11_lays_m_ahead
  rw [show (1 : Int32) = nI 1 from rfl, show (2 : Int32) = nI 2 from rfl, show (3 : Int32) = nI 3 from rfl, nI_add, nI_add, nI_add]
  refine ino (vp_in_nI (by omega) (by omega)) (ino (vp_in_nI (by omega) (by omega)) (ino (vp_in_nI (by omega) (by omega)) (ino (vp_in_nI (by omega) (by omega)) ?_)))
  rw [nI_clamp (by omega), nI_clamp (by omega), nI_clamp (by omega), nI_clamp (by omega)]
  rfl
/-- the rows moved down by one place of four -/
def sh4 (f : Nat → Int32) : Nat → (Nat → Int32)
  | 0 => f
  | n + 1 => upd (sh4 f n) n (sh4 f n (n + 4))
theorem sh4_hi (f : Nat → Int32) : ∀ (n j : Nat), n ≤ j → sh4 f n j = f j
  | 0, j, _ => rfl
  | n + 1, j, h => by
    show upd (sh4 f n) n _ j = f j
    rw [pk_un (by omega)]
    exact sh4_hi f n j (by omega)
theorem sh4_lo (f : Nat → Int32) : ∀ (n j : Nat), j < n → sh4 f n j = f (j + 4)
  | 0, j, h => absurd h (by omega)
  | n + 1, j, h => by
    show upd (sh4 f n) n _ j = f (j + 4)
    by_cases e : j = n
    · subst e
      rw [pk_us]
      exact sh4_hi f j (j + 4) (by omega)
    · rw [pk_un e]
      exact sh4_lo f n j (by omega)
theorem notes_ok {np : Nat} (h : np ≤ 8) (sec left gs wr : Int32) (f : Nat → Int32) : ∃ f2, f_X11_notes sec gs left wr (nI np) f = some (nI (nx np), f2) ∧ (∀ k, k < nx np - 1 → ∀ j, j < 4 → f2 (4 * k + j) = f (4 * (k + dl np) + j)) ∧ f2 (4 * (nx np - 1)) = gs ∧ f2 (4 * (nx np - 1) + 1) = left ∧ f2 (4 * (nx np - 1) + 2) = wr ∧ f2 (4 * (nx np - 1) + 3) = sec := by
  have e4 : ∀ k : Nat, (4 : Int32) * nI k = nI (4 * k) := fun k => by rw [show (4 : Int32) = nI 4 from rfl, pk_mul]
  by_cases h8 : np = 8
  · subst h8
    refine ⟨upd4 (sh4 f 28) 28 gs left wr sec, ?_, ?_, upd4_at _ 28 _ _ _ _⟩
    · unfold f_X11_notes
      refine ip (by decide) (b_some (lp_run (o := sh4 f 28) (fun i => (nI i, sh4 f i)) 28 rfl (by decide) (fun i hi => ?_) ?_) ?_)
      · show B_X11_notes_11 (nI i) (sh4 f i) = _
        unfold B_X11_notes_11
        rw [show (4 : Int32) = nI 4 from rfl, nI_add]
        refine ino (nI_ge (b := 28) hi (by decide)) (ino (vp_in_nI (by omega) (by omega)) (ino (vp_in_nI (by omega) (by omega)) ?_))
        rw [nI_clamp (by omega), nI_clamp (by omega), nI_1]
        rfl
      · show B_X11_notes_11 (nI 28) (sh4 f 28) = _
        unfold B_X11_notes_11
        exact ip (by decide) rfl
      · unfold J_X11_notes_47
        rw [show nI 8 - (1 : Int32) = nI 7 from by decide, e4]
        exact b_some (lays_eq (by decide)) rfl
    · intro k hk j hj
      have hk : k < 7 := hk
      rw [upd4_lo (by omega), sh4_lo f 28 _ (by omega)]
      show f (4 * k + j + 4) = f (4 * (k + 1) + j)
      congr 1
      omega
  · have hx : nx np = np + 1 := by unfold nx; rw [if_neg h8]
    have hd : dl np = 0 := by unfold dl; rw [if_neg h8]
    rw [hx, hd]
    refine ⟨upd4 f (4 * np) gs left wr sec, ?_, ?_, ?_⟩
    · unfold f_X11_notes
      refine ino (fun e => h8 ((nI_eq (b := 8) (by omega) (by decide)).mp e)) ?_
      unfold J_X11_notes_47
      rw [e4, nI_1]
      exact b_some (lays_eq (by omega)) rfl
    · intro k hk j hj
      rw [upd4_lo (by omega)]
      rfl
    · exact upd4_at _ (4 * np) _ _ _ _
/-- the rows of what may be undone, on both sides -/
def PastR (cd : Nat → Nat) (n np : Nat) (p_size undoMany : Int32) (p_cells ahead : Nat → Int32) : Prop := np ≤ 8 ∧ p_size = nI np ∧ undoMany = nI np ∧ ∀ k, k < np → ∃ a b d : Nat, a < 2 ^ n ∧ GsOK cd a b ∧ d < 8 ∧ (d < n ∨ d = 0) ∧ (p_cells (4 * k) = nI a ∧ p_cells (4 * k + 1) = nI b ∧ p_cells (4 * k + 3) = nI d) ∧ (ahead (4 * k + 1) = nI a ∧ ahead (4 * k) = nI b ∧ ahead (4 * k + 3) = nI d) ∧ p_cells (4 * k + 2) = ahead (4 * k + 2)
theorem past_push {cd : Nat → Nat} {n np : Nat} {p_size undoMany : Int32} {p_cells ahead : Nat → Int32} (h : PastR cd n np p_size undoMany p_cells ahead) {lf gs sc : Nat} (h1 : lf < 2 ^ n) (h2 : GsOK cd lf gs) (h3 : sc < 8) (h4 : sc < n ∨ sc = 0) (wr : Int32) : ∃ f g, f_X7_remember (nI sc) (nI lf) (nI gs) wr p_size p_cells = some (nI (nx np), f) ∧ f_X11_notes (nI sc) (nI gs) (nI lf) wr undoMany ahead = some (nI (nx np), g) ∧ PastR cd n (nx np) (nI (nx np)) (nI (nx np)) f g := by
  obtain ⟨hn, rfl, rfl, hr⟩ := h
  obtain ⟨f, e1, fk, f0, f1, f2, f3⟩ := remember_ok hn (nI sc) (nI lf) (nI gs) wr p_cells
  obtain ⟨g, e2, gk, g0, g1, g2, g3⟩ := notes_ok hn (nI sc) (nI lf) (nI gs) wr ahead
  refine ⟨f, g, e1, e2, by unfold nx; split <;> omega, rfl, rfl, fun k hk => ?_⟩
  by_cases hl : k = nx np - 1
  · rw [hl]
    exact ⟨lf, gs, sc, h1, h2, h3, h4, ⟨f0, f1, f3⟩, ⟨g1, g0, g3⟩, by rw [f2, g2]⟩
  · have hk2 : k < nx np - 1 := by omega
    have hk3 : k + dl np < np := by
      unfold nx at hk hk2
      unfold dl
      split at hk2 <;> split <;> omega
    obtain ⟨a, b, d, b1, b2, b3, b4, ⟨b5, b6, b7⟩, ⟨b8, b9, b10⟩, b11⟩ := hr (k + dl np) hk3
    refine ⟨a, b, d, b1, b2, b3, b4, ⟨?_, ?_, ?_⟩, ⟨?_, ?_, ?_⟩, ?_⟩
    · exact (fk k hk2 0 (by decide)).trans b5
    · exact (fk k hk2 1 (by decide)).trans b6
    · exact (fk k hk2 3 (by decide)).trans b7
    · exact (gk k hk2 1 (by decide)).trans b8
    · exact (gk k hk2 0 (by decide)).trans b9
    · exact (gk k hk2 3 (by decide)).trans b10
    · exact ((fk k hk2 2 (by decide)).trans b11).trans (gk k hk2 2 (by decide)).symm
