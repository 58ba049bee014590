/-! the digest's first loop; all of a table, one word more -/
theorem dg6 {t_kind t_secret t_w_size : Int32} {t_w_codes t_w_masks t_w_alike t_w_havers : Nat → Int32} {t_g_left t_g_guessed t_g_wrong t_n_size : Int32} {t_n_cells : Nat → Int32} {t_m_size : Int32} {t_m_cells : Nat → Int32} {t_p_size : Int32} {t_p_cells : Nat → Int32} {words kindNow secretNow guessed left wrong noteMany markMany undoMany : Int32} {codes noted marked ahead : Nat → Int32} {k_size : Int32} {k_bytes : Nat → Int32} {typed : Int32} {text : Nat → Int32}
    (hT : TabR t_kind t_secret t_w_size t_w_codes t_w_masks t_w_alike t_w_havers t_g_left t_g_guessed t_g_wrong t_n_size t_n_cells t_m_size t_m_cells t_p_size t_p_cells words kindNow secretNow guessed left wrong noteMany markMany undoMany codes noted marked ahead) (hX : TxtR k_size k_bytes typed text) :
    ∃ o p, lp (fun v => B_X10_digest_6 t_kind t_secret t_w_size t_g_left t_g_guessed t_g_wrong t_n_size t_m_size t_p_size k_size v.1 v.2) KN ((1823 : Int64), (0 : Int32)) = some o ∧ lp (fun v => B_X11_digest_6 words kindNow secretNow guessed left wrong noteMany markMany typed undoMany v.1 v.2) KN ((1823 : Int64), (0 : Int32)) = some p ∧ o = p := by
  refine lp_sim (fun i v w => v = w ∧ ∃ h, v = (h, nI i)) _ 10 (by decide) ⟨rfl, _, rfl⟩ (fun i v w hi hv => ?_) (fun v w hv => ?_)
  · obtain ⟨rfl, h, rfl⟩ := hv
    obtain ⟨r, e1, e2⟩ := howMany_eq hT hX hi
    have ge : ¬ (10 : Int32) ≤ nI i := nI_ge (b := 10) hi (by decide)
    exact Or.inl ⟨_, _, ino ge (b_some e1 rfl), ino ge (b_some e2 rfl), rfl, (31 : Int64) * h + r.toInt64, by rw [← nI_1]⟩
  · obtain ⟨rfl, h, rfl⟩ := hv
    have z : (10 : Int32) ≤ nI 10 := by decide
    exact ⟨_, _, ip z rfl, ip z rfl, rfl⟩
theorem pow_mono {a n m : Nat} (h : a < 2 ^ n) (hm : n ≤ m) : a < 2 ^ m := Nat.lt_of_lt_of_le h (Nat.pow_le_pow_right (by decide) hm)
theorem tab_add {kind secret w_size : Int32} {w_codes w_masks w_alike w_havers : Nat → Int32} {g_left g_guessed g_wrong n_size : Int32} {n_cells : Nat → Int32} {m_size : Int32} {m_cells : Nat → Int32} {p_size : Int32} {p_cells : Nat → Int32} {words kindNow secretNow guessed left wrong noteMany markMany undoMany : Int32} {codes noted marked ahead : Nat → Int32} {n : Nat} {c : Nat} {cd : Nat → Nat} {ms al hv : Nat → Int32}
    (hT : TabR kind secret w_size w_codes w_masks w_alike w_havers g_left g_guessed g_wrong n_size n_cells m_size m_cells p_size p_cells words kindNow secretNow guessed left wrong noteMany markMany undoMany codes noted marked ahead) (hn : n < 8) (hw : w_size = nI n) (hW : WordsOK (n + 1) (cdP cd n c) (upd w_codes n (nI c)) ms al hv) (hc : ∀ w, w < n → codes w = nI (cd w)) :
    TabR kind secret (nI (n + 1)) (upd w_codes n (nI c)) ms al hv (nI (2 ^ (n + 1) - 1)) 0 0 n_size n_cells m_size m_cells 0 p_cells (nI (n + 1)) kindNow secretNow 0 (nI (2 ^ (n + 1) - 1)) 0 noteMany markMany 0 (upd codes n (nI c)) noted marked ahead := by
  obtain ⟨n2, kd, sc, lf, gs, nn, nm, np, cd2, a1, a2, a3, a4, a5, a6, a7, a8, a9, a10⟩ := hT
  obtain ⟨hn2, e, -⟩ := a1
  rw [hw] at e
  have e := (nI_eq (by omega) (by omega)).mp e
  subst e
  have hp := Nat.two_pow_pos (n + 1)
  refine ⟨n + 1, kd, sc, 2 ^ (n + 1) - 1, 0, nn, nm, 0, cdP cd n c, ⟨by omega, rfl, rfl⟩, ⟨hW, fun w hw2 => ?_⟩, a3, ⟨a4.1, by omega, a4.2.2⟩, ⟨by omega, rfl, rfl⟩, ⟨gs_0 _ _, rfl, rfl⟩, rfl, ⟨a8.1, a8.2.1, a8.2.2.1, fun k hk => ?_⟩, ⟨a9.1, a9.2.1, a9.2.2.1, fun k hk => ?_⟩, by decide, rfl, rfl, fun k hk => absurd hk (by omega)⟩
  · by_cases z : w = n
    · subst z; rw [pk_us, cdP_n]
    · rw [pk_un z, cdP_o (by omega)]
      exact hc w (by omega)
  · obtain ⟨a, b, x, d, b1, b2, b3⟩ := a8.2.2.2 k hk
    exact ⟨a, b, x, d, b1, pow_mono b2 (by omega), b3⟩
  · obtain ⟨a, b, x, b1, b2, b3⟩ := a9.2.2.2 k hk
    exact ⟨a, b, x, b1, pow_mono b2 (by omega), b3⟩
theorem masks_add {n c : Nat} {cd : Nat → Nat} {codes masks ms : Nat → Int32} (hn : n < 8) (hc : c < 10000) (h4 : ∀ w, w < n → cd w < 10000) (hco : ∀ w, w < n → codes w = nI (cd w)) (hM : ∀ w, w < (nI n).toNatClampNeg → ∀ l, l < 10 → masks (10 * w + l) = nI (mkm (codes w).toNatClampNeg l)) (h1 : ∀ t, t / 10 ≠ n → ms t = masks t) (h2 : ∀ l, l < 10 → ms (10 * n + l) = nI (mkm c l)) : ∀ w, w < (nI (n + 1)).toNatClampNeg → ∀ l, l < 10 → ms (10 * w + l) = nI (mkm (upd codes n (nI c) w).toNatClampNeg l) := by
  rw [nI_clamp (by omega)] at hM
  rw [nI_clamp (by omega)]
  intro w hw l hl
  by_cases z : w = n
  · subst z
    rw [pk_us, nI_clamp (by omega)]
    exact h2 l hl
  · rw [pk_un z, h1 _ (by omega)]
    exact hM w (by omega) l hl
theorem cells4 {n nn : Nat} {n_cells noted : Nat → Int32} (h : ∀ k, k < nn → ∃ a b c d : Nat, 1 ≤ a ∧ a < 2 ^ n ∧ b < 10 ∧ c < 10 ∧ d < 16 ∧ (n_cells (4 * k) = nI a ∧ n_cells (4 * k + 1) = nI b ∧ n_cells (4 * k + 2) = nI c ∧ n_cells (4 * k + 3) = nI d) ∧ (noted (4 * k) = nI a ∧ noted (4 * k + 1) = nI b ∧ noted (4 * k + 2) = nI c ∧ noted (4 * k + 3) = nI d)) : ∀ t, t < 4 * nn → (fun t => n_cells (4 * (t / 4) + t % 4)) t = noted t := by
  intro t ht
  show n_cells (4 * (t / 4) + t % 4) = noted t
  obtain ⟨a, b, c, d, -, -, -, -, -, ⟨p0, p1, p2, p3⟩, q0, q1, q2, q3⟩ := h (t / 4) (by omega)
  have e : t = 4 * (t / 4) + t % 4 := by omega
  have : noted t = noted (4 * (t / 4) + t % 4) := congrArg noted e
  rw [this]
  rcases (show t % 4 = 0 ∨ t % 4 = 1 ∨ t % 4 = 2 ∨ t % 4 = 3 by omega) with z | z | z | z <;> rw [z]
  · rw [Nat.add_zero, p0, q0]
  · rw [p1, q1]
  · rw [p2, q2]
  · rw [p3, q3]
theorem cells3 {n nm : Nat} {m_cells marked : Nat → Int32} (h : ∀ k, k < nm → ∃ a b c : Nat, 1 ≤ a ∧ a < 2 ^ n ∧ b < 1024 ∧ c < 10 ∧ (m_cells (4 * k) = nI a ∧ m_cells (4 * k + 1) = nI b ∧ m_cells (4 * k + 2) = nI c) ∧ (marked (3 * k) = nI a ∧ marked (3 * k + 1) = nI b ∧ marked (3 * k + 2) = nI c)) : ∀ t, t < 3 * nm → (fun t => m_cells (4 * (t / 3) + t % 3)) t = marked t := by
  intro t ht
  show m_cells (4 * (t / 3) + t % 3) = marked t
  obtain ⟨a, b, c, -, -, -, -, ⟨p0, p1, p2⟩, q0, q1, q2⟩ := h (t / 3) (by omega)
  have e : t = 3 * (t / 3) + t % 3 := by omega
  have : marked t = marked (3 * (t / 3) + t % 3) := congrArg marked e
  rw [this]
  rcases (show t % 3 = 0 ∨ t % 3 = 1 ∨ t % 3 = 2 by omega) with z | z | z <;> rw [z]
  · rw [Nat.add_zero, Nat.add_zero, p0, q0]
  · rw [p1, q1]
  · rw [p2, q2]
