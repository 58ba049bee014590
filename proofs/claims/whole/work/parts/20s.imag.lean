/-! images: what is laid, what is taken -/
theorem TabR.cong {kind secret w_size : Int32} {w_codes w_masks w_alike w_havers : Nat → Int32} {g_left g_guessed g_wrong n_size : Int32} {n_cells : Nat → Int32} {m_size : Int32} {m_cells : Nat → Int32} {p_size : Int32} {p_cells : Nat → Int32} {words kindNow secretNow guessed left wrong noteMany markMany undoMany : Int32} {codes noted marked ahead : Nat → Int32} {w_codes' w_masks' w_alike' w_havers' n_cells' m_cells' p_cells' codes' noted' marked' ahead' : Nat → Int32} (hT : TabR kind secret w_size w_codes w_masks w_alike w_havers g_left g_guessed g_wrong n_size n_cells m_size m_cells p_size p_cells words kindNow secretNow guessed left wrong noteMany markMany undoMany codes noted marked ahead) (h_w_codes : ∀ t, t < 8 → w_codes' t = w_codes t) (h_w_masks : ∀ t, t < 80 → w_masks' t = w_masks t) (h_w_alike : ∀ t, t < 80 → w_alike' t = w_alike t) (h_w_havers : ∀ t, t < 10 → w_havers' t = w_havers t) (h_n_cells : ∀ t, t < 24 → n_cells' t = n_cells t) (h_m_cells : ∀ t, t < 24 → m_cells' t = m_cells t) (h_p_cells : ∀ t, t < 32 → p_cells' t = p_cells t) (h_codes : ∀ t, t < 8 → codes' t = codes t) (h_noted : ∀ t, t < 24 → noted' t = noted t) (h_marked : ∀ t, t < 18 → marked' t = marked t) (h_ahead : ∀ t, t < 32 → ahead' t = ahead t) : TabR kind secret w_size w_codes' w_masks' w_alike' w_havers' g_left g_guessed g_wrong n_size n_cells' m_size m_cells' p_size p_cells' words kindNow secretNow guessed left wrong noteMany markMany undoMany codes' noted' marked' ahead' := by
  obtain ⟨n, kd, sc, lf, gs, nn, nm, np, cd, a1, a2, a3, a4, a5, a6, a7, a8, a9, a10⟩ := hT
  have hn := a1.1
  have b8 := a8.1
  have b9 := a9.1
  have b10 := a10.1
  refine ⟨n, kd, sc, lf, gs, nn, nm, np, cd, a1, ⟨⟨fun w hw => ?_, fun w hw l hl => ?_, fun w hw l hl => ?_, fun l hl => ?_, a2.1.2.2.2.2⟩, fun w hw => ?_⟩, a3, a4, a5, a6, a7, ⟨a8.1, a8.2.1, a8.2.2.1, fun k hk => ?_⟩, ⟨a9.1, a9.2.1, a9.2.2.1, fun k hk => ?_⟩, a10.1, a10.2.1, a10.2.2.1, fun k hk => ?_⟩
  · rw [h_w_codes w (by omega)]
    exact a2.1.1 w hw
  · rw [h_w_masks _ (by omega)]
    exact a2.1.2.1 w hw l hl
  · rw [h_w_alike _ (by omega)]
    exact a2.1.2.2.1 w hw l hl
  · rw [h_w_havers l hl]
    exact a2.1.2.2.2.1 l hl
  · rw [h_codes w (by omega)]
    exact a2.2 w hw
  · obtain ⟨a, b, x, d, b1, b2, b3, b4, b5, b6, b7⟩ := a8.2.2.2 k hk
    refine ⟨a, b, x, d, b1, b2, b3, b4, b5, ?_, ?_⟩
    · rw [h_n_cells _ (by omega), h_n_cells _ (by omega), h_n_cells _ (by omega), h_n_cells _ (by omega)]
      exact b6
    · rw [h_noted _ (by omega), h_noted _ (by omega), h_noted _ (by omega), h_noted _ (by omega)]
      exact b7
  · obtain ⟨a, b, x, b1, b2, b3, b4, b6, b7⟩ := a9.2.2.2 k hk
    refine ⟨a, b, x, b1, b2, b3, b4, ?_, ?_⟩
    · rw [h_m_cells _ (by omega), h_m_cells _ (by omega), h_m_cells _ (by omega)]
      exact b6
    · rw [h_marked _ (by omega), h_marked _ (by omega), h_marked _ (by omega)]
      exact b7
  · obtain ⟨a, b, d, b1, b2, b3, b4, b5, b6, b7⟩ := a10.2.2.2 k hk
    refine ⟨a, b, d, b1, b2, b3, b4, ?_, ?_, ?_⟩
    · rw [h_p_cells _ (by omega), h_p_cells _ (by omega), h_p_cells _ (by omega)]
      exact b5
    · rw [h_ahead _ (by omega), h_ahead _ (by omega), h_ahead _ (by omega)]
      exact b6
    · rw [h_p_cells _ (by omega), h_ahead _ (by omega)]
      exact b7
theorem copyFrom_eq (x1 x2 x3 x4 x5 x6 x7 : Nat → Int32) (k s sz : Int32) (c m a h : Nat → Int32) (l g w ns : Int32) (nc : Nat → Int32) (ms : Int32) (mc : Nat → Int32) (ps : Int32) (pc : Nat → Int32) : f_X7_copyFrom x1 x2 x3 x4 x5 x6 x7 k s sz c m a h l g w ns nc ms mc ps pc = some (k, s, sz, va_cpy c x1 0 0 8, va_cpy m x2 0 0 80, va_cpy a x3 0 0 80, va_cpy h x4 0 0 10, l, g, w, ns, va_cpy nc x5 0 0 24, ms, va_cpy mc x6 0 0 24, ps, va_cpy pc x7 0 0 32) := by
  have q : ∀ (N : Nat) (x y : Nat → Int32) (s : Int32), (N = 24 ∨ N = 32) → f_X5_copyFrom N N x s y = some (s, va_cpy y x 0 0 N) := fun N x y s hN => by
    unfold f_X5_copyFrom
    rcases hN with rfl | rfl <;> exact ino (by decide) rfl
  unfold f_X7_copyFrom
  refine b_some (x := (sz, va_cpy c x1 0 0 8, va_cpy m x2 0 0 80, va_cpy a x3 0 0 80, va_cpy h x4 0 0 10)) ?_ (b_some rfl (b_some (q 24 x5 nc ns (Or.inl rfl)) (b_some (q 24 x6 mc ms (Or.inl rfl)) (b_some (q 32 x7 pc ps (Or.inr rfl)) rfl))))
  unfold f_X9_copyFrom
  exact ino (by decide) (ino (by decide) (ino (by decide) (ino (by decide) rfl)))
theorem cpy_at {f g : Nat → Int32} {n t : Nat} (h : t < n) : va_cpy f g 0 0 n t = f t := by
  rw [pk_cpy_in (by omega) (by omega)]
  congr 1
  omega
/-- a row laid into another, from a place on -/
def cpyN (g f : Nat → Int32) (p : Nat) : Nat → (Nat → Int32)
  | 0 => g
  | k + 1 => upd (cpyN g f p k) (p + k) (f k)
theorem cpyN_in {g f : Nat → Int32} {p : Nat} : ∀ {k j : Nat}, j < k → cpyN g f p k (p + j) = f j
  | 0, j, h => absurd h (by omega)
  | k + 1, j, h => by
    show upd (cpyN g f p k) (p + k) (f k) (p + j) = f j
    by_cases e : j = k
    · subst e; exact pk_us
    · rw [pk_un (by omega)]; exact cpyN_in (by omega)
theorem cpyN_out {g f : Nat → Int32} {p : Nat} : ∀ {k t : Nat}, (t < p ∨ p + k ≤ t) → cpyN g f p k t = g t
  | 0, t, _ => rfl
  | k + 1, t, h => by
    show upd (cpyN g f p k) (p + k) (f k) t = g t
    rw [pk_un (by omega)]
    exact cpyN_out (by omega)
/-- a row taken -/
def cpT (g f : Nat → Int32) : Nat → (Nat → Int32)
  | 0 => g
  | k + 1 => upd (cpT g f k) k (f k)
theorem cpT_at {g f : Nat → Int32} : ∀ {k j : Nat}, j < k → cpT g f k j = f j
  | 0, j, h => absurd h (by omega)
  | k + 1, j, h => by
    show upd (cpT g f k) k (f k) j = f j
    by_cases e : j = k
    · subst e; exact pk_us
    · rw [pk_un e]; exact cpT_at (by omega)
theorem lay60_m_images {b : Nat} (hb : b + 92 ≤ 184) (f g : Nat → Int32) : lp (fun v => B_X11_layAll_m_images_60 f (nI b) v.1 v.2) KN ((0 : Int32), g) = some (cpyN g f (b + 10) 8) := by
  refine lp_run (fun k => (nI k, cpyN g f (b + 10) k)) 8 rfl (by decide) (fun k hk => ?_) ?_
  · show B_X11_layAll_m_images_60 f (nI b) (nI k) (cpyN g f (b + 10) k) = some (.inl (nI (k + 1), upd (cpyN g f (b + 10) k) (b + 10 + k) (f k)))
    unfold B_X11_layAll_m_images_60
    rw [show nI b + (10 : Int32) + nI k = nI (b + 10 + k) from by rw [show (10 : Int32) = nI 10 from rfl, nI_add, nI_add], nI_1]
    refine ino (nI_ge (b := 8) hk (by decide)) (ino (vp_in_nI hk (by decide)) (ino (vp_in_nI (by omega) (by decide)) ?_))
    rw [nI_clamp (by omega), nI_clamp (by omega)]
  · show B_X11_layAll_m_images_60 f (nI b) (nI 8) _ = _
    unfold B_X11_layAll_m_images_60
    exact ip (by decide) rfl
theorem lay88_m_images {b : Nat} (hb : b + 92 ≤ 184) (f g : Nat → Int32) : lp (fun v => B_X11_layAll_m_images_88 f (nI b) v.1 v.2) KN ((0 : Int32), g) = some (cpyN g f (b + 18) 24) := by
  refine lp_run (fun k => (nI k, cpyN g f (b + 18) k)) 24 rfl (by decide) (fun k hk => ?_) ?_
  · show B_X11_layAll_m_images_88 f (nI b) (nI k) (cpyN g f (b + 18) k) = some (.inl (nI (k + 1), upd (cpyN g f (b + 18) k) (b + 18 + k) (f k)))
    unfold B_X11_layAll_m_images_88
    rw [show nI b + (18 : Int32) + nI k = nI (b + 18 + k) from by rw [show (18 : Int32) = nI 18 from rfl, nI_add, nI_add], nI_1]
    refine ino (nI_ge (b := 24) hk (by decide)) (ino (vp_in_nI hk (by decide)) (ino (vp_in_nI (by omega) (by decide)) ?_))
    rw [nI_clamp (by omega), nI_clamp (by omega)]
  · show B_X11_layAll_m_images_88 f (nI b) (nI 24) _ = _
    unfold B_X11_layAll_m_images_88
    exact ip (by decide) rfl
theorem lay116_m_images {b : Nat} (hb : b + 92 ≤ 184) (f g : Nat → Int32) : lp (fun v => B_X11_layAll_m_images_116 f (nI b) v.1 v.2) KN ((0 : Int32), g) = some (cpyN g f (b + 42) 18) := by
  refine lp_run (fun k => (nI k, cpyN g f (b + 42) k)) 18 rfl (by decide) (fun k hk => ?_) ?_
  · show B_X11_layAll_m_images_116 f (nI b) (nI k) (cpyN g f (b + 42) k) = some (.inl (nI (k + 1), upd (cpyN g f (b + 42) k) (b + 42 + k) (f k)))
    unfold B_X11_layAll_m_images_116
    rw [show nI b + (42 : Int32) + nI k = nI (b + 42 + k) from by rw [show (42 : Int32) = nI 42 from rfl, nI_add, nI_add], nI_1]
    refine ino (nI_ge (b := 18) hk (by decide)) (ino (vp_in_nI hk (by decide)) (ino (vp_in_nI (by omega) (by decide)) ?_))
    rw [nI_clamp (by omega), nI_clamp (by omega)]
  · show B_X11_layAll_m_images_116 f (nI b) (nI 18) _ = _
    unfold B_X11_layAll_m_images_116
    exact ip (by decide) rfl
theorem lay144_m_images {b : Nat} (hb : b + 92 ≤ 184) (f g : Nat → Int32) : lp (fun v => B_X11_layAll_m_images_144 f (nI b) v.1 v.2) KN ((0 : Int32), g) = some (cpyN g f (b + 60) 32) := by
  refine lp_run (fun k => (nI k, cpyN g f (b + 60) k)) 32 rfl (by decide) (fun k hk => ?_) ?_
  · show B_X11_layAll_m_images_144 f (nI b) (nI k) (cpyN g f (b + 60) k) = some (.inl (nI (k + 1), upd (cpyN g f (b + 60) k) (b + 60 + k) (f k)))
    unfold B_X11_layAll_m_images_144
    rw [show nI b + (60 : Int32) + nI k = nI (b + 60 + k) from by rw [show (60 : Int32) = nI 60 from rfl, nI_add, nI_add], nI_1]
    refine ino (nI_ge (b := 32) hk (by decide)) (ino (vp_in_nI hk (by decide)) (ino (vp_in_nI (by omega) (by decide)) ?_))
    rw [nI_clamp (by omega), nI_clamp (by omega)]
  · show B_X11_layAll_m_images_144 f (nI b) (nI 32) _ = _
    unfold B_X11_layAll_m_images_144
    exact ip (by decide) rfl
theorem tak89_m_images {b : Nat} (hb : b + 92 ≤ 184) (f g : Nat → Int32) : lp (fun v => B_X11_takeAll_m_images_89 f (nI b) v.1 v.2) KN ((0 : Int32), g) = some (cpT g (fun k => f (b + 18 + k)) 24) := by
  refine lp_run (fun k => (nI k, cpT g (fun k => f (b + 18 + k)) k)) 24 rfl (by decide) (fun k hk => ?_) ?_
  · show B_X11_takeAll_m_images_89 f (nI b) (nI k) (cpT g (fun k => f (b + 18 + k)) k) = some (.inl (nI (k + 1), upd (cpT g (fun k => f (b + 18 + k)) k) k (f (b + 18 + k))))
    unfold B_X11_takeAll_m_images_89
    rw [show nI b + (18 : Int32) + nI k = nI (b + 18 + k) from by rw [show (18 : Int32) = nI 18 from rfl, nI_add, nI_add], nI_1]
    refine ino (nI_ge (b := 24) hk (by decide)) (ino (vp_in_nI (by omega) (by decide)) (ino (vp_in_nI hk (by decide)) ?_))
    rw [nI_clamp (show k < 2 ^ 31 by omega), nI_clamp (show b + 18 + k < 2 ^ 31 by omega)]
  · show B_X11_takeAll_m_images_89 f (nI b) (nI 24) _ = _
    unfold B_X11_takeAll_m_images_89
    exact ip (by decide) rfl
theorem tak117_m_images {b : Nat} (hb : b + 92 ≤ 184) (f g : Nat → Int32) : lp (fun v => B_X11_takeAll_m_images_117 f (nI b) v.1 v.2) KN ((0 : Int32), g) = some (cpT g (fun k => f (b + 42 + k)) 18) := by
  refine lp_run (fun k => (nI k, cpT g (fun k => f (b + 42 + k)) k)) 18 rfl (by decide) (fun k hk => ?_) ?_
  · show B_X11_takeAll_m_images_117 f (nI b) (nI k) (cpT g (fun k => f (b + 42 + k)) k) = some (.inl (nI (k + 1), upd (cpT g (fun k => f (b + 42 + k)) k) k (f (b + 42 + k))))
    unfold B_X11_takeAll_m_images_117
    rw [show nI b + (42 : Int32) + nI k = nI (b + 42 + k) from by rw [show (42 : Int32) = nI 42 from rfl, nI_add, nI_add], nI_1]
    refine ino (nI_ge (b := 18) hk (by decide)) (ino (vp_in_nI (by omega) (by decide)) (ino (vp_in_nI hk (by decide)) ?_))
    rw [nI_clamp (show k < 2 ^ 31 by omega), nI_clamp (show b + 42 + k < 2 ^ 31 by omega)]
  · show B_X11_takeAll_m_images_117 f (nI b) (nI 18) _ = _
    unfold B_X11_takeAll_m_images_117
    exact ip (by decide) rfl
theorem tak145_m_images {b : Nat} (hb : b + 92 ≤ 184) (f g : Nat → Int32) : lp (fun v => B_X11_takeAll_m_images_145 f (nI b) v.1 v.2) KN ((0 : Int32), g) = some (cpT g (fun k => f (b + 60 + k)) 32) := by
  refine lp_run (fun k => (nI k, cpT g (fun k => f (b + 60 + k)) k)) 32 rfl (by decide) (fun k hk => ?_) ?_
  · show B_X11_takeAll_m_images_145 f (nI b) (nI k) (cpT g (fun k => f (b + 60 + k)) k) = some (.inl (nI (k + 1), upd (cpT g (fun k => f (b + 60 + k)) k) k (f (b + 60 + k))))
    unfold B_X11_takeAll_m_images_145
    rw [show nI b + (60 : Int32) + nI k = nI (b + 60 + k) from by rw [show (60 : Int32) = nI 60 from rfl, nI_add, nI_add], nI_1]
    refine ino (nI_ge (b := 32) hk (by decide)) (ino (vp_in_nI (by omega) (by decide)) (ino (vp_in_nI hk (by decide)) ?_))
    rw [nI_clamp (show k < 2 ^ 31 by omega), nI_clamp (show b + 60 + k < 2 ^ 31 by omega)]
  · show B_X11_takeAll_m_images_145 f (nI b) (nI 32) _ = _
    unfold B_X11_takeAll_m_images_145
    exact ip (by decide) rfl
theorem tak56_m_images {b : Nat} (hb : b + 92 ≤ 184) (f g ms : Nat → Int32) : ∃ m2, lp (fun v => B_X11_takeAll_m_images_56 f (nI b) v.1 v.2.1 v.2.2) KN ((0 : Int32), g, ms) = some (cpT g (fun k => f (b + 10 + k)) 8, m2) ∧ ∀ w, w < 8 → ∀ c, c < 10000 → f (b + 10 + w) = nI c → ∀ l, l < 10 → m2 (10 * w + l) = nI (mkm c l) := by
  have L : ∃ o, lp (fun v => B_X11_takeAll_m_images_56 f (nI b) v.1 v.2.1 v.2.2) KN ((0 : Int32), g, ms) = some o ∧ (o.1 = cpT g (fun k => f (b + 10 + k)) 8 ∧ ∀ w, w < 8 → ∀ c, c < 10000 → f (b + 10 + w) = nI c → ∀ l, l < 10 → o.2 (10 * w + l) = nI (mkm c l)) := by
    refine lp_inv (fun k v => ∃ m2, v = (nI k, cpT g (fun k => f (b + 10 + k)) k, m2) ∧ ∀ w, w < k → ∀ c, c < 10000 → f (b + 10 + w) = nI c → ∀ l, l < 10 → m2 (10 * w + l) = nI (mkm c l)) _ 8 (by decide) ⟨ms, rfl, fun w hw => absurd hw (by omega)⟩ (fun k v hk hv => ?_) (fun v hv => ?_)
    · obtain ⟨m2, rfl, h⟩ := hv
      refine Or.inl ?_
      show ∃ u, B_X11_takeAll_m_images_56 f (nI b) (nI k) (cpT g (fun k => f (b + 10 + k)) k) m2 = some (.inl u) ∧ _
      unfold B_X11_takeAll_m_images_56
      obtain ⟨m3, e, q1, q2⟩ := setMasks_eq (upd (cpT g (fun k => f (b + 10 + k)) k) k (f (b + 10 + k))) m2 hk
      rw [show nI b + (10 : Int32) + nI k = nI (b + 10 + k) from by rw [show (10 : Int32) = nI 10 from rfl, nI_add, nI_add], nI_1, if_neg (show ¬ (8 : Int32) ≤ nI k from nI_ge (b := 8) hk (by decide)), if_neg (show ¬ oob (nI (b + 10 + k)) 184 from vp_in_nI (by omega) (by decide)), if_neg (show ¬ oob (nI k) 8 from vp_in_nI hk (by decide)), nI_clamp (show k < 2 ^ 31 by omega), nI_clamp (show b + 10 + k < 2 ^ 31 by omega), e, Option.bind_some]
      refine ⟨_, rfl, m3, rfl, fun w hw c hc hf l hl => ?_⟩
      by_cases z : w = k
      · subst z
        exact q2 c hc (by rw [pk_us]; exact hf) l hl
      · rw [q1 _ (by omega)]
        exact h w (by omega) c hc hf l hl
    · obtain ⟨m2, rfl, h⟩ := hv
      exact ⟨_, ip (show (8 : Int32) ≤ nI 8 from by decide) rfl, rfl, h⟩
  obtain ⟨⟨o1, o2⟩, e, q, h⟩ := L
  have q : o1 = cpT g (fun k => f (b + 10 + k)) 8 := q
  subst q
  exact ⟨o2, e, h⟩
/-- all that is laid -/
theorem layAll_m_images {b : Nat} (hb : b + 92 ≤ 184) (wo ki se gu le wr nm mm um : Int32) (co no ma ah g : Nat → Int32) : ∃ z, f_X11_layAll_m_images wo ki se gu le wr nm mm um co no ma ah g (nI b) = some z ∧ (z b = 1 ∧ z (b + 1) = wo ∧ z (b + 2) = ki ∧ z (b + 3) = nm ∧ z (b + 4) = mm ∧ z (b + 5) = um ∧ z (b + 6) = gu ∧ z (b + 7) = le ∧ z (b + 8) = wr ∧ z (b + 9) = se) ∧ (∀ k, k < 8 → z (b + 10 + k) = co k) ∧ (∀ k, k < 24 → z (b + 18 + k) = no k) ∧ (∀ k, k < 18 → z (b + 42 + k) = ma k) ∧ (∀ k, k < 32 → z (b + 60 + k) = ah k) ∧ ∀ t, (t < b ∨ b + 92 ≤ t) → z t = g t := by
  obtain ⟨g0, hg0⟩ : ∃ g0, g0 = upd (upd (upd (upd (upd (upd g b 1) (b + 1) wo) (b + 2) ki) (b + 3) nm) (b + 4) mm) (b + 5) um := ⟨_, rfl⟩
  obtain ⟨g1, hg1⟩ : ∃ g1, g1 = upd4 g0 (b + 6) gu le wr se := ⟨_, rfl⟩
  have u4 := upd4_at g0 (b + 6) gu le wr se
  rw [← hg1] at u4
  obtain ⟨u0, u1, u2, u3⟩ := u4
  have lo : ∀ t, t < b + 6 → g1 t = g0 t := fun t ht => by rw [hg1]; exact upd4_lo ht
  have hi : ∀ t, b + 10 ≤ t → g1 t = g0 t := fun t ht => by
    rw [hg1]
    unfold upd4
    rw [pk_un (by omega), pk_un (by omega), pk_un (by omega), pk_un (by omega)]
  have v0 : ∀ t, (t < b ∨ b + 6 ≤ t) → g0 t = g t := fun t ht => by rw [hg0, pk_un (by omega), pk_un (by omega), pk_un (by omega), pk_un (by omega), pk_un (by omega), pk_un (by omega)]
  have E : ∀ t, (t < b + 10 ∨ b + 92 ≤ t) → cpyN (cpyN (cpyN (cpyN g1 co (b + 10) 8) no (b + 18) 24) ma (b + 42) 18) ah (b + 60) 32 t = g1 t := fun t ht => by rw [cpyN_out (by omega), cpyN_out (by omega), cpyN_out (by omega), cpyN_out (by omega)]
  refine ⟨cpyN (cpyN (cpyN (cpyN g1 co (b + 10) 8) no (b + 18) 24) ma (b + 42) 18) ah (b + 60) 32, ?_, ⟨?_, ?_, ?_, ?_, ?_, ?_, ?_, ?_, ?_, ?_⟩, fun k hk => ?_, fun k hk => ?_, fun k hk => ?_, fun k hk => ?_, fun t ht => ?_⟩
  · unfold f_X11_layAll_m_images
    have lays : f_X11_lays_m_images se gu le wr g0 (nI (b + 6)) = some g1 := by
      unfold f_X11_lays_m_images
      rw [show (1 : Int32) = nI 1 from rfl, show (2 : Int32) = nI 2 from rfl, show (3 : Int32) = nI 3 from rfl, nI_add, nI_add, nI_add]
      refine ino (vp_in_nI (by omega) (by omega)) (ino (vp_in_nI (by omega) (by omega)) (ino (vp_in_nI (by omega) (by omega)) (ino (vp_in_nI (by omega) (by omega)) ?_)))
      rw [nI_clamp (by omega), nI_clamp (by omega), nI_clamp (by omega), nI_clamp (by omega), hg1]
      rfl
    rw [show nI b + (1 : Int32) = nI (b + 1) from nI_add b 1, show nI b + (2 : Int32) = nI (b + 2) from nI_add b 2, show nI b + (3 : Int32) = nI (b + 3) from nI_add b 3, show nI b + (4 : Int32) = nI (b + 4) from nI_add b 4, show nI b + (5 : Int32) = nI (b + 5) from nI_add b 5, show nI b + (6 : Int32) = nI (b + 6) from nI_add b 6]
    refine ino (vp_in_nI (by omega) (by omega)) (ino (vp_in_nI (by omega) (by omega)) (ino (vp_in_nI (by omega) (by omega)) (ino (vp_in_nI (by omega) (by omega)) (ino (vp_in_nI (by omega) (by omega)) (ino (vp_in_nI (by omega) (by omega)) ?_)))))
    rw [nI_clamp (show b < 2 ^ 31 by omega), nI_clamp (show b + 1 < 2 ^ 31 by omega), nI_clamp (show b + 2 < 2 ^ 31 by omega), nI_clamp (show b + 3 < 2 ^ 31 by omega), nI_clamp (show b + 4 < 2 ^ 31 by omega), nI_clamp (show b + 5 < 2 ^ 31 by omega), ← hg0]
    exact b_some lays (b_some (lay60_m_images hb _ _) (b_some (lay88_m_images hb _ _) (b_some (lay116_m_images hb _ _) (b_some (lay144_m_images hb _ _) rfl))))
  · rw [E _ (by omega), lo _ (by omega), hg0, pk_un (by omega), pk_un (by omega), pk_un (by omega), pk_un (by omega), pk_un (by omega), pk_us]
  · rw [E _ (by omega), lo _ (by omega), hg0, pk_un (by omega), pk_un (by omega), pk_un (by omega), pk_un (by omega), pk_us]
  · rw [E _ (by omega), lo _ (by omega), hg0, pk_un (by omega), pk_un (by omega), pk_un (by omega), pk_us]
  · rw [E _ (by omega), lo _ (by omega), hg0, pk_un (by omega), pk_un (by omega), pk_us]
  · rw [E _ (by omega), lo _ (by omega), hg0, pk_un (by omega), pk_us]
  · rw [E _ (by omega), lo _ (by omega), hg0, pk_us]
  · rw [E _ (by omega)]
    exact u0
  · rw [E _ (by omega)]
    exact u1
  · rw [E _ (by omega)]
    exact u2
  · rw [E _ (by omega)]
    exact u3
  · rw [cpyN_out (by omega), cpyN_out (by omega), cpyN_out (by omega), cpyN_in hk]
  · rw [cpyN_out (by omega), cpyN_out (by omega), cpyN_in hk]
  · rw [cpyN_out (by omega), cpyN_in hk]
  · rw [cpyN_in hk]
  · rw [E _ (by omega)]
    by_cases c : t < b + 6
    · rw [lo t c, v0 t (by omega)]
    · rw [hi t (by omega), v0 t (by omega)]
/-- all that is taken -/
theorem takeAll_m_images {b : Nat} (hb : b + 92 ≤ 184) (co no ma ms ah g : Nat → Int32) : ∃ m2, f_X11_takeAll_m_images co no ma ms ah g (nI b) = some (g (b + 1), g (b + 2), g (b + 9), g (b + 6), g (b + 7), g (b + 8), g (b + 3), g (b + 4), g (b + 5), cpT co (fun k => g (b + 10 + k)) 8, cpT no (fun k => g (b + 18 + k)) 24, cpT ma (fun k => g (b + 42 + k)) 18, m2, cpT ah (fun k => g (b + 60 + k)) 32) ∧ ∀ w, w < 8 → ∀ c, c < 10000 → g (b + 10 + w) = nI c → ∀ l, l < 10 → m2 (10 * w + l) = nI (mkm c l) := by
  obtain ⟨m2, e, h⟩ := tak56_m_images hb g co ms
  refine ⟨m2, ?_, h⟩
  have tk : f_X11_takes_m_images g (nI (b + 6)) = some (g (b + 9), g (b + 6), g (b + 7), g (b + 8)) := by
    unfold f_X11_takes_m_images
    rw [show (1 : Int32) = nI 1 from rfl, show (2 : Int32) = nI 2 from rfl, show (3 : Int32) = nI 3 from rfl, nI_add, nI_add, nI_add]
    refine ino (vp_in_nI (by omega) (by omega)) (ino (vp_in_nI (by omega) (by omega)) (ino (vp_in_nI (by omega) (by omega)) (ino (vp_in_nI (by omega) (by omega)) ?_)))
    rw [nI_clamp (by omega), nI_clamp (by omega), nI_clamp (by omega), nI_clamp (by omega)]
  unfold f_X11_takeAll_m_images
  rw [show nI b + (1 : Int32) = nI (b + 1) from nI_add b 1, show nI b + (2 : Int32) = nI (b + 2) from nI_add b 2, show nI b + (3 : Int32) = nI (b + 3) from nI_add b 3, show nI b + (4 : Int32) = nI (b + 4) from nI_add b 4, show nI b + (5 : Int32) = nI (b + 5) from nI_add b 5, show nI b + (6 : Int32) = nI (b + 6) from nI_add b 6]
  refine ino (vp_in_nI (by omega) (by omega)) (ino (vp_in_nI (by omega) (by omega)) (ino (vp_in_nI (by omega) (by omega)) (ino (vp_in_nI (by omega) (by omega)) (ino (vp_in_nI (by omega) (by omega)) ?_))))
  rw [nI_clamp (show b + 1 < 2 ^ 31 by omega), nI_clamp (show b + 2 < 2 ^ 31 by omega), nI_clamp (show b + 3 < 2 ^ 31 by omega), nI_clamp (show b + 4 < 2 ^ 31 by omega), nI_clamp (show b + 5 < 2 ^ 31 by omega)]
  exact b_some tk (b_some e (b_some (tak89_m_images hb _ _) (b_some (tak117_m_images hb _ _) (b_some (tak145_m_images hb _ _) rfl))))
theorem lay60_m_before {b : Nat} (hb : b + 92 ≤ 92) (f g : Nat → Int32) : lp (fun v => B_X11_layAll_m_before_60 f (nI b) v.1 v.2) KN ((0 : Int32), g) = some (cpyN g f (b + 10) 8) := by
  refine lp_run (fun k => (nI k, cpyN g f (b + 10) k)) 8 rfl (by decide) (fun k hk => ?_) ?_
  · show B_X11_layAll_m_before_60 f (nI b) (nI k) (cpyN g f (b + 10) k) = some (.inl (nI (k + 1), upd (cpyN g f (b + 10) k) (b + 10 + k) (f k)))
    unfold B_X11_layAll_m_before_60
    rw [show nI b + (10 : Int32) + nI k = nI (b + 10 + k) from by rw [show (10 : Int32) = nI 10 from rfl, nI_add, nI_add], nI_1]
    refine ino (nI_ge (b := 8) hk (by decide)) (ino (vp_in_nI hk (by decide)) (ino (vp_in_nI (by omega) (by decide)) ?_))
    rw [nI_clamp (by omega), nI_clamp (by omega)]
  · show B_X11_layAll_m_before_60 f (nI b) (nI 8) _ = _
    unfold B_X11_layAll_m_before_60
    exact ip (by decide) rfl
theorem lay88_m_before {b : Nat} (hb : b + 92 ≤ 92) (f g : Nat → Int32) : lp (fun v => B_X11_layAll_m_before_88 f (nI b) v.1 v.2) KN ((0 : Int32), g) = some (cpyN g f (b + 18) 24) := by
  refine lp_run (fun k => (nI k, cpyN g f (b + 18) k)) 24 rfl (by decide) (fun k hk => ?_) ?_
  · show B_X11_layAll_m_before_88 f (nI b) (nI k) (cpyN g f (b + 18) k) = some (.inl (nI (k + 1), upd (cpyN g f (b + 18) k) (b + 18 + k) (f k)))
    unfold B_X11_layAll_m_before_88
    rw [show nI b + (18 : Int32) + nI k = nI (b + 18 + k) from by rw [show (18 : Int32) = nI 18 from rfl, nI_add, nI_add], nI_1]
    refine ino (nI_ge (b := 24) hk (by decide)) (ino (vp_in_nI hk (by decide)) (ino (vp_in_nI (by omega) (by decide)) ?_))
    rw [nI_clamp (by omega), nI_clamp (by omega)]
  · show B_X11_layAll_m_before_88 f (nI b) (nI 24) _ = _
    unfold B_X11_layAll_m_before_88
    exact ip (by decide) rfl
theorem lay116_m_before {b : Nat} (hb : b + 92 ≤ 92) (f g : Nat → Int32) : lp (fun v => B_X11_layAll_m_before_116 f (nI b) v.1 v.2) KN ((0 : Int32), g) = some (cpyN g f (b + 42) 18) := by
  refine lp_run (fun k => (nI k, cpyN g f (b + 42) k)) 18 rfl (by decide) (fun k hk => ?_) ?_
  · show B_X11_layAll_m_before_116 f (nI b) (nI k) (cpyN g f (b + 42) k) = some (.inl (nI (k + 1), upd (cpyN g f (b + 42) k) (b + 42 + k) (f k)))
    unfold B_X11_layAll_m_before_116
    rw [show nI b + (42 : Int32) + nI k = nI (b + 42 + k) from by rw [show (42 : Int32) = nI 42 from rfl, nI_add, nI_add], nI_1]
    refine ino (nI_ge (b := 18) hk (by decide)) (ino (vp_in_nI hk (by decide)) (ino (vp_in_nI (by omega) (by decide)) ?_))
    rw [nI_clamp (by omega), nI_clamp (by omega)]
  · show B_X11_layAll_m_before_116 f (nI b) (nI 18) _ = _
    unfold B_X11_layAll_m_before_116
    exact ip (by decide) rfl
theorem lay144_m_before {b : Nat} (hb : b + 92 ≤ 92) (f g : Nat → Int32) : lp (fun v => B_X11_layAll_m_before_144 f (nI b) v.1 v.2) KN ((0 : Int32), g) = some (cpyN g f (b + 60) 32) := by
  refine lp_run (fun k => (nI k, cpyN g f (b + 60) k)) 32 rfl (by decide) (fun k hk => ?_) ?_
  · show B_X11_layAll_m_before_144 f (nI b) (nI k) (cpyN g f (b + 60) k) = some (.inl (nI (k + 1), upd (cpyN g f (b + 60) k) (b + 60 + k) (f k)))
    unfold B_X11_layAll_m_before_144
    rw [show nI b + (60 : Int32) + nI k = nI (b + 60 + k) from by rw [show (60 : Int32) = nI 60 from rfl, nI_add, nI_add], nI_1]
    refine ino (nI_ge (b := 32) hk (by decide)) (ino (vp_in_nI hk (by decide)) (ino (vp_in_nI (by omega) (by decide)) ?_))
    rw [nI_clamp (by omega), nI_clamp (by omega)]
  · show B_X11_layAll_m_before_144 f (nI b) (nI 32) _ = _
    unfold B_X11_layAll_m_before_144
    exact ip (by decide) rfl
theorem tak89_m_before {b : Nat} (hb : b + 92 ≤ 92) (f g : Nat → Int32) : lp (fun v => B_X11_takeAll_m_before_89 f (nI b) v.1 v.2) KN ((0 : Int32), g) = some (cpT g (fun k => f (b + 18 + k)) 24) := by
  refine lp_run (fun k => (nI k, cpT g (fun k => f (b + 18 + k)) k)) 24 rfl (by decide) (fun k hk => ?_) ?_
  · show B_X11_takeAll_m_before_89 f (nI b) (nI k) (cpT g (fun k => f (b + 18 + k)) k) = some (.inl (nI (k + 1), upd (cpT g (fun k => f (b + 18 + k)) k) k (f (b + 18 + k))))
    unfold B_X11_takeAll_m_before_89
    rw [show nI b + (18 : Int32) + nI k = nI (b + 18 + k) from by rw [show (18 : Int32) = nI 18 from rfl, nI_add, nI_add], nI_1]
    refine ino (nI_ge (b := 24) hk (by decide)) (ino (vp_in_nI (by omega) (by decide)) (ino (vp_in_nI hk (by decide)) ?_))
    rw [nI_clamp (show k < 2 ^ 31 by omega), nI_clamp (show b + 18 + k < 2 ^ 31 by omega)]
  · show B_X11_takeAll_m_before_89 f (nI b) (nI 24) _ = _
    unfold B_X11_takeAll_m_before_89
    exact ip (by decide) rfl
theorem tak117_m_before {b : Nat} (hb : b + 92 ≤ 92) (f g : Nat → Int32) : lp (fun v => B_X11_takeAll_m_before_117 f (nI b) v.1 v.2) KN ((0 : Int32), g) = some (cpT g (fun k => f (b + 42 + k)) 18) := by
  refine lp_run (fun k => (nI k, cpT g (fun k => f (b + 42 + k)) k)) 18 rfl (by decide) (fun k hk => ?_) ?_
  · show B_X11_takeAll_m_before_117 f (nI b) (nI k) (cpT g (fun k => f (b + 42 + k)) k) = some (.inl (nI (k + 1), upd (cpT g (fun k => f (b + 42 + k)) k) k (f (b + 42 + k))))
    unfold B_X11_takeAll_m_before_117
    rw [show nI b + (42 : Int32) + nI k = nI (b + 42 + k) from by rw [show (42 : Int32) = nI 42 from rfl, nI_add, nI_add], nI_1]
    refine ino (nI_ge (b := 18) hk (by decide)) (ino (vp_in_nI (by omega) (by decide)) (ino (vp_in_nI hk (by decide)) ?_))
    rw [nI_clamp (show k < 2 ^ 31 by omega), nI_clamp (show b + 42 + k < 2 ^ 31 by omega)]
  · show B_X11_takeAll_m_before_117 f (nI b) (nI 18) _ = _
    unfold B_X11_takeAll_m_before_117
    exact ip (by decide) rfl
theorem tak145_m_before {b : Nat} (hb : b + 92 ≤ 92) (f g : Nat → Int32) : lp (fun v => B_X11_takeAll_m_before_145 f (nI b) v.1 v.2) KN ((0 : Int32), g) = some (cpT g (fun k => f (b + 60 + k)) 32) := by
  refine lp_run (fun k => (nI k, cpT g (fun k => f (b + 60 + k)) k)) 32 rfl (by decide) (fun k hk => ?_) ?_
  · show B_X11_takeAll_m_before_145 f (nI b) (nI k) (cpT g (fun k => f (b + 60 + k)) k) = some (.inl (nI (k + 1), upd (cpT g (fun k => f (b + 60 + k)) k) k (f (b + 60 + k))))
    unfold B_X11_takeAll_m_before_145
    rw [show nI b + (60 : Int32) + nI k = nI (b + 60 + k) from by rw [show (60 : Int32) = nI 60 from rfl, nI_add, nI_add], nI_1]
    refine ino (nI_ge (b := 32) hk (by decide)) (ino (vp_in_nI (by omega) (by decide)) (ino (vp_in_nI hk (by decide)) ?_))
    rw [nI_clamp (show k < 2 ^ 31 by omega), nI_clamp (show b + 60 + k < 2 ^ 31 by omega)]
  · show B_X11_takeAll_m_before_145 f (nI b) (nI 32) _ = _
    unfold B_X11_takeAll_m_before_145
    exact ip (by decide) rfl
theorem tak56_m_before {b : Nat} (hb : b + 92 ≤ 92) (f g ms : Nat → Int32) : ∃ m2, lp (fun v => B_X11_takeAll_m_before_56 f (nI b) v.1 v.2.1 v.2.2) KN ((0 : Int32), g, ms) = some (cpT g (fun k => f (b + 10 + k)) 8, m2) ∧ ∀ w, w < 8 → ∀ c, c < 10000 → f (b + 10 + w) = nI c → ∀ l, l < 10 → m2 (10 * w + l) = nI (mkm c l) := by
  have L : ∃ o, lp (fun v => B_X11_takeAll_m_before_56 f (nI b) v.1 v.2.1 v.2.2) KN ((0 : Int32), g, ms) = some o ∧ (o.1 = cpT g (fun k => f (b + 10 + k)) 8 ∧ ∀ w, w < 8 → ∀ c, c < 10000 → f (b + 10 + w) = nI c → ∀ l, l < 10 → o.2 (10 * w + l) = nI (mkm c l)) := by
    refine lp_inv (fun k v => ∃ m2, v = (nI k, cpT g (fun k => f (b + 10 + k)) k, m2) ∧ ∀ w, w < k → ∀ c, c < 10000 → f (b + 10 + w) = nI c → ∀ l, l < 10 → m2 (10 * w + l) = nI (mkm c l)) _ 8 (by decide) ⟨ms, rfl, fun w hw => absurd hw (by omega)⟩ (fun k v hk hv => ?_) (fun v hv => ?_)
    · obtain ⟨m2, rfl, h⟩ := hv
      refine Or.inl ?_
      show ∃ u, B_X11_takeAll_m_before_56 f (nI b) (nI k) (cpT g (fun k => f (b + 10 + k)) k) m2 = some (.inl u) ∧ _
      unfold B_X11_takeAll_m_before_56
      obtain ⟨m3, e, q1, q2⟩ := setMasks_eq (upd (cpT g (fun k => f (b + 10 + k)) k) k (f (b + 10 + k))) m2 hk
      rw [show nI b + (10 : Int32) + nI k = nI (b + 10 + k) from by rw [show (10 : Int32) = nI 10 from rfl, nI_add, nI_add], nI_1, if_neg (show ¬ (8 : Int32) ≤ nI k from nI_ge (b := 8) hk (by decide)), if_neg (show ¬ oob (nI (b + 10 + k)) 92 from vp_in_nI (by omega) (by decide)), if_neg (show ¬ oob (nI k) 8 from vp_in_nI hk (by decide)), nI_clamp (show k < 2 ^ 31 by omega), nI_clamp (show b + 10 + k < 2 ^ 31 by omega), e, Option.bind_some]
      refine ⟨_, rfl, m3, rfl, fun w hw c hc hf l hl => ?_⟩
      by_cases z : w = k
      · subst z
        exact q2 c hc (by rw [pk_us]; exact hf) l hl
      · rw [q1 _ (by omega)]
        exact h w (by omega) c hc hf l hl
    · obtain ⟨m2, rfl, h⟩ := hv
      exact ⟨_, ip (show (8 : Int32) ≤ nI 8 from by decide) rfl, rfl, h⟩
  obtain ⟨⟨o1, o2⟩, e, q, h⟩ := L
  have q : o1 = cpT g (fun k => f (b + 10 + k)) 8 := q
  subst q
  exact ⟨o2, e, h⟩
/-- all that is laid -/
theorem layAll_m_before {b : Nat} (hb : b + 92 ≤ 92) (wo ki se gu le wr nm mm um : Int32) (co no ma ah g : Nat → Int32) : ∃ z, f_X11_layAll_m_before wo ki se gu le wr nm mm um co no ma g ah (nI b) = some z ∧ (z b = 1 ∧ z (b + 1) = wo ∧ z (b + 2) = ki ∧ z (b + 3) = nm ∧ z (b + 4) = mm ∧ z (b + 5) = um ∧ z (b + 6) = gu ∧ z (b + 7) = le ∧ z (b + 8) = wr ∧ z (b + 9) = se) ∧ (∀ k, k < 8 → z (b + 10 + k) = co k) ∧ (∀ k, k < 24 → z (b + 18 + k) = no k) ∧ (∀ k, k < 18 → z (b + 42 + k) = ma k) ∧ (∀ k, k < 32 → z (b + 60 + k) = ah k) ∧ ∀ t, (t < b ∨ b + 92 ≤ t) → z t = g t := by
  obtain ⟨g0, hg0⟩ : ∃ g0, g0 = upd (upd (upd (upd (upd (upd g b 1) (b + 1) wo) (b + 2) ki) (b + 3) nm) (b + 4) mm) (b + 5) um := ⟨_, rfl⟩
  obtain ⟨g1, hg1⟩ : ∃ g1, g1 = upd4 g0 (b + 6) gu le wr se := ⟨_, rfl⟩
  have u4 := upd4_at g0 (b + 6) gu le wr se
  rw [← hg1] at u4
  obtain ⟨u0, u1, u2, u3⟩ := u4
  have lo : ∀ t, t < b + 6 → g1 t = g0 t := fun t ht => by rw [hg1]; exact upd4_lo ht
  have hi : ∀ t, b + 10 ≤ t → g1 t = g0 t := fun t ht => by
    rw [hg1]
    unfold upd4
    rw [pk_un (by omega), pk_un (by omega), pk_un (by omega), pk_un (by omega)]
  have v0 : ∀ t, (t < b ∨ b + 6 ≤ t) → g0 t = g t := fun t ht => by rw [hg0, pk_un (by omega), pk_un (by omega), pk_un (by omega), pk_un (by omega), pk_un (by omega), pk_un (by omega)]
  have E : ∀ t, (t < b + 10 ∨ b + 92 ≤ t) → cpyN (cpyN (cpyN (cpyN g1 co (b + 10) 8) no (b + 18) 24) ma (b + 42) 18) ah (b + 60) 32 t = g1 t := fun t ht => by rw [cpyN_out (by omega), cpyN_out (by omega), cpyN_out (by omega), cpyN_out (by omega)]
  refine ⟨cpyN (cpyN (cpyN (cpyN g1 co (b + 10) 8) no (b + 18) 24) ma (b + 42) 18) ah (b + 60) 32, ?_, ⟨?_, ?_, ?_, ?_, ?_, ?_, ?_, ?_, ?_, ?_⟩, fun k hk => ?_, fun k hk => ?_, fun k hk => ?_, fun k hk => ?_, fun t ht => ?_⟩
  · unfold f_X11_layAll_m_before
    have lays : f_X11_lays_m_before se gu le wr g0 (nI (b + 6)) = some g1 := by
      unfold f_X11_lays_m_before
      rw [show (1 : Int32) = nI 1 from rfl, show (2 : Int32) = nI 2 from rfl, show (3 : Int32) = nI 3 from rfl, nI_add, nI_add, nI_add]
      refine ino (vp_in_nI (by omega) (by omega)) (ino (vp_in_nI (by omega) (by omega)) (ino (vp_in_nI (by omega) (by omega)) (ino (vp_in_nI (by omega) (by omega)) ?_)))
      rw [nI_clamp (by omega), nI_clamp (by omega), nI_clamp (by omega), nI_clamp (by omega), hg1]
      rfl
    rw [show nI b + (1 : Int32) = nI (b + 1) from nI_add b 1, show nI b + (2 : Int32) = nI (b + 2) from nI_add b 2, show nI b + (3 : Int32) = nI (b + 3) from nI_add b 3, show nI b + (4 : Int32) = nI (b + 4) from nI_add b 4, show nI b + (5 : Int32) = nI (b + 5) from nI_add b 5, show nI b + (6 : Int32) = nI (b + 6) from nI_add b 6]
    refine ino (vp_in_nI (by omega) (by omega)) (ino (vp_in_nI (by omega) (by omega)) (ino (vp_in_nI (by omega) (by omega)) (ino (vp_in_nI (by omega) (by omega)) (ino (vp_in_nI (by omega) (by omega)) (ino (vp_in_nI (by omega) (by omega)) ?_)))))
    rw [nI_clamp (show b < 2 ^ 31 by omega), nI_clamp (show b + 1 < 2 ^ 31 by omega), nI_clamp (show b + 2 < 2 ^ 31 by omega), nI_clamp (show b + 3 < 2 ^ 31 by omega), nI_clamp (show b + 4 < 2 ^ 31 by omega), nI_clamp (show b + 5 < 2 ^ 31 by omega), ← hg0]
    exact b_some lays (b_some (lay60_m_before hb _ _) (b_some (lay88_m_before hb _ _) (b_some (lay116_m_before hb _ _) (b_some (lay144_m_before hb _ _) rfl))))
  · rw [E _ (by omega), lo _ (by omega), hg0, pk_un (by omega), pk_un (by omega), pk_un (by omega), pk_un (by omega), pk_un (by omega), pk_us]
  · rw [E _ (by omega), lo _ (by omega), hg0, pk_un (by omega), pk_un (by omega), pk_un (by omega), pk_un (by omega), pk_us]
  · rw [E _ (by omega), lo _ (by omega), hg0, pk_un (by omega), pk_un (by omega), pk_un (by omega), pk_us]
  · rw [E _ (by omega), lo _ (by omega), hg0, pk_un (by omega), pk_un (by omega), pk_us]
  · rw [E _ (by omega), lo _ (by omega), hg0, pk_un (by omega), pk_us]
  · rw [E _ (by omega), lo _ (by omega), hg0, pk_us]
  · rw [E _ (by omega)]
    exact u0
  · rw [E _ (by omega)]
    exact u1
  · rw [E _ (by omega)]
    exact u2
  · rw [E _ (by omega)]
    exact u3
  · rw [cpyN_out (by omega), cpyN_out (by omega), cpyN_out (by omega), cpyN_in hk]
  · rw [cpyN_out (by omega), cpyN_out (by omega), cpyN_in hk]
  · rw [cpyN_out (by omega), cpyN_in hk]
  · rw [cpyN_in hk]
  · rw [E _ (by omega)]
    by_cases c : t < b + 6
    · rw [lo t c, v0 t (by omega)]
    · rw [hi t (by omega), v0 t (by omega)]
/-- all that is taken -/
theorem takeAll_m_before {b : Nat} (hb : b + 92 ≤ 92) (co no ma ms ah g : Nat → Int32) : ∃ m2, f_X11_takeAll_m_before co no ma ms g ah (nI b) = some (g (b + 1), g (b + 2), g (b + 9), g (b + 6), g (b + 7), g (b + 8), g (b + 3), g (b + 4), g (b + 5), cpT co (fun k => g (b + 10 + k)) 8, cpT no (fun k => g (b + 18 + k)) 24, cpT ma (fun k => g (b + 42 + k)) 18, m2, cpT ah (fun k => g (b + 60 + k)) 32) ∧ ∀ w, w < 8 → ∀ c, c < 10000 → g (b + 10 + w) = nI c → ∀ l, l < 10 → m2 (10 * w + l) = nI (mkm c l) := by
  obtain ⟨m2, e, h⟩ := tak56_m_before hb g co ms
  refine ⟨m2, ?_, h⟩
  have tk : f_X11_takes_m_before g (nI (b + 6)) = some (g (b + 9), g (b + 6), g (b + 7), g (b + 8)) := by
    unfold f_X11_takes_m_before
    rw [show (1 : Int32) = nI 1 from rfl, show (2 : Int32) = nI 2 from rfl, show (3 : Int32) = nI 3 from rfl, nI_add, nI_add, nI_add]
    refine ino (vp_in_nI (by omega) (by omega)) (ino (vp_in_nI (by omega) (by omega)) (ino (vp_in_nI (by omega) (by omega)) (ino (vp_in_nI (by omega) (by omega)) ?_)))
    rw [nI_clamp (by omega), nI_clamp (by omega), nI_clamp (by omega), nI_clamp (by omega)]
  unfold f_X11_takeAll_m_before
  rw [show nI b + (1 : Int32) = nI (b + 1) from nI_add b 1, show nI b + (2 : Int32) = nI (b + 2) from nI_add b 2, show nI b + (3 : Int32) = nI (b + 3) from nI_add b 3, show nI b + (4 : Int32) = nI (b + 4) from nI_add b 4, show nI b + (5 : Int32) = nI (b + 5) from nI_add b 5, show nI b + (6 : Int32) = nI (b + 6) from nI_add b 6]
  refine ino (vp_in_nI (by omega) (by omega)) (ino (vp_in_nI (by omega) (by omega)) (ino (vp_in_nI (by omega) (by omega)) (ino (vp_in_nI (by omega) (by omega)) (ino (vp_in_nI (by omega) (by omega)) ?_))))
  rw [nI_clamp (show b + 1 < 2 ^ 31 by omega), nI_clamp (show b + 2 < 2 ^ 31 by omega), nI_clamp (show b + 3 < 2 ^ 31 by omega), nI_clamp (show b + 4 < 2 ^ 31 by omega), nI_clamp (show b + 5 < 2 ^ 31 by omega)]
  exact b_some tk (b_some e (b_some (tak89_m_before hb _ _) (b_some (tak117_m_before hb _ _) (b_some (tak145_m_before hb _ _) rfl))))
/-- an image that isn't touched -/
theorem ImgR.keep {i : Nat} {im im' : Nat → Option Nat} {g z : Nat → Int32} {e_kind : Int32} {e_secret : Int32} {e_w_size : Int32} {e_w_codes : Nat → Int32} {e_w_masks : Nat → Int32} {e_w_alike : Nat → Int32} {e_w_havers : Nat → Int32} {e_g_left : Int32} {e_g_guessed : Int32} {e_g_wrong : Int32} {e_n_size : Int32} {e_n_cells : Nat → Int32} {e_m_size : Int32} {e_m_cells : Nat → Int32} {e_p_size : Int32} {e_p_cells : Nat → Int32} (h : ImgR i im g e_kind e_secret e_w_size e_w_codes e_w_masks e_w_alike e_w_havers e_g_left e_g_guessed e_g_wrong e_n_size e_n_cells e_m_size e_m_cells e_p_size e_p_cells) (hi : im' i = im i) (hz : ∀ t, 92 * i ≤ t → t < 92 * i + 92 → z t = g t) : ImgR i im' z e_kind e_secret e_w_size e_w_codes e_w_masks e_w_alike e_w_havers e_g_left e_g_guessed e_g_wrong e_n_size e_n_cells e_m_size e_m_cells e_p_size e_p_cells := by
  refine ⟨fun e => ?_, fun a e => ?_⟩
  · rw [hz _ (by omega) (by omega)]
    exact h.1 (by rw [← hi]; exact e)
  · obtain ⟨h1, h2⟩ := h.2 a (by rw [← hi]; exact e)
    rw [hz _ (by omega) (by omega), hz _ (by omega) (by omega), hz _ (by omega) (by omega), hz _ (by omega) (by omega), hz _ (by omega) (by omega), hz _ (by omega) (by omega), hz _ (by omega) (by omega), hz _ (by omega) (by omega), hz _ (by omega) (by omega), hz _ (by omega) (by omega)]
    refine ⟨h1, TabR.cong h2 (fun t _ => rfl) (fun t _ => rfl) (fun t _ => rfl) (fun t _ => rfl) (fun t _ => rfl) (fun t _ => rfl) (fun t _ => rfl) (fun t ht => ?_) (fun t ht => ?_) (fun t ht => ?_) (fun t ht => ?_)⟩ <;> exact hz _ (by omega) (by omega)
/-- an image that is laid, of a table -/
theorem ImgR.lay {kind secret w_size : Int32} {w_codes w_masks w_alike w_havers : Nat → Int32} {g_left g_guessed g_wrong n_size : Int32} {n_cells : Nat → Int32} {m_size : Int32} {m_cells : Nat → Int32} {p_size : Int32} {p_cells : Nat → Int32} {words kindNow secretNow guessed left wrong noteMany markMany undoMany : Int32} {codes noted marked ahead : Nat → Int32} {i : Nat} {im : Nat → Option Nat} {g z : Nat → Int32} (x1 x2 x3 x4 x5 x6 x7 : Nat → Int32) (hT : TabR kind secret w_size w_codes w_masks w_alike w_havers g_left g_guessed g_wrong n_size n_cells m_size m_cells p_size p_cells words kindNow secretNow guessed left wrong noteMany markMany undoMany codes noted marked ahead) (hn : im i ≠ none) (e : (z (92 * i) = 1 ∧ z (92 * i + 1) = words ∧ z (92 * i + 2) = kindNow ∧ z (92 * i + 3) = noteMany ∧ z (92 * i + 4) = markMany ∧ z (92 * i + 5) = undoMany ∧ z (92 * i + 6) = guessed ∧ z (92 * i + 7) = left ∧ z (92 * i + 8) = wrong ∧ z (92 * i + 9) = secretNow) ∧ (∀ k, k < 8 → z (92 * i + 10 + k) = codes k) ∧ (∀ k, k < 24 → z (92 * i + 18 + k) = noted k) ∧ (∀ k, k < 18 → z (92 * i + 42 + k) = marked k) ∧ (∀ k, k < 32 → z (92 * i + 60 + k) = ahead k) ∧ ∀ t, (t < 92 * i ∨ 92 * i + 92 ≤ t) → z t = g t) : ImgR i im z kind secret w_size (va_cpy w_codes x1 0 0 8) (va_cpy w_masks x2 0 0 80) (va_cpy w_alike x3 0 0 80) (va_cpy w_havers x4 0 0 10) g_left g_guessed g_wrong n_size (va_cpy n_cells x5 0 0 24) m_size (va_cpy m_cells x6 0 0 24) p_size (va_cpy p_cells x7 0 0 32) := by
  obtain ⟨⟨e0, e1, e2, e3, e4, e5, e6, e7, e8, e9⟩, c1, c2, c3, c4, -⟩ := e
  refine ⟨fun q => absurd q hn, fun a _ => ⟨e0, ?_⟩⟩
  rw [e1, e2, e3, e4, e5, e6, e7, e8, e9]
  exact TabR.cong hT (fun t ht => cpy_at ht) (fun t ht => cpy_at ht) (fun t ht => cpy_at ht) (fun t ht => cpy_at ht) (fun t ht => cpy_at ht) (fun t ht => cpy_at ht) (fun t ht => cpy_at ht) c1 c2 c3 c4
/-- the masks behind what is taken -/
theorem masks_tak {b : Nat} {co g m2 : Nat → Int32} {n : Nat} {cd : Nat → Nat} (hn : n ≤ 8) (h4 : ∀ w, w < n → cd w < 10000) (hc : ∀ w, w < n → g (b + 10 + w) = nI (cd w)) (h : ∀ w, w < 8 → ∀ c, c < 10000 → g (b + 10 + w) = nI c → ∀ l, l < 10 → m2 (10 * w + l) = nI (mkm c l)) : ∀ w, w < (nI n).toNatClampNeg → ∀ l, l < 10 → m2 (10 * w + l) = nI (mkm (cpT co (fun k => g (b + 10 + k)) 8 w).toNatClampNeg l) := by
  rw [nI_clamp (by omega)]
  intro w hw l hl
  have := h4 w hw
  rw [cpT_at (by omega), h w (by omega) (cd w) (h4 w hw) (hc w hw) l hl, hc w hw, nI_clamp (by omega)]
