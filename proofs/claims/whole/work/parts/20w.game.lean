/-! a game that is read, on both sides -/
theorem item_sim {tn : Nat} {tx : Nat → Nat} {kb mt : Nat → Int32} (T : TX tn tx kb mt) {kind secret w_size : Int32} {codes masks alike havers : Nat → Int32} {left guessed wrong p_size words kindNow secretNow mguessed mleft mwrong undoMany : Int32} {mcodes mmasks : Nat → Int32} (hD : DR kind secret w_size codes masks alike havers left guessed wrong p_size words kindNow secretNow mguessed mleft mwrong undoMany mcodes mmasks) {p : Nat} (hp : p < tn) {so be : Int32} (ht : Tok tn tx p so be) (num rn : Int32) : (∃ k s w c m a h l g wr ps q so2 nu be2 w2 s2 g2 l2 wr2 r2 u2 c2 m2, f_X4_readItem kind secret w_size codes masks alike havers left guessed wrong p_size (nI tn) (nI p) so num be kb 0 = some (0, k, s, w, c, m, a, h, l, g, wr, ps, nI q, so2, nu, be2) ∧ f_X11_readsItem words kindNow secretNow mguessed mleft mwrong (nI tn) (nI p) rn undoMany mcodes mmasks mt = some (0, w2, s2, g2, l2, wr2, nI q, r2, u2, c2, m2)) ∨ (∃ k s w c m a h l g wr ps pl so2 nu e w2 s2 g2 l2 wr2 r2 u2 c2 m2, f_X4_readItem kind secret w_size codes masks alike havers left guessed wrong p_size (nI tn) (nI p) so num be kb 0 = some (1, k, s, w, c, m, a, h, l, g, wr, ps, pl, so2, nu, nI e) ∧ f_X11_readsItem words kindNow secretNow mguessed mleft mwrong (nI tn) (nI p) rn undoMany mcodes mmasks mt = some (1, w2, s2, g2, l2, wr2, nI e, r2, u2, c2, m2) ∧ p < e ∧ e ≤ tn ∧ DR k s w c m a h l g wr ps w2 kindNow s2 g2 l2 wr2 u2 c2 m2) := by
  have h150 := T.1
  have hw : p ≤ wE tn tx p ∧ wE tn tx p ≤ tn := eR_le tx 97 122 (show p ≤ tn by omega)
  have ws := wordSize_eq T (show p ≤ tn by omega)
  have ea : nI p + nI (wE tn tx p - p) = nI (wE tn tx p) := by
    rw [nI_add]
    congr 1
    omega
  obtain ⟨r, e, hr⟩ := wordHere_eq T (show p ≤ tn by omega)
  unfold f_X4_readItem f_X11_readsItem
  rw [e, Option.bind_some]
  have fail : ∀ {C : Option (Int32 × Int32 × Int32 × Int32 × (Nat → Int32) × (Nat → Int32) × (Nat → Int32) × (Nat → Int32) × Int32 × Int32 × Int32 × Int32 × Int32 × Int32 × Int32 × Int32)} {M : Option (Int32 × Int32 × Int32 × Int32 × Int32 × Int32 × Int32 × Int32 × Int32 × (Nat → Int32) × (Nat → Int32))}, C = some ((0 : Int32), kind, secret, w_size, codes, masks, alike, havers, left, guessed, wrong, p_size, nI p, so, num, be) → M = some ((0 : Int32), words, secretNow, mguessed, mleft, mwrong, nI p, rn, undoMany, mcodes, mmasks) → ∃ k s w c m a h l g wr ps q so2 nu be2 w2 s2 g2 l2 wr2 r2 u2 c2 m2, C = some ((0 : Int32), k, s, w, c, m, a, h, l, g, wr, ps, nI q, so2, nu, be2) ∧ M = some ((0 : Int32), w2, s2, g2, l2, wr2, nI q, r2, u2, c2, m2) := fun h1 h2 => ⟨_, _, _, _, _, _, _, _, _, _, _, p, _, _, _, _, _, _, _, _, _, _, _, _, h1, h2⟩
  rcases spells_0 T hp ht with ⟨s0, hbe, q0⟩ | ⟨s0, q0⟩
  · have r0 : r = 0 := by
      rcases hr with ⟨z, -⟩ | ⟨-, -, z⟩ | ⟨-, z, -⟩ | ⟨-, z, -⟩ | ⟨-, z, -⟩
      · exact z
      · have a := q0.2 0 (by decide)
        rw [z 0 (by decide)] at a
        exact absurd a (by decide)
      · omega
      · omega
      · exact absurd q0 z
    subst r0
    exact Or.inl (fail (b_some s0 (ino i10 (ip rfl rfl))) (ip (by decide) rfl))
  · rw [s0, Option.bind_some, if_pos rfl, if_pos rfl]
    rcases spells_1 T hp ht with ⟨s1, hbe, q1⟩ | ⟨s1, q1⟩
    · have r1 : r = 1 := by
        rcases hr with ⟨-, z⟩ | ⟨z, -⟩ | ⟨-, z, -⟩ | ⟨-, z, -⟩ | ⟨-, -, z, -⟩
        · exact absurd z q0
        · exact z
        · omega
        · omega
        · exact absurd q1 z
      subst r1
      rw [s1, Option.bind_some, if_neg i10, if_neg (show ¬ (1 : Int32) < 1 from by decide), if_pos rfl]
      subst hbe
      by_cases w8 : words = 8
      · rw [if_pos w8]
        refine Or.inl (fail ?_ rfl)
        obtain ⟨n, kd, sc, lf, gs, cd, W, ⟨rfl, rfl⟩, -⟩ := hD
        have := W.hn
        have n8 := (nI_eq (b := 8) (by omega) (by decide)).mp w8
        subst n8
        refine b_some (x := ((0 : Int32), nI 8, codes, masks, alike, havers, left, guessed, wrong, p_size, nI p, so, num, nI (wE tn tx p))) ?_ (ip (Or.inl rfl) rfl)
        unfold f_X4_readWord
        exact ip (by decide) rfl
      · rw [if_neg w8]
        by_cases g0 : mguessed = 0
        · rw [if_pos g0]
          unfold J_X11_readsItem_33
          rw [ws, Option.bind_some, if_pos rfl, ea]
          rcases word_sim T hD w8 g0 hw.2 (nI p) so num rn with ⟨w, c, m, a, h, l, g, wr, ps, q, so2, nu, be2, w2, g2, l2, wr2, r2, u2, c2, m2, f1, f2⟩ | ⟨w, c, m, a, h, l, g, wr, ps, pl2, so2, nu, e2, w2, g2, l2, wr2, r2, u2, c2, m2, f1, f2, h1, h2, hd⟩
          · exact Or.inl ⟨_, _, _, _, _, _, _, _, _, _, _, q, _, _, _, _, _, _, _, _, _, _, _, _, b_some f1 (ip (Or.inl rfl) rfl), b_some f2 (ip (Or.inl rfl) rfl)⟩
          · exact Or.inr ⟨_, _, _, _, _, _, _, _, _, _, _, _, _, _, e2, _, _, _, _, _, _, _, _, _, b_some f1 (ip (Or.inr rfl) rfl), b_some f2 (ip (Or.inr rfl) rfl), by omega, h2, hd⟩
        · rw [if_neg g0]
          refine Or.inl (fail ?_ rfl)
          obtain ⟨n, kd, sc, lf, gs, cd, W, ⟨rfl, rfl⟩, -, -, -, ⟨-, rfl, rfl⟩, -⟩ := hD
          have := W.hn
          refine b_some (x := ((0 : Int32), nI n, codes, masks, alike, havers, left, nI gs, wrong, p_size, nI p, so, num, nI (wE tn tx p))) ?_ (ip (Or.inl rfl) rfl)
          unfold f_X4_readWord
          by_cases z : (8 : Int32) ≤ nI n
          · exact ip z rfl
          · exact ino z (ino g0 rfl)
    · rw [s1, Option.bind_some, if_pos rfl]
      rcases spells_2 T hp ht with ⟨s2, hbe, q2⟩ | ⟨s2, q2⟩
      · have r2 : r = 2 := by
          rcases hr with ⟨-, z⟩ | ⟨-, z⟩ | ⟨z, -⟩ | ⟨-, z, -⟩ | ⟨-, -, -, z, -⟩
          · exact absurd z q0
          · exact absurd z q1
          · exact z
          · omega
          · exact absurd q2 z
        subst r2
        subst hbe
        rw [s2, Option.bind_some, if_neg i10, if_neg (show ¬ (2 : Int32) < 1 from by decide), if_neg (show ¬ (2 : Int32) = 1 from by decide)]
        unfold J_X11_readsItem_33
        rw [ws, Option.bind_some, if_neg (show ¬ (2 : Int32) = 1 from by decide), if_pos rfl, ea]
        rcases secret_sim T hD hw.2 num rn with ⟨s, q, so2, nu, be2, s2, r2, f1, f2⟩ | ⟨s, pl, so2, nu, e2, s2, r2, f1, f2, h1, h2, hd⟩
        · exact Or.inl ⟨_, _, _, _, _, _, _, _, _, _, _, q, _, _, _, _, _, _, _, _, _, _, _, _, b_some f1 (ip (Or.inl rfl) rfl), b_some f2 (ip (Or.inl rfl) rfl)⟩
        · exact Or.inr ⟨_, _, _, _, _, _, _, _, _, _, _, _, _, _, e2, _, _, _, _, _, _, _, _, _, b_some f1 (ip (Or.inr rfl) rfl), b_some f2 (ip (Or.inr rfl) rfl), by omega, h2, hd⟩
      · rw [s2, Option.bind_some, if_pos rfl]
        rcases spells_3 T hp ht with ⟨s3, hbe, q3⟩ | ⟨s3, q3⟩
        · have r3 : r = 3 := by
            rcases hr with ⟨-, z⟩ | ⟨-, z⟩ | ⟨-, z⟩ | ⟨z, -⟩ | ⟨-, -, -, -, z⟩
            · exact absurd z q0
            · exact absurd z q1
            · exact absurd z q2
            · exact z
            · exact absurd q3 z
          subst r3
          subst hbe
          rw [s3, Option.bind_some, if_neg i10, if_neg (show ¬ (3 : Int32) < 1 from by decide), if_neg (show ¬ (3 : Int32) = 1 from by decide)]
          unfold J_X11_readsItem_33
          rw [ws, Option.bind_some, if_neg (show ¬ (3 : Int32) = 1 from by decide), if_neg (show ¬ (3 : Int32) = 2 from by decide), ea]
          rcases guess_sim T hD hw.2 num rn with ⟨l, g, w, q, so2, nu, be2, g2, l2, w2, r2, f1, f2⟩ | ⟨l, g, w, pl, so2, nu, e2, g2, l2, w2, r2, f1, f2, h1, h2, hd⟩
          · exact Or.inl ⟨_, _, _, _, _, _, _, _, _, _, _, q, _, _, _, _, _, _, _, _, _, _, _, _, b_some f1 (ip rfl rfl), b_some f2 (ip (Or.inl rfl) rfl)⟩
          · exact Or.inr ⟨_, _, _, _, _, _, _, _, _, _, _, _, _, _, e2, _, _, _, _, _, _, _, _, _, b_some f1 (ino i10 rfl), b_some f2 (ip (Or.inr rfl) rfl), by omega, h2, hd⟩
        · have rm : r = -1 := by
            rcases hr with ⟨-, z⟩ | ⟨-, z⟩ | ⟨-, z⟩ | ⟨-, z⟩ | ⟨z, -⟩
            · exact absurd z q0
            · exact absurd z q1
            · exact absurd z q2
            · exact absurd z q3
            · exact z
          subst rm
          exact Or.inl (fail (b_some s3 (ip rfl rfl)) (ip (by decide) rfl))
theorem items_sim {tn : Nat} {tx : Nat → Nat} {kb mt : Nat → Int32} (T : TX tn tx kb mt) {kind secret w_size : Int32} {codes masks alike havers : Nat → Int32} {left guessed wrong p_size words kindNow secretNow mguessed mleft mwrong undoMany : Int32} {mcodes mmasks : Nat → Int32} (hD : DR kind secret w_size codes masks alike havers left guessed wrong p_size words kindNow secretNow mguessed mleft mwrong undoMany mcodes mmasks) {p : Nat} (hp1 : 1 ≤ p) (hp : p ≤ tn) {so be : Int32} (ht : Tok tn tx p so be) (num rn : Int32) (k1 k2 : Nat) : ∃ o y, lp (fun v => B_X4_readItems_24 (nI tn) kb v.1 v.2.1 v.2.2.1 v.2.2.2.1 v.2.2.2.2.1 v.2.2.2.2.2.1 v.2.2.2.2.2.2.1 v.2.2.2.2.2.2.2.1 v.2.2.2.2.2.2.2.2.1 v.2.2.2.2.2.2.2.2.2.1 v.2.2.2.2.2.2.2.2.2.2.1 v.2.2.2.2.2.2.2.2.2.2.2.1 v.2.2.2.2.2.2.2.2.2.2.2.2.1 v.2.2.2.2.2.2.2.2.2.2.2.2.2.1 v.2.2.2.2.2.2.2.2.2.2.2.2.2.2.1 v.2.2.2.2.2.2.2.2.2.2.2.2.2.2.2) (150 + k1) ((1 : Int32), kind, secret, w_size, codes, masks, alike, havers, left, guessed, wrong, p_size, nI p, so, num, be) = some o ∧ lp (fun v => B_X11_readsGame_20 kindNow (nI tn) mt v.1 v.2.1 v.2.2.1 v.2.2.2.1 v.2.2.2.2.1 v.2.2.2.2.2.1 v.2.2.2.2.2.2.1 v.2.2.2.2.2.2.2.1 v.2.2.2.2.2.2.2.2.1 v.2.2.2.2.2.2.2.2.2.1 v.2.2.2.2.2.2.2.2.2.2) (150 + k2) ((1 : Int32), words, secretNow, mguessed, mleft, mwrong, nI p, rn, undoMany, mcodes, mmasks) = some y ∧ ((∃ x k s w c m a h l g wr ps q so2 nu be2 x2 w2 s2 g2 l2 wr2 r2 u2 c2 m2, o = (0, x, k, s, w, c, m, a, h, l, g, wr, ps, nI q, so2, nu, be2) ∧ y = (0, x2, w2, s2, g2, l2, wr2, nI q, r2, u2, c2, m2)) ∨ (∃ j k s w c m a h l g wr ps pl so2 nu be2 w2 s2 g2 l2 wr2 at2 r2 u2 c2 m2, o = (1, nI (j + 1), k, s, w, c, m, a, h, l, g, wr, ps, pl, so2, nu, be2) ∧ y = (1, nI (j + 1), w2, s2, g2, l2, wr2, at2, r2, u2, c2, m2) ∧ j < 150 ∧ DR k s w c m a h l g wr ps w2 kindNow s2 g2 l2 wr2 u2 c2 m2)) := by
  have h150 := T.1
  rcases lp_pre (B := fun v => B_X4_readItems_24 (nI tn) kb v.1 v.2.1 v.2.2.1 v.2.2.2.1 v.2.2.2.2.1 v.2.2.2.2.2.1 v.2.2.2.2.2.2.1 v.2.2.2.2.2.2.2.1 v.2.2.2.2.2.2.2.2.1 v.2.2.2.2.2.2.2.2.2.1 v.2.2.2.2.2.2.2.2.2.2.1 v.2.2.2.2.2.2.2.2.2.2.2.1 v.2.2.2.2.2.2.2.2.2.2.2.2.1 v.2.2.2.2.2.2.2.2.2.2.2.2.2.1 v.2.2.2.2.2.2.2.2.2.2.2.2.2.2.1 v.2.2.2.2.2.2.2.2.2.2.2.2.2.2.2) (B2 := fun v => B_X11_readsGame_20 kindNow (nI tn) mt v.1 v.2.1 v.2.2.1 v.2.2.2.1 v.2.2.2.2.1 v.2.2.2.2.2.1 v.2.2.2.2.2.2.1 v.2.2.2.2.2.2.2.1 v.2.2.2.2.2.2.2.2.1 v.2.2.2.2.2.2.2.2.2.1 v.2.2.2.2.2.2.2.2.2.2) (fun i v w => ∃ k s z c m a h l g wr ps p so nu be w2 s2 g2 l2 wr2 r2 u2 c2 m2, v = (nI (i + 1), k, s, z, c, m, a, h, l, g, wr, ps, nI p, so, nu, be) ∧ w = (nI (i + 1), w2, s2, g2, l2, wr2, nI p, r2, u2, c2, m2) ∧ i + 1 ≤ p ∧ p ≤ tn ∧ Tok tn tx p so be ∧ DR k s z c m a h l g wr ps w2 kindNow s2 g2 l2 wr2 u2 c2 m2) (fun o y => (∃ x k s w c m a h l g wr ps q so2 nu be2 x2 w2 s2 g2 l2 wr2 r2 u2 c2 m2, o = (0, x, k, s, w, c, m, a, h, l, g, wr, ps, nI q, so2, nu, be2) ∧ y = (0, x2, w2, s2, g2, l2, wr2, nI q, r2, u2, c2, m2)) ∨ (∃ j k s w c m a h l g wr ps pl so2 nu be2 w2 s2 g2 l2 wr2 at2 r2 u2 c2 m2, o = (1, nI (j + 1), k, s, w, c, m, a, h, l, g, wr, ps, pl, so2, nu, be2) ∧ y = (1, nI (j + 1), w2, s2, g2, l2, wr2, at2, r2, u2, c2, m2) ∧ j < 150 ∧ DR k s w c m a h l g wr ps w2 kindNow s2 g2 l2 wr2 u2 c2 m2)) 150 (fun i v w hi hv => by
    obtain ⟨k, s, z, c, m, a, h, l, g, wr, ps, p, so, nu, be, w2, s2, g2, l2, wr2, r2, u2, c2, m2, rfl, rfl, h1, h2, ht, hd⟩ := hv
    show (∃ u x, B_X4_readItems_24 (nI tn) kb (nI (i + 1)) k s z c m a h l g wr ps (nI p) so nu be = some (.inl u) ∧ B_X11_readsGame_20 kindNow (nI tn) mt (nI (i + 1)) w2 s2 g2 l2 wr2 (nI p) r2 u2 c2 m2 = some (.inl x) ∧ _) ∨ (∃ o y, B_X4_readItems_24 (nI tn) kb (nI (i + 1)) k s z c m a h l g wr ps (nI p) so nu be = some (.inr o) ∧ B_X11_readsGame_20 kindNow (nI tn) mt (nI (i + 1)) w2 s2 g2 l2 wr2 (nI p) r2 u2 c2 m2 = some (.inr y) ∧ _)
    unfold B_X4_readItems_24 B_X11_readsGame_20
    by_cases c0 : p = tn
    · subst c0
      have so0 : so = 0 := by
        rcases ht with ⟨-, z⟩ | ⟨z, -⟩
        · exact z
        · omega
      subst so0
      have fin : nI p ≤ nI p := nI_le (Nat.le_refl _) (by omega)
      refine Or.inr ⟨(1, nI (i + 1), k, s, z, c, m, a, h, l, g, wr, ps, nI p, 0, nu, be), _, ?_, ip fin rfl, Or.inr ⟨i, _, _, _, _, _, _, _, _, _, _, _, _, _, _, _, _, _, _, _, _, _, _, _, _, _, rfl, rfl, hi, hd⟩⟩
      by_cases x : (150 : Int32) ≤ nI (i + 1)
      · exact ip x rfl
      · exact ino x (ip rfl rfl)
    · have hlt : p < tn := by omega
      have so0 : ¬ so = 0 := by
        rcases ht with ⟨z, -⟩ | ⟨-, ⟨-, -, rfl, -⟩ | ⟨-, rfl | rfl | rfl⟩⟩
        · exact absurd z c0
        · decide
        · decide
        · decide
        · decide
      rw [if_neg (show ¬ (150 : Int32) ≤ nI (i + 1) from nI_ge (b := 150) (by omega) (by decide)), if_neg so0, if_neg (nI_ne0 (n := i + 1) (by omega) (by omega)), if_neg (nI_ge hlt (by omega))]
      rcases item_sim T hd hlt ht nu r2 with ⟨k3, s3, w3, c3, m3, a3, h3, l3, g3, wr3, ps3, q, so3, nu3, be3, w4, s4, g4, l4, wr4, r4, u4, c4, m4, f1, f2⟩ | ⟨k3, s3, w3, c3, m3, a3, h3, l3, g3, wr3, ps3, pl, so3, nu3, e, w4, s4, g4, l4, wr4, r4, u4, c4, m4, f1, f2, e1, e2, hd2⟩
      · exact Or.inr ⟨_, _, b_some f1 (ip rfl rfl), b_some f2 (ip rfl rfl), Or.inl ⟨_, _, _, _, _, _, _, _, _, _, _, _, q, _, _, _, _, _, _, _, _, _, _, _, _, _, rfl, rfl⟩⟩
      · obtain ⟨so5, nu5, be5, st, tk, -, -⟩ := step_all T e2 nu3
        have sk1 := skip_eq T e2
        have hs := sk_le tx e2
        rw [nI_1]
        exact Or.inl ⟨_, _, b_some f1 (ino i10 (b_some st rfl)), b_some f2 (ino i10 (b_some sk1 rfl)), _, _, _, _, _, _, _, _, _, _, _, sk tn tx e, _, _, _, _, _, _, _, _, _, _, _, _, rfl, rfl, by omega, hs.2, tk, hd2⟩) 150 0 k1 k2 ((1 : Int32), kind, secret, w_size, codes, masks, alike, havers, left, guessed, wrong, p_size, nI p, so, num, be) ((1 : Int32), words, secretNow, mguessed, mleft, mwrong, nI p, rn, undoMany, mcodes, mmasks) (by decide) ⟨kind, secret, w_size, codes, masks, alike, havers, left, guessed, wrong, p_size, p, so, num, be, words, secretNow, mguessed, mleft, mwrong, rn, undoMany, mcodes, mmasks, rfl, rfl, hp1, hp, ht, hD⟩ with ⟨o, y, f1, f2, q⟩ | ⟨u, x, hr, f1, f2⟩
  · exact ⟨o, y, f1, f2, q⟩
  · obtain ⟨k, s, z, c, m, a, h, l, g, wr, ps, p, so, nu, be, w2, s2, g2, l2, wr2, r2, u2, c2, m2, rfl, rfl, h1, h2, ht, hd⟩ := hr
    omega
theorem read_sim {tn : Nat} {tx : Nat → Nat} {kb mt : Nat → Int32} (T : TX tn tx kb mt) (dc dm da dh mc mm : Nat → Int32) (num rn w0 k0 s0 g0 l0 wr0 n0 m0 u0 : Int32) : (∃ k s w c m a h l g wr ns ms ps q so2 nu be2 w2 k2 s2 g2 l2 wr2 n2 m3 r2 u2 c2 m2, f_X4_readItems dc dm da dh (nI tn) num kb = some (0, k, s, w, c, m, a, h, l, g, wr, ns, ms, ps, nI q, so2, nu, be2) ∧ f_X11_readsGame w0 k0 s0 g0 l0 wr0 n0 m0 (nI tn) rn u0 mc mm mt = some (-1, w2, k2, s2, g2, l2, wr2, n2, m3, nI q, r2, u2, c2, m2)) ∨ (∃ j k s w c m a h l g wr ps pl so2 nu be2 w2 k2 s2 g2 l2 wr2 at2 r2 u2 c2 m2, f_X4_readItems dc dm da dh (nI tn) num kb = some (nI (j + 1), k, s, w, c, m, a, h, l, g, wr, 0, 0, ps, pl, so2, nu, be2) ∧ f_X11_readsGame w0 k0 s0 g0 l0 wr0 n0 m0 (nI tn) rn u0 mc mm mt = some (nI (j + 1), w2, k2, s2, g2, l2, wr2, 0, 0, at2, r2, u2, c2, m2) ∧ j < 150 ∧ DR k s w c m a h l g wr ps w2 k2 s2 g2 l2 wr2 u2 c2 m2) := by
  have h150 := T.1
  obtain ⟨so, nu, be, st, ht, -, -⟩ := step_all T (Nat.zero_le tn) num
  have sk0 := skip_eq T (Nat.zero_le tn)
  have hp := sk_le tx (Nat.zero_le tn)
  obtain ⟨p, hpe⟩ : ∃ p, p = sk tn tx 0 := ⟨_, rfl⟩
  rw [← hpe] at st ht sk0 hp
  have st : f_X8_step (nI tn) num (0 : Int32) kb = some (nI p, so, nu, be) := st
  have sk0 : f_X11_skip (nI tn) (0 : Int32) mt = some (nI p) := sk0
  have rs : f_X7_reset dh (0 : Int32) = some (0, 0, 0, removeAllH dh, 0, 0, 0, 0, 0, 0) := b_some (removeAll_eq dh) (b_some rfl rfl)
  obtain ⟨r, e, hr⟩ := wordHere_eq T hp.2
  unfold f_X4_readItems f_X8_rewind
  rw [Option.bind_some, rs, Option.bind_some, st, Option.bind_some]
  unfold f_X11_readsGame
  by_cases c0 : p = tn
  · have so0 : so = 0 := by
      rcases ht with ⟨-, z⟩ | ⟨z, -⟩
      · exact z
      · omega
    subst so0
    have hw : p ≤ wE tn tx p ∧ wE tn tx p ≤ tn := eR_le tx 97 122 hp.2
    have rm : r = -1 := by
      rcases hr with ⟨-, z, -⟩ | ⟨-, z, -⟩ | ⟨-, z, -⟩ | ⟨-, z, -⟩ | ⟨z, -⟩
      · omega
      · omega
      · omega
      · omega
      · exact z
    subst rm
    have rf : f_X11_readsFirst w0 k0 s0 g0 l0 wr0 n0 m0 (nI tn) (0 : Int32) rn u0 mt = some (0, w0, k0, s0, g0, l0, wr0, n0, m0, nI p, rn, u0) := b_some sk0 (b_some e (ino (by decide) rfl))
    exact Or.inl ⟨_, _, _, _, _, _, _, _, _, _, _, _, _, p, _, _, _, _, _, _, _, _, _, _, _, _, _, _, _, b_some (lp_out (show 0 < KN by decide) (ino (show ¬ (150 : Int32) ≤ 0 from by decide) (ip rfl rfl))) (ino (show ¬ (1 : Nat) = 0 from by decide) rfl), b_some rf (ip rfl rfl)⟩
  · have hlt : p < tn := by omega
    have so0 : ¬ so = 0 := by
      rcases ht with ⟨z, -⟩ | ⟨-, ⟨-, -, rfl, -⟩ | ⟨-, rfl | rfl | rfl⟩⟩
      · exact absurd z c0
      · decide
      · decide
      · decide
      · decide
    have FC : ∀ {k s w c m a h l g wr ps q so2 nu2 be2}, f_X4_readItem (0 : Int32) (0 : Int32) (0 : Int32) dc dm da (removeAllH dh) (0 : Int32) (0 : Int32) (0 : Int32) (0 : Int32) (nI tn) (nI p) so nu be kb (1 : Int32) = some (0, k, s, w, c, m, a, h, l, g, wr, ps, q, so2, nu2, be2) → lp (fun v => B_X4_readItems_24 (nI tn) kb v.1 v.2.1 v.2.2.1 v.2.2.2.1 v.2.2.2.2.1 v.2.2.2.2.2.1 v.2.2.2.2.2.2.1 v.2.2.2.2.2.2.2.1 v.2.2.2.2.2.2.2.2.1 v.2.2.2.2.2.2.2.2.2.1 v.2.2.2.2.2.2.2.2.2.2.1 v.2.2.2.2.2.2.2.2.2.2.2.1 v.2.2.2.2.2.2.2.2.2.2.2.2.1 v.2.2.2.2.2.2.2.2.2.2.2.2.2.1 v.2.2.2.2.2.2.2.2.2.2.2.2.2.2.1 v.2.2.2.2.2.2.2.2.2.2.2.2.2.2.2) KN ((0 : Int32), (0 : Int32), (0 : Int32), (0 : Int32), dc, dm, da, removeAllH dh, (0 : Int32), (0 : Int32), (0 : Int32), (0 : Int32), nI p, so, nu, be) = some (0, (0 : Int32), k, s, w, c, m, a, h, l, g, wr, ps, q, so2, nu2, be2) := fun h => lp_out (show 0 < KN by decide) (ino (show ¬ (150 : Int32) ≤ 0 from by decide) (ino so0 (ip rfl (b_some h (ip rfl rfl)))))
    rcases spells_0 T hlt ht with ⟨s1, hbe, q0⟩ | ⟨s1, q0⟩
    · have r0 : r = 0 := by
        rcases hr with ⟨z, -⟩ | ⟨-, -, z⟩ | ⟨-, z, -⟩ | ⟨-, z, -⟩ | ⟨-, z, -⟩
        · exact z
        · have a := q0.2 0 (by decide)
          rw [z 0 (by decide)] at a
          exact absurd a (by decide)
        · omega
        · omega
        · exact absurd q0 z
      subst r0
      subst hbe
      have hw : p ≤ wE tn tx p ∧ wE tn tx p ≤ tn := eR_le tx 97 122 hp.2
      have hq := sk_le tx hw.2
      have e4 : nI p + (4 : Int32) = nI (wE tn tx p) := by
        rw [q0.1]
        exact nI_add p 4
      rcases num_sim T (L := 6) hw.2 hw.2 rfl (by decide) nu rn with ⟨v, e2, hv, he, het, f1, f2⟩ | ⟨so2, nu2, be2, f1, f2⟩
      · rw [show nI 6 - 1 = (5 : Int32) from by decide, ← e4] at f2
        have hq2 := sk_le tx het
        have bg : f_X11_begin (nI v) = some (0, nI v, 0, 0, 0, 0, 0, 0, 0) := by
          unfold f_X11_begin
          refine b_some (x := ((0 : Int32), (0 : Int32), (0 : Int32))) ?_ rfl
          unfold f_X11_beginsAnew
          rw [left0]
          rfl
        rcases close_sim T het (nI v) with ⟨nu2, d0, d1, d2⟩ | ⟨so2, nu2, be2, d1, d2⟩
        · have rk : f_X4_readKind (0 : Int32) (nI tn) nu (nI (wE tn tx p)) kb = some (1, nI v, nI (sk tn tx e2), 3, nu2, nI (sk tn tx e2 + 1)) := b_some f1 (ino i10 (b_some d1 (ip (Or.inr rfl) rfl)))
          have ri : f_X4_readItem (0 : Int32) (0 : Int32) (0 : Int32) dc dm da (removeAllH dh) (0 : Int32) (0 : Int32) (0 : Int32) (0 : Int32) (nI tn) (nI p) so nu (nI (wE tn tx p)) kb (1 : Int32) = some (1, nI v, 0, 0, dc, dm, da, removeAllH dh, 0, 0, 0, 0, nI (sk tn tx e2), 3, nu2, nI (sk tn tx e2 + 1)) := b_some s1 (ino i10 (ino i10 (b_some rk (ino i10 rfl))))
          have rf : f_X11_readsFirst w0 k0 s0 g0 l0 wr0 n0 m0 (nI tn) (0 : Int32) rn u0 mt = some (1, 0, nI v, 0, 0, 0, 0, 0, 0, nI (sk tn tx e2 + 1), nI v, 0) := b_some sk0 (b_some e (ip rfl (b_some f2 (ino i10 (b_some bg (b_some d2 (ip (Or.inr rfl) rfl)))))))
          have hb2 : sk tn tx e2 + 1 ≤ tn := by omega
          obtain ⟨so5, nu5, be5, st5, tk5, -, -⟩ := step_all T hb2 nu2
          have sk5 := skip_eq T hb2
          have hq5 := sk_le tx hb2
          have W0 : WR 0 (fun _ => 0) dc dm da (removeAllH dh) mc mm := ⟨by decide, fun w hw => absurd hw (by omega), fun w hw => absurd hw (by omega), fun w hw => absurd hw (by omega), fun w hw => absurd hw (by omega), fun l hl => (removeAllH_at dh hl).trans rfl, fun w hw => absurd hw (by omega), fun w hw => absurd hw (by omega), fun v w hv => absurd hv (by omega)⟩
          have D0 : DR (nI v) 0 0 dc dm da (removeAllH dh) 0 0 0 0 0 (nI v) 0 0 0 0 0 mc mm := ⟨0, v, 0, 0, 0, fun _ => 0, W0, ⟨rfl, rfl⟩, ⟨hv, rfl, rfl⟩, ⟨by decide, Or.inr rfl, rfl, rfl⟩, ⟨by decide, fun h => absurd rfl h, rfl, rfl⟩, ⟨gs_0 _ _, rfl, rfl⟩, rfl, rfl, rfl⟩
          have SC : (fun v : Int32 × Int32 × Int32 × Int32 × (Nat → Int32) × (Nat → Int32) × (Nat → Int32) × (Nat → Int32) × Int32 × Int32 × Int32 × Int32 × Int32 × Int32 × Int32 × Int32 => B_X4_readItems_24 (nI tn) kb v.1 v.2.1 v.2.2.1 v.2.2.2.1 v.2.2.2.2.1 v.2.2.2.2.2.1 v.2.2.2.2.2.2.1 v.2.2.2.2.2.2.2.1 v.2.2.2.2.2.2.2.2.1 v.2.2.2.2.2.2.2.2.2.1 v.2.2.2.2.2.2.2.2.2.2.1 v.2.2.2.2.2.2.2.2.2.2.2.1 v.2.2.2.2.2.2.2.2.2.2.2.2.1 v.2.2.2.2.2.2.2.2.2.2.2.2.2.1 v.2.2.2.2.2.2.2.2.2.2.2.2.2.2.1 v.2.2.2.2.2.2.2.2.2.2.2.2.2.2.2) ((0 : Int32), (0 : Int32), (0 : Int32), (0 : Int32), dc, dm, da, removeAllH dh, (0 : Int32), (0 : Int32), (0 : Int32), (0 : Int32), nI p, so, nu, nI (wE tn tx p)) = some (.inl ((1 : Int32), nI v, 0, 0, dc, dm, da, removeAllH dh, 0, 0, 0, 0, nI (sk tn tx (sk tn tx e2 + 1)), so5, nu5, be5)) := ino (show ¬ (150 : Int32) ≤ 0 from by decide) (ino so0 (ip rfl (b_some ri (ino i10 (b_some st5 rfl)))))
          obtain ⟨o, y, g1, g2, g3⟩ := items_sim T D0 (p := sk tn tx (sk tn tx e2 + 1)) (by omega) hq5.2 tk5 nu5 (nI v) 1849 1850
          have g1 : lp (fun v => B_X4_readItems_24 (nI tn) kb v.1 v.2.1 v.2.2.1 v.2.2.2.1 v.2.2.2.2.1 v.2.2.2.2.2.1 v.2.2.2.2.2.2.1 v.2.2.2.2.2.2.2.1 v.2.2.2.2.2.2.2.2.1 v.2.2.2.2.2.2.2.2.2.1 v.2.2.2.2.2.2.2.2.2.2.1 v.2.2.2.2.2.2.2.2.2.2.2.1 v.2.2.2.2.2.2.2.2.2.2.2.2.1 v.2.2.2.2.2.2.2.2.2.2.2.2.2.1 v.2.2.2.2.2.2.2.2.2.2.2.2.2.2.1 v.2.2.2.2.2.2.2.2.2.2.2.2.2.2.2) KN ((0 : Int32), (0 : Int32), (0 : Int32), (0 : Int32), dc, dm, da, removeAllH dh, (0 : Int32), (0 : Int32), (0 : Int32), (0 : Int32), nI p, so, nu, nI (wE tn tx p)) = some o := by
            rw [show KN = (150 + 1849) + 1 from rfl, lp_one SC]
            exact g1
          have g2 := g2
          rw [show 150 + 1850 = KN from rfl] at g2
          rcases g3 with ⟨x, k, s, w, c, m, a, h, l, g, wr, ps, q, so6, nu6, be6, x2, w2, s2, g2', l2, wr2, r2, u2, c2, m2, rfl, rfl⟩ | ⟨j, k, s, w, c, m, a, h, l, g, wr, ps, pl, so6, nu6, be6, w2, s2, g2', l2, wr2, at2, r2, u2, c2, m2, rfl, rfl, hj, hd⟩
          · exact Or.inl ⟨_, _, _, _, _, _, _, _, _, _, _, _, _, q, _, _, _, _, _, _, _, _, _, _, _, _, _, _, _, b_some g1 (ip rfl rfl), b_some rf (ino i10 (b_some sk5 (b_some g2 (ip rfl rfl))))⟩
          · exact Or.inr ⟨j, _, _, _, _, _, _, _, _, _, _, _, _, _, _, _, _, _, _, _, _, _, _, _, _, _, _, b_some g1 (ino (show ¬ (1 : Nat) = 0 from by decide) rfl), b_some rf (ino i10 (b_some sk5 (b_some g2 (ino (show ¬ (1 : Nat) = 0 from by decide) rfl)))), hj, hd⟩
        · have rk : f_X4_readKind (0 : Int32) (nI tn) nu (nI (wE tn tx p)) kb = some (0, nI v, nI (sk tn tx e2), so2, nu2, be2) := b_some f1 (ino i10 (b_some d1 (ip (Or.inl rfl) rfl)))
          have ri := FC (b_some s1 (ino i10 (ino i10 (b_some rk (ip rfl rfl)))))
          have rf : f_X11_readsFirst w0 k0 s0 g0 l0 wr0 n0 m0 (nI tn) (0 : Int32) rn u0 mt = some (0, 0, nI v, 0, 0, 0, 0, 0, 0, nI (sk tn tx e2), nI v, 0) := b_some sk0 (b_some e (ip rfl (b_some f2 (ino i10 (b_some bg (b_some d2 (ip (Or.inl rfl) rfl)))))))
          exact Or.inl ⟨_, _, _, _, _, _, _, _, _, _, _, _, _, sk tn tx e2, _, _, _, _, _, _, _, _, _, _, _, _, _, _, _, b_some ri (ip rfl rfl), b_some rf (ip rfl rfl)⟩
      · rw [show nI 6 - 1 = (5 : Int32) from by decide, ← e4] at f2
        have rk : f_X4_readKind (0 : Int32) (nI tn) nu (nI (wE tn tx p)) kb = some (0, 0, nI (sk tn tx (wE tn tx p)), so2, nu2, be2) := b_some f1 (ip rfl rfl)
        have ri := FC (b_some s1 (ino i10 (ino i10 (b_some rk (ip rfl rfl)))))
        have rf : f_X11_readsFirst w0 k0 s0 g0 l0 wr0 n0 m0 (nI tn) (0 : Int32) rn u0 mt = some (0, w0, k0, s0, g0, l0, wr0, n0, m0, nI (sk tn tx (wE tn tx p)), rn, u0) := b_some sk0 (b_some e (ip rfl (b_some f2 (ip rfl rfl))))
        exact Or.inl ⟨_, _, _, _, _, _, _, _, _, _, _, _, _, sk tn tx (wE tn tx p), _, _, _, _, _, _, _, _, _, _, _, _, _, _, _, b_some ri (ip rfl rfl), b_some rf (ip rfl rfl)⟩
    · have r0 : ¬ r = 0 := by
        rcases hr with ⟨-, z⟩ | ⟨rfl, -⟩ | ⟨rfl, -⟩ | ⟨rfl, -⟩ | ⟨rfl, -⟩
        · exact absurd z q0
        · decide
        · decide
        · decide
        · decide
      have ri := FC (b_some s1 (ip rfl (ino i10 rfl)))
      have rf : f_X11_readsFirst w0 k0 s0 g0 l0 wr0 n0 m0 (nI tn) (0 : Int32) rn u0 mt = some (0, w0, k0, s0, g0, l0, wr0, n0, m0, nI p, rn, u0) := b_some sk0 (b_some e (ino r0 rfl))
      exact Or.inl ⟨_, _, _, _, _, _, _, _, _, _, _, _, _, p, _, _, _, _, _, _, _, _, _, _, _, _, _, _, _, b_some ri (ip rfl rfl), b_some rf (ip rfl rfl)⟩
