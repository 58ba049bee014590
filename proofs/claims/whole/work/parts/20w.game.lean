/-! a game that is read, on both sides -/
theorem item_sim {tn : Nat} {tx : Nat → Nat} {kb mt : Nat → Int32} (T : TX tn tx kb mt) {kind secret w_size : Int32} {codes masks alike havers : Nat → Int32} {left guessed wrong p_size words kindNow secretNow mguessed mleft mwrong undoMany : Int32} {mcodes mmasks : Nat → Int32} (hD : DR kind secret w_size codes masks alike havers left guessed wrong p_size words kindNow secretNow mguessed mleft mwrong undoMany mcodes mmasks) {p : Nat} (hp : p < tn) {so be : Int32} (ht : Tok tn tx p so be) (num rn : Int32) : (∃ k s w c m a h l g wr ps q so2 nu be2 w2 s2 g2 l2 wr2 r2 u2 c2 m2, f_X4_readItem kind secret w_size codes masks alike havers left guessed wrong p_size (nI tn) (nI p) so num be kb 0 = some (0, k, s, w, c, m, a, h, l, g, wr, ps, nI q, so2, nu, be2) ∧ f_X11_readsItem words kindNow secretNow mguessed mleft mwrong (nI tn) (nI p) rn undoMany mcodes mmasks mt = some (0, w2, s2, g2, l2, wr2, nI q, r2, u2, c2, m2)) ∨ (∃ k s w c m a h l g wr ps pl so2 nu e w2 s2 g2 l2 wr2 r2 u2 c2 m2, f_X4_readItem kind secret w_size codes masks alike havers left guessed wrong p_size (nI tn) (nI p) so num be kb 0 = some (1, k, s, w, c, m, a, h, l, g, wr, ps, pl, so2, nu, nI e) ∧ f_X11_readsItem words kindNow secretNow mguessed mleft mwrong (nI tn) (nI p) rn undoMany mcodes mmasks mt = some (1, w2, s2, g2, l2, wr2, nI e, r2, u2, c2, m2) ∧ p < e ∧ e ≤ tn ∧ DR k s w c m a h l g wr ps w2 kindNow s2 g2 l2 wr2 u2 c2 m2) := by
  have h150 := T.1
  have hw : p ≤ wE tn tx p ∧ wE tn tx p ≤ tn := eR_le tx 97 122 (show p ≤ tn by omega)
  have ws := wordSize_eq T (show p ≤ tn by omega)
  have ea : nI p + nI (wE tn tx p - p) = nI (wE tn tx p) := by
    rw [nI_add]
    congr 1
    omega
  obtain ⟨r, e, hr⟩ := wordHere_eq T (show p ≤ tn by omega)
  unfold f_X4_readItem f_X11_readsItem
  rw [e, Option.bind_some]
  have fail : ∀ {C : Option (Int32 × Int32 × Int32 × Int32 × (Nat → Int32) × (Nat → Int32) × (Nat → Int32) × (Nat → Int32) × Int32 × Int32 × Int32 × Int32 × Int32 × Int32 × Int32 × Int32)} {M : Option (Int32 × Int32 × Int32 × Int32 × Int32 × Int32 × Int32 × Int32 × Int32 × (Nat → Int32) × (Nat → Int32))}, C = some ((0 : Int32), kind, secret, w_size, codes, masks, alike, havers, left, guessed, wrong, p_size, nI p, so, num, be) → M = some ((0 : Int32), words, secretNow, mguessed, mleft, mwrong, nI p, rn, undoMany, mcodes, mmasks) → ∃ k s w c m a h l g wr ps q so2 nu be2 w2 s2 g2 l2 wr2 r2 u2 c2 m2, C = some ((0 : Int32), k, s, w, c, m, a, h, l, g, wr, ps, nI q, so2, nu, be2) ∧ M = some ((0 : Int32), w2, s2, g2, l2, wr2, nI q, r2, u2, c2, m2) := fun h1 h2 => ⟨_, _, _, _, _, _, _, _, _, _, _, p, _, _, _, _, _, _, _, _, _, _, _, _, h1, h2⟩
  rcases spells_0 T hp ht with ⟨s0, hbe, q0⟩ | ⟨s0, q0⟩
  · have r0 : r = 0 := by
      rcases hr with ⟨z, -⟩ | ⟨-, -, z⟩ | ⟨-, z, -⟩ | ⟨-, z, -⟩ | ⟨-, z, -⟩
      · exact z
      · have a := q0.2 0 (by decide)
        rw [z 0 (by decide)] at a
        exact absurd a (by decide)
      · omega
      · omega
      · exact absurd q0 z
    subst r0
    exact Or.inl (fail (b_some s0 (ino i10 (ip rfl rfl))) (ip (by decide) rfl))
  · rw [s0, Option.bind_some, if_pos rfl, if_pos rfl]
    rcases spells_1 T hp ht with ⟨s1, hbe, q1⟩ | ⟨s1, q1⟩
    · have r1 : r = 1 := by
        rcases hr with ⟨-, z⟩ | ⟨z, -⟩ | ⟨-, z, -⟩ | ⟨-, z, -⟩ | ⟨-, -, z, -⟩
        · exact absurd z q0
        · exact z
        · omega
        · omega
        · exact absurd q1 z
      subst r1
      rw [s1, Option.bind_some, if_neg i10, if_neg (show ¬ (1 : Int32) < 1 from by decide), if_pos rfl]
      subst hbe
      by_cases w8 : words = 8
      · rw [if_pos w8]
        refine Or.inl (fail ?_ rfl)
        obtain ⟨n, kd, sc, lf, gs, cd, W, ⟨rfl, rfl⟩, -⟩ := hD
        have := W.hn
        have n8 := (nI_eq (b := 8) (by omega) (by decide)).mp w8
        subst n8
        refine b_some (x := ((0 : Int32), nI 8, codes, masks, alike, havers, left, guessed, wrong, p_size, nI p, so, num, nI (wE tn tx p))) ?_ (ip (Or.inl rfl) rfl)
        unfold f_X4_readWord
        exact ip (by decide) rfl
      · rw [if_neg w8]
        by_cases g0 : mguessed = 0
        · rw [if_pos g0]
          unfold J_X11_readsItem_33
          rw [ws, Option.bind_some, if_pos rfl, ea]
          rcases word_sim T hD w8 g0 hw.2 (nI p) so num rn with ⟨w, c, m, a, h, l, g, wr, ps, q, so2, nu, be2, w2, g2, l2, wr2, r2, u2, c2, m2, f1, f2⟩ | ⟨w, c, m, a, h, l, g, wr, ps, pl2, so2, nu, e2, w2, g2, l2, wr2, r2, u2, c2, m2, f1, f2, h1, h2, hd⟩
          · exact Or.inl ⟨_, _, _, _, _, _, _, _, _, _, _, q, _, _, _, _, _, _, _, _, _, _, _, _, b_some f1 (ip (Or.inl rfl) rfl), b_some f2 (ip (Or.inl rfl) rfl)⟩
          · exact Or.inr ⟨_, _, _, _, _, _, _, _, _, _, _, _, _, _, e2, _, _, _, _, _, _, _, _, _, b_some f1 (ip (Or.inr rfl) rfl), b_some f2 (ip (Or.inr rfl) rfl), by omega, h2, hd⟩
        · rw [if_neg g0]
          refine Or.inl (fail ?_ rfl)
          obtain ⟨n, kd, sc, lf, gs, cd, W, ⟨rfl, rfl⟩, -, -, -, ⟨-, rfl, rfl⟩, -⟩ := hD
          have := W.hn
          refine b_some (x := ((0 : Int32), nI n, codes, masks, alike, havers, left, nI gs, wrong, p_size, nI p, so, num, nI (wE tn tx p))) ?_ (ip (Or.inl rfl) rfl)
          unfold f_X4_readWord
          by_cases z : (8 : Int32) ≤ nI n
          · exact ip z rfl
          · exact ino z (ino g0 rfl)
    · rw [s1, Option.bind_some, if_pos rfl]
      rcases spells_2 T hp ht with ⟨s2, hbe, q2⟩ | ⟨s2, q2⟩
      · have r2 : r = 2 := by
          rcases hr with ⟨-, z⟩ | ⟨-, z⟩ | ⟨z, -⟩ | ⟨-, z, -⟩ | ⟨-, -, -, z, -⟩
          · exact absurd z q0
          · exact absurd z q1
          · exact z
          · omega
          · exact absurd q2 z
        subst r2
        subst hbe
        rw [s2, Option.bind_some, if_neg i10, if_neg (show ¬ (2 : Int32) < 1 from by decide), if_neg (show ¬ (2 : Int32) = 1 from by decide)]
        unfold J_X11_readsItem_33
        rw [ws, Option.bind_some, if_neg (show ¬ (2 : Int32) = 1 from by decide), if_pos rfl, ea]
        rcases secret_sim T hD hw.2 num rn with ⟨s, q, so2, nu, be2, s2, r2, f1, f2⟩ | ⟨s, pl, so2, nu, e2, s2, r2, f1, f2, h1, h2, hd⟩
        · exact Or.inl ⟨_, _, _, _, _, _, _, _, _, _, _, q, _, _, _, _, _, _, _, _, _, _, _, _, b_some f1 (ip (Or.inl rfl) rfl), b_some f2 (ip (Or.inl rfl) rfl)⟩
        · exact Or.inr ⟨_, _, _, _, _, _, _, _, _, _, _, _, _, _, e2, _, _, _, _, _, _, _, _, _, b_some f1 (ip (Or.inr rfl) rfl), b_some f2 (ip (Or.inr rfl) rfl), by omega, h2, hd⟩
      · rw [s2, Option.bind_some, if_pos rfl]
        rcases spells_3 T hp ht with ⟨s3, hbe, q3⟩ | ⟨s3, q3⟩
        · have r3 : r = 3 := by
            rcases hr with ⟨-, z⟩ | ⟨-, z⟩ | ⟨-, z⟩ | ⟨z, -⟩ | ⟨-, -, -, -, z⟩
            · exact absurd z q0
            · exact absurd z q1
            · exact absurd z q2
            · exact z
            · exact absurd q3 z
          subst r3
          subst hbe
          rw [s3, Option.bind_some, if_neg i10, if_neg (show ¬ (3 : Int32) < 1 from by decide), if_neg (show ¬ (3 : Int32) = 1 from by decide)]
          unfold J_X11_readsItem_33
          rw [ws, Option.bind_some, if_neg (show ¬ (3 : Int32) = 1 from by decide), if_neg (show ¬ (3 : Int32) = 2 from by decide), ea]
          rcases guess_sim T hD hw.2 num rn with ⟨l, g, w, q, so2, nu, be2, g2, l2, w2, r2, f1, f2⟩ | ⟨l, g, w, pl, so2, nu, e2, g2, l2, w2, r2, f1, f2, h1, h2, hd⟩
          · exact Or.inl ⟨_, _, _, _, _, _, _, _, _, _, _, q, _, _, _, _, _, _, _, _, _, _, _, _, b_some f1 (ip rfl rfl), b_some f2 (ip (Or.inl rfl) rfl)⟩
          · exact Or.inr ⟨_, _, _, _, _, _, _, _, _, _, _, _, _, _, e2, _, _, _, _, _, _, _, _, _, b_some f1 (ino i10 rfl), b_some f2 (ip (Or.inr rfl) rfl), by omega, h2, hd⟩
        · have rm : r = -1 := by
            rcases hr with ⟨-, z⟩ | ⟨-, z⟩ | ⟨-, z⟩ | ⟨-, z⟩ | ⟨z, -⟩
            · exact absurd z q0
            · exact absurd z q1
            · exact absurd z q2
            · exact absurd z q3
            · exact z
          subst rm
          exact Or.inl (fail (b_some s3 (ip rfl rfl)) (ip (by decide) rfl))
theorem items_sim {tn : Nat} {tx : Nat → Nat} {kb mt : Nat → Int32} (T : TX tn tx kb mt) {kind secret w_size : Int32} {codes masks alike havers : Nat → Int32} {left guessed wrong p_size words kindNow secretNow mguessed mleft mwrong undoMany : Int32} {mcodes mmasks : Nat → Int32} (hD : DR kind secret w_size codes masks alike havers left guessed wrong p_size words kindNow secretNow mguessed mleft mwrong undoMany mcodes mmasks) {p : Nat} (hp1 : 1 ≤ p) (hp : p ≤ tn) {so be : Int32} (ht : Tok tn tx p so be) (num rn : Int32) (F : Nat) (hF : 150 < F) : ∃ o y, lp (fun v => B_X4_readItems_24 (nI tn) kb v.1 v.2.1 v.2.2.1 v.2.2.2.1 v.2.2.2.2.1 v.2.2.2.2.2.1 v.2.2.2.2.2.2.1 v.2.2.2.2.2.2.2.1 v.2.2.2.2.2.2.2.2.1 v.2.2.2.2.2.2.2.2.2.1 v.2.2.2.2.2.2.2.2.2.2.1 v.2.2.2.2.2.2.2.2.2.2.2.1 v.2.2.2.2.2.2.2.2.2.2.2.2.1 v.2.2.2.2.2.2.2.2.2.2.2.2.2.1 v.2.2.2.2.2.2.2.2.2.2.2.2.2.2.1 v.2.2.2.2.2.2.2.2.2.2.2.2.2.2.2) F ((1 : Int32), kind, secret, w_size, codes, masks, alike, havers, left, guessed, wrong, p_size, nI p, so, num, be) = some o ∧ lp (fun v => B_X11_readsGame_20 kindNow (nI tn) mt v.1 v.2.1 v.2.2.1 v.2.2.2.1 v.2.2.2.2.1 v.2.2.2.2.2.1 v.2.2.2.2.2.2.1 v.2.2.2.2.2.2.2.1 v.2.2.2.2.2.2.2.2.1 v.2.2.2.2.2.2.2.2.2.1 v.2.2.2.2.2.2.2.2.2.2) F ((1 : Int32), words, secretNow, mguessed, mleft, mwrong, nI p, rn, undoMany, mcodes, mmasks) = some y ∧ ((∃ x k s w c m a h l g wr ps q so2 nu be2 x2 w2 s2 g2 l2 wr2 r2 u2 c2 m2, o = (0, x, k, s, w, c, m, a, h, l, g, wr, ps, nI q, so2, nu, be2) ∧ y = (0, x2, w2, s2, g2, l2, wr2, nI q, r2, u2, c2, m2)) ∨ (∃ j k s w c m a h l g wr ps pl so2 nu be2 w2 s2 g2 l2 wr2 at2 r2 u2 c2 m2, o = (1, nI (j + 1), k, s, w, c, m, a, h, l, g, wr, ps, pl, so2, nu, be2) ∧ y = (1, nI (j + 1), w2, s2, g2, l2, wr2, at2, r2, u2, c2, m2) ∧ j < 150 ∧ DR k s w c m a h l g wr ps w2 kindNow s2 g2 l2 wr2 u2 c2 m2)) := by
  have h150 := T.1
  refine lp_sim0 (fun i v w => ∃ k s z c m a h l g wr ps p so nu be w2 s2 g2 l2 wr2 r2 u2 c2 m2, v = (nI (i + 1), k, s, z, c, m, a, h, l, g, wr, ps, nI p, so, nu, be) ∧ w = (nI (i + 1), w2, s2, g2, l2, wr2, nI p, r2, u2, c2, m2) ∧ i + 1 ≤ p ∧ p ≤ tn ∧ Tok tn tx p so be ∧ DR k s z c m a h l g wr ps w2 kindNow s2 g2 l2 wr2 u2 c2 m2) _ 150 (fun i v w hi hv => ?_) (fun v w hv => ?_) 150 0 F _ _ (by decide) hF ⟨kind, secret, w_size, codes, masks, alike, havers, left, guessed, wrong, p_size, p, so, num, be, words, secretNow, mguessed, mleft, mwrong, rn, undoMany, mcodes, mmasks, rfl, rfl, hp1, hp, ht, hD⟩
  · obtain ⟨k, s, z, c, m, a, h, l, g, wr, ps, p, so, nu, be, w2, s2, g2, l2, wr2, r2, u2, c2, m2, rfl, rfl, h1, h2, ht, hd⟩ := hv
    show (∃ u x, B_X4_readItems_24 (nI tn) kb (nI (i + 1)) k s z c m a h l g wr ps (nI p) so nu be = some (.inl u) ∧ B_X11_readsGame_20 kindNow (nI tn) mt (nI (i + 1)) w2 s2 g2 l2 wr2 (nI p) r2 u2 c2 m2 = some (.inl x) ∧ _) ∨ (∃ o y, B_X4_readItems_24 (nI tn) kb (nI (i + 1)) k s z c m a h l g wr ps (nI p) so nu be = some (.inr o) ∧ B_X11_readsGame_20 kindNow (nI tn) mt (nI (i + 1)) w2 s2 g2 l2 wr2 (nI p) r2 u2 c2 m2 = some (.inr y) ∧ _)
    unfold B_X4_readItems_24 B_X11_readsGame_20
    by_cases c0 : p = tn
    · subst c0
      have so0 : so = 0 := by
        rcases ht with ⟨-, z⟩ | ⟨z, -⟩
        · exact z
        · omega
      subst so0
      have fin : nI p ≤ nI p := nI_le (Nat.le_refl _) (by omega)
      refine Or.inr ⟨(1, nI (i + 1), k, s, z, c, m, a, h, l, g, wr, ps, nI p, 0, nu, be), _, ?_, ip fin rfl, Or.inr ⟨i, _, _, _, _, _, _, _, _, _, _, _, _, _, _, _, _, _, _, _, _, _, _, _, _, _, rfl, rfl, hi, hd⟩⟩
      by_cases x : (150 : Int32) ≤ nI (i + 1)
      · exact ip x rfl
      · exact ino x (ip rfl rfl)
    · have hlt : p < tn := by omega
      have so0 : ¬ so = 0 := by
        rcases ht with ⟨z, -⟩ | ⟨-, ⟨-, -, rfl, -⟩ | ⟨-, rfl | rfl | rfl⟩⟩
        · exact absurd z c0
        · decide
        · decide
        · decide
        · decide
      rw [if_neg (show ¬ (150 : Int32) ≤ nI (i + 1) from nI_ge (b := 150) (by omega) (by decide)), if_neg so0, if_neg (nI_ne0 (n := i + 1) (by omega) (by omega)), if_neg (nI_ge hlt (by omega))]
      rcases item_sim T hd hlt ht nu r2 with ⟨k3, s3, w3, c3, m3, a3, h3, l3, g3, wr3, ps3, q, so3, nu3, be3, w4, s4, g4, l4, wr4, r4, u4, c4, m4, f1, f2⟩ | ⟨k3, s3, w3, c3, m3, a3, h3, l3, g3, wr3, ps3, pl, so3, nu3, e, w4, s4, g4, l4, wr4, r4, u4, c4, m4, f1, f2, e1, e2, hd2⟩
      · exact Or.inr ⟨_, _, b_some f1 (ip rfl rfl), b_some f2 (ip rfl rfl), Or.inl ⟨_, _, _, _, _, _, _, _, _, _, _, _, q, _, _, _, _, _, _, _, _, _, _, _, _, _, rfl, rfl⟩⟩
      · obtain ⟨so5, nu5, be5, st, tk, -, -⟩ := step_all T e2 nu3
        have sk1 := skip_eq T e2
        have hs := sk_le tx e2
        rw [nI_1]
        exact Or.inl ⟨_, _, b_some f1 (ino i10 (b_some st rfl)), b_some f2 (ino i10 (b_some sk1 rfl)), _, _, _, _, _, _, _, _, _, _, _, sk tn tx e, _, _, _, _, _, _, _, _, _, _, _, _, rfl, rfl, by omega, hs.2, tk, hd2⟩
  · obtain ⟨k, s, z, c, m, a, h, l, g, wr, ps, p, so, nu, be, w2, s2, g2, l2, wr2, r2, u2, c2, m2, rfl, rfl, h1, h2, ht, hd⟩ := hv
    omega
theorem read_sim {tn : Nat} {tx : Nat → Nat} {kb mt : Nat → Int32} (T : TX tn tx kb mt) (dc dm da dh mc mm : Nat → Int32) (num rn w0 k0 s0 g0 l0 wr0 n0 m0 u0 : Int32) : (∃ k s w c m a h l g wr ns ms ps q so2 nu be2 w2 k2 s2 g2 l2 wr2 n2 m3 r2 u2 c2 m2, f_X4_readItems dc dm da dh (nI tn) num kb = some (0, k, s, w, c, m, a, h, l, g, wr, ns, ms, ps, nI q, so2, nu, be2) ∧ f_X11_readsGame w0 k0 s0 g0 l0 wr0 n0 m0 (nI tn) rn u0 mc mm mt = some (-1, w2, k2, s2, g2, l2, wr2, n2, m3, nI q, r2, u2, c2, m2)) ∨ (∃ j k s w c m a h l g wr ps pl so2 nu be2 w2 k2 s2 g2 l2 wr2 at2 r2 u2 c2 m2, f_X4_readItems dc dm da dh (nI tn) num kb = some (nI (j + 1), k, s, w, c, m, a, h, l, g, wr, 0, 0, ps, pl, so2, nu, be2) ∧ f_X11_readsGame w0 k0 s0 g0 l0 wr0 n0 m0 (nI tn) rn u0 mc mm mt = some (nI (j + 1), w2, k2, s2, g2, l2, wr2, 0, 0, at2, r2, u2, c2, m2) ∧ j < 150 ∧ DR k s w c m a h l g wr ps w2 k2 s2 g2 l2 wr2 u2 c2 m2) := by
  have h150 := T.1
  obtain ⟨so, nu, be, st, ht, -, -⟩ := step_all T (Nat.zero_le tn) num
  have sk0 := skip_eq T (Nat.zero_le tn)
  have hp := sk_le tx (Nat.zero_le tn)
  obtain ⟨p, hpe⟩ : ∃ p, p = sk tn tx 0 := ⟨_, rfl⟩
  rw [← hpe] at st ht sk0 hp
  have st : f_X8_step (nI tn) num (0 : Int32) kb = some (nI p, so, nu, be) := st
  have sk0 : f_X11_skip (nI tn) (0 : Int32) mt = some (nI p) := sk0
  have rs : f_X7_reset dh (0 : Int32) = some (0, 0, 0, removeAllH dh, 0, 0, 0, 0, 0, 0) := b_some (removeAll_eq dh) (b_some rfl rfl)
  obtain ⟨r, e, hr⟩ := wordHere_eq T hp.2
  unfold f_X4_readItems f_X8_rewind
  rw [Option.bind_some, rs, Option.bind_some, st, Option.bind_some]
  unfold f_X11_readsGame
  have FAIL : ∀ (q : Nat) {x k s w c m a h l g wr ps so2 nu2 be2} {M : Option (Int32 × Int32 × Int32 × Int32 × Int32 × Int32 × Int32 × Int32 × Int32 × Int32 × Int32 × Int32)} {w2 k2 s2 g2 l2 wr2 n2 m3 r2 u2}, (fun v : Int32 × Int32 × Int32 × Int32 × (Nat → Int32) × (Nat → Int32) × (Nat → Int32) × (Nat → Int32) × Int32 × Int32 × Int32 × Int32 × Int32 × Int32 × Int32 × Int32 => B_X4_readItems_24 (nI tn) kb v.1 v.2.1 v.2.2.1 v.2.2.2.1 v.2.2.2.2.1 v.2.2.2.2.2.1 v.2.2.2.2.2.2.1 v.2.2.2.2.2.2.2.1 v.2.2.2.2.2.2.2.2.1 v.2.2.2.2.2.2.2.2.2.1 v.2.2.2.2.2.2.2.2.2.2.1 v.2.2.2.2.2.2.2.2.2.2.2.1 v.2.2.2.2.2.2.2.2.2.2.2.2.1 v.2.2.2.2.2.2.2.2.2.2.2.2.2.1 v.2.2.2.2.2.2.2.2.2.2.2.2.2.2.1 v.2.2.2.2.2.2.2.2.2.2.2.2.2.2.2) ((0 : Int32), (0 : Int32), (0 : Int32), (0 : Int32), dc, dm, da, removeAllH dh, (0 : Int32), (0 : Int32), (0 : Int32), (0 : Int32), nI p, so, nu, be) = some (.inr (0, x, k, s, w, c, m, a, h, l, g, wr, ps, nI q, so2, nu2, be2)) → M = some (0, w2, k2, s2, g2, l2, wr2, n2, m3, nI q, r2, u2) → True := fun _ _ _ _ _ _ _ _ _ _ _ _ _ _ _ _ _ _ _ _ _ _ _ _ _ _ _ _ _ => trivial
  sorry
