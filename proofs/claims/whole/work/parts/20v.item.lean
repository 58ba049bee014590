/-! items of a text, on both sides -/
def DR (kind secret w_size : Int32) (codes masks alike havers : Nat → Int32) (left guessed wrong p_size words kindNow secretNow mguessed mleft mwrong undoMany : Int32) (mcodes mmasks : Nat → Int32) : Prop := ∃ (n kd sc lf gs : Nat) (cd : Nat → Nat), WR n cd codes masks alike havers mcodes mmasks ∧ (w_size = nI n ∧ words = nI n) ∧ (kd < 6 ∧ kind = nI kd ∧ kindNow = nI kd) ∧ (sc < 8 ∧ (sc < n ∨ sc = 0) ∧ secret = nI sc ∧ secretNow = nI sc) ∧ (lf < 2 ^ n ∧ (n ≠ 0 → lf ≠ 0) ∧ left = nI lf ∧ mleft = nI lf) ∧ (GsOK cd lf gs ∧ guessed = nI gs ∧ mguessed = nI gs) ∧ wrong = mwrong ∧ p_size = 0 ∧ undoMany = 0
theorem lp_pre {V O V2 O2 : Type} {B : V → Option (V ⊕ O)} {B2 : V2 → Option (V2 ⊕ O2)} (R : Nat → V → V2 → Prop) (Q : O → O2 → Prop) (M : Nat) (h1 : ∀ i v w, i < M → R i v w → (∃ u x, B v = some (.inl u) ∧ B2 w = some (.inl x) ∧ R (i + 1) u x) ∨ (∃ o p, B v = some (.inr o) ∧ B2 w = some (.inr p) ∧ Q o p)) : ∀ (N i k k2 : Nat) (v : V) (w : V2), i + N ≤ M → R i v w → (∃ o p, lp B (N + k) v = some o ∧ lp B2 (N + k2) w = some p ∧ Q o p) ∨ (∃ u x, R (i + N) u x ∧ lp B (N + k) v = lp B k u ∧ lp B2 (N + k2) w = lp B2 k2 x) := by
  intro N
  induction N with
  | zero =>
    intro i k k2 v w _ h
    exact Or.inr ⟨v, w, h, by rw [Nat.zero_add], by rw [Nat.zero_add]⟩
  | succ N ih =>
    intro i k k2 v w hM h
    rw [show N + 1 + k = (N + k) + 1 by omega, show N + 1 + k2 = (N + k2) + 1 by omega]
    rcases h1 i v w (by omega) h with ⟨u, x, e1, e2, r⟩ | ⟨o, p, e1, e2, q⟩
    · rw [lp_one e1, lp_one e2, show i + (N + 1) = i + 1 + N by omega]
      exact ih (i + 1) k k2 u x (by omega) r
    · exact Or.inl ⟨o, p, lp_out (by omega) e1, lp_out (by omega) e2, q⟩
theorem guess_sim {tn : Nat} {tx : Nat → Nat} {kb mt : Nat → Int32} (T : TX tn tx kb mt) {kind secret w_size : Int32} {codes masks alike havers : Nat → Int32} {left guessed wrong p_size words kindNow secretNow mguessed mleft mwrong undoMany : Int32} {mcodes mmasks : Nat → Int32} (hD : DR kind secret w_size codes masks alike havers left guessed wrong p_size words kindNow secretNow mguessed mleft mwrong undoMany mcodes mmasks) {b : Nat} (hb : b ≤ tn) (num rn : Int32) : (∃ l g w q so nu be g2 l2 w2 r2, f_X4_readGuess kind secret w_size masks alike havers left guessed wrong (nI tn) num (nI b) kb = some (0, l, g, w, nI q, so, nu, be) ∧ f_X11_readsGuess words kindNow secretNow mguessed mleft mwrong (nI tn) (nI b) rn mmasks mt = some (0, g2, l2, w2, nI q, r2)) ∨ (∃ l g w pl so nu e g2 l2 w2 r2, f_X4_readGuess kind secret w_size masks alike havers left guessed wrong (nI tn) num (nI b) kb = some (1, l, g, w, pl, so, nu, nI e) ∧ f_X11_readsGuess words kindNow secretNow mguessed mleft mwrong (nI tn) (nI b) rn mmasks mt = some (1, g2, l2, w2, nI e, r2) ∧ b < e ∧ e ≤ tn ∧ DR kind secret w_size codes masks alike havers l g w p_size words kindNow secretNow g2 l2 w2 undoMany mcodes mmasks) := by
  have h150 := T.1
  have hp := sk_le tx hb
  obtain ⟨n, kd, sc, lf, gs, cd, W, ⟨rfl, rfl⟩, ⟨hkd, rfl, rfl⟩, ⟨hsc, hsn, rfl, rfl⟩, ⟨hlf, hl0, rfl, rfl⟩, ⟨hg, rfl, rfl⟩, rfl, rfl, rfl⟩ := hD
  have hn := W.hn
  have h256 := lt256 hn hlf
  have hgl := hg.1
  have e1 := skip_eq T hb
  unfold f_X4_readGuess f_X11_readsGuess
  rcases num_sim T (L := 10) hb hp.2 (sk_idem hb) (by decide) num rn with ⟨v, e, hv, he, het, f1, f2⟩ | ⟨so, nu, be, f1, f2⟩
  · rw [show nI 10 - 1 = (9 : Int32) from by decide] at f2
    have f1 : f_X4_stepToNumber (nI tn) num (nI b) kb (10 : Int32) = some (1, nI (sk tn tx b), 2, nI v, nI e) := f1
    rw [f1, Option.bind_some, if_neg i10, e1, Option.bind_some, f2, Option.bind_some, if_neg i10]
    by_cases n0 : n = 0
    · subst n0
      have l0 : lf = 0 := by omega
      subst l0
      exact Or.inl ⟨_, _, _, sk tn tx b, _, _, _, _, _, _, _, b_some (x := 0) (ip rfl rfl) (ip rfl rfl), ip rfl rfl⟩
    · have lf0 := hl0 n0
      rw [if_neg (nI_ne0 (n := n) (by omega) (by omega))]
      cases hbit : gs.testBit v
      · obtain ⟨m, lf2, k, hm, t1, t2, t3, t4, t5, t6, t7⟩ := W.turn wrong hkd hsc hlf lf0 hg hv
        have op : f_X1_isOpen (nI lf) (nI gs) (nI v) = some 1 := ino (nI_ne0 (by omega) (by omega)) (ip (bz (by omega) (by omega) hbit) rfl)
        have tg : f_X7_takeGuess (nI kd) (nI sc) (nI n) masks alike havers (nI lf) (nI gs) wrong (nI v) = some (nI m, nI lf2, nI (gs ||| 2 ^ v), wrong + nI k) := b_some (gu_eq hgl) (b_some t1 (b_some t2 rfl))
        have gm : f_X11_guesses (nI n) (nI kd) (nI sc) (nI gs) (nI lf) wrong mmasks (nI v) = some (nI m, nI (gs ||| 2 ^ v), nI lf2, wrong + nI k) := b_some t3 rfl
        have hq := sk_le tx het
        rcases close_sim T het (nI v) with ⟨nu, c0, c1, c2⟩ | ⟨so, nu, be, c1, c2⟩
        · exact Or.inr ⟨_, _, _, _, _, _, sk tn tx e + 1, _, _, _, _, b_some op (ino i10 (b_some tg (b_some c1 (ip (Or.inr rfl) rfl)))), b_some (has_f (by omega) (by omega) hbit) (ip rfl (b_some c2 (ino i10 (b_some gm rfl)))), by omega, by omega, n, kd, sc, lf2, gs ||| 2 ^ v, cd, W, ⟨rfl, rfl⟩, ⟨hkd, rfl, rfl⟩, ⟨hsc, hsn, rfl, rfl⟩, ⟨t4, fun _ => t5, rfl, rfl⟩, ⟨t6, rfl, rfl⟩, rfl, rfl, rfl⟩
        · exact Or.inl ⟨_, _, _, sk tn tx e, _, _, _, _, _, _, _, b_some op (ino i10 (b_some tg (b_some c1 (ip (Or.inl rfl) rfl)))), b_some (has_f (by omega) (by omega) hbit) (ip rfl (b_some c2 (ip rfl rfl)))⟩
      · have op : f_X1_isOpen (nI lf) (nI gs) (nI v) = some 0 := ino (nI_ne0 (by omega) (by omega)) (ino (bnz (by omega) (by omega) hbit) rfl)
        exact Or.inl ⟨_, _, _, sk tn tx b, _, _, _, _, _, _, _, b_some op (ip rfl rfl), b_some (has_t (by omega) (by omega) hbit) (ino i10 rfl)⟩
  · rw [show nI 10 - 1 = (9 : Int32) from by decide] at f2
    exact Or.inl ⟨_, _, _, sk tn tx b, _, _, _, _, _, _, _, b_some f1 (ip rfl rfl), b_some e1 (b_some f2 (ip rfl rfl))⟩
theorem secret_sim {tn : Nat} {tx : Nat → Nat} {kb mt : Nat → Int32} (T : TX tn tx kb mt) {kind secret w_size : Int32} {codes masks alike havers : Nat → Int32} {left guessed wrong p_size words kindNow secretNow mguessed mleft mwrong undoMany : Int32} {mcodes mmasks : Nat → Int32} (hD : DR kind secret w_size codes masks alike havers left guessed wrong p_size words kindNow secretNow mguessed mleft mwrong undoMany mcodes mmasks) {b : Nat} (hb : b ≤ tn) (num rn : Int32) : (∃ s q so nu be s2 r2, f_X4_readSecret secret w_size (nI tn) num (nI b) kb = some (0, s, nI q, so, nu, be) ∧ f_X11_readsSecret words secretNow (nI tn) (nI b) rn mt = some (0, s2, nI q, r2)) ∨ (∃ s pl so nu e s2 r2, f_X4_readSecret secret w_size (nI tn) num (nI b) kb = some (1, s, pl, so, nu, nI e) ∧ f_X11_readsSecret words secretNow (nI tn) (nI b) rn mt = some (1, s2, nI e, r2) ∧ b < e ∧ e ≤ tn ∧ DR kind s w_size codes masks alike havers left guessed wrong p_size words kindNow s2 mguessed mleft mwrong undoMany mcodes mmasks) := by
  have h150 := T.1
  have hp := sk_le tx hb
  obtain ⟨n, kd, sc, lf, gs, cd, W, ⟨rfl, rfl⟩, hk, ⟨hsc, hsn, rfl, rfl⟩, hl, hg, hw⟩ := hD
  have hn := W.hn
  unfold f_X4_readSecret f_X11_readsSecret
  rcases num_sim T (L := n) hb hb rfl (by omega) num rn with ⟨v, e, hv, he, het, f1, f2⟩ | ⟨so, nu, be, f1, f2⟩
  · have hq := sk_le tx het
    rcases close_sim T het (nI v) with ⟨nu, c0, c1, c2⟩ | ⟨so, nu, be, c1, c2⟩
    · exact Or.inr ⟨_, _, _, _, sk tn tx e + 1, _, _, b_some f1 (ino i10 (b_some c1 (ip (Or.inr rfl) rfl))), b_some f2 (ino i10 (b_some c2 (ip (Or.inr rfl) rfl))), by omega, by omega, n, kd, v, lf, gs, cd, W, ⟨rfl, rfl⟩, hk, ⟨by omega, Or.inl hv, rfl, rfl⟩, hl, hg, hw⟩
    · exact Or.inl ⟨_, sk tn tx e, _, _, _, _, _, b_some f1 (ino i10 (b_some c1 (ip (Or.inl rfl) rfl))), b_some f2 (ino i10 (b_some c2 (ip (Or.inl rfl) rfl)))⟩
  · exact Or.inl ⟨_, sk tn tx b, _, _, _, _, _, b_some f1 (ip rfl rfl), b_some f2 (ip rfl rfl)⟩
theorem dig1 {c v : Nat} : (10 : Int32) * nI c + nI v = nI (10 * c + v) := by rw [show (10 : Int32) = nI 10 from rfl, pk_mul, nI_add]
theorem digits_sim {tn : Nat} {tx : Nat → Nat} {kb mt : Nat → Int32} (T : TX tn tx kb mt) {words : Int32} {mcodes : Nat → Int32} (H : ∀ c, c < 10000 → f_X11_isThere words mcodes (nI c) = some 0 ∨ f_X11_isThere words mcodes (nI c) = some 1) {b : Nat} (hb : b ≤ tn) (pl so num rn : Int32) : (∃ x q so2 nu be x2 y2 r2, lp (fun v => B_X4_readWord_34 (nI tn) kb v.1 v.2.1 v.2.2.1 v.2.2.2.1 v.2.2.2.2.1 v.2.2.2.2.2) KN ((0 : Int32), (0 : Int32), pl, so, num, nI b) = some (0, x, nI q, so2, nu, be) ∧ lp (fun v => B_X11_readsWord_4 words (nI tn) mcodes mt v.1 v.2.1 v.2.2.1 v.2.2.2) KN ((0 : Int32), (0 : Int32), nI b, rn) = some (0, x2, y2, nI q, r2)) ∨ (∃ c q so2 nu e, c < 10000 ∧ b < e ∧ e ≤ tn ∧ lp (fun v => B_X4_readWord_34 (nI tn) kb v.1 v.2.1 v.2.2.1 v.2.2.2.1 v.2.2.2.2.1 v.2.2.2.2.2) KN ((0 : Int32), (0 : Int32), pl, so, num, nI b) = some (1, nI c, nI q, so2, nu, nI e) ∧ ((f_X11_isThere words mcodes (nI c) = some 1 ∧ ∃ x2 r2, lp (fun v => B_X11_readsWord_4 words (nI tn) mcodes mt v.1 v.2.1 v.2.2.1 v.2.2.2) KN ((0 : Int32), (0 : Int32), nI b, rn) = some (1, x2, nI q, nI e, r2)) ∨ (f_X11_isThere words mcodes (nI c) = some 0 ∧ ∃ y2 r2, lp (fun v => B_X11_readsWord_4 words (nI tn) mcodes mt v.1 v.2.1 v.2.2.1 v.2.2.2) KN ((0 : Int32), (0 : Int32), nI b, rn) = some (2, nI c, y2, nI e, r2)))) := by
  have h150 := T.1
  have ST : ∀ (i c b2 : Nat) (pl so num rn : Int32), b2 ≤ tn → i < 4 → c < 10 ^ i → (∃ v e p, 10 * c + v < 10 ^ (i + 1) ∧ b2 < e ∧ e ≤ tn ∧ p = sk tn tx b2 ∧ B_X4_readWord_34 (nI tn) kb (nI c) (nI i) pl so num (nI b2) = some (.inl (nI (10 * c + v), nI (i + 1), nI p, 2, nI v, nI e)) ∧ f_X11_skip (nI tn) (nI b2) mt = some (nI p) ∧ f_X11_number (nI tn) (nI p) rn mt 0 9 = some (1, nI e, nI v)) ∨ (∃ q so2 nu be, B_X4_readWord_34 (nI tn) kb (nI c) (nI i) pl so num (nI b2) = some (.inr (0, nI c, nI q, so2, nu, be)) ∧ B_X11_readsWord_4 words (nI tn) mcodes mt (nI c) (nI i) (nI b2) rn = some (.inr (0, nI c, nI q, nI q, rn))) := by
    intro i c b2 pl so num rn hb2 hi hc
    have hp := sk_le tx hb2
    have e1 := skip_eq T hb2
    have ge : ¬ (4 : Int32) ≤ nI i := nI_ge (b := 4) hi (by decide)
    unfold B_X4_readWord_34 B_X11_readsWord_4
    rcases num_sim T (L := 10) hb2 hp.2 (sk_idem hb2) (by decide) num rn with ⟨v, e, hv, he, het, f1, f2⟩ | ⟨so2, nu, be, f1, f2⟩
    · rw [show nI 10 - 1 = (9 : Int32) from by decide] at f2
      refine Or.inl ⟨v, e, sk tn tx b2, by rw [Nat.pow_succ]; omega, by omega, het, rfl, ino ge (b_some f1 (ino i10 ?_)), e1, f2⟩
      rw [dig1, nI_1]
    · rw [show nI 10 - 1 = (9 : Int32) from by decide] at f2
      exact Or.inr ⟨sk tn tx b2, so2, nu, be, ino ge (b_some f1 (ip rfl rfl)), ino ge (b_some e1 (b_some f2 (ip rfl rfl)))⟩
  have k3 : KN = 3 + 1997 := rfl
  rw [k3]
  rcases lp_pre (B := fun v => B_X4_readWord_34 (nI tn) kb v.1 v.2.1 v.2.2.1 v.2.2.2.1 v.2.2.2.2.1 v.2.2.2.2.2) (B2 := fun v => B_X11_readsWord_4 words (nI tn) mcodes mt v.1 v.2.1 v.2.2.1 v.2.2.2) (fun i v w => ∃ c b2 pl so nu rn, v = (nI c, nI i, pl, so, nu, nI b2) ∧ w = (nI c, nI i, nI b2, rn) ∧ c < 10 ^ i ∧ b ≤ b2 ∧ b2 ≤ tn) (fun o p => ∃ x q so2 nu be x2 y2 r2, o = (0, x, nI q, so2, nu, be) ∧ p = (0, x2, y2, nI q, r2)) 3 (fun i v w hi hr => by
    obtain ⟨c, b2, pl, so, nu, rn, rfl, rfl, hc, h1, h2⟩ := hr
    rcases ST i c b2 pl so nu rn h2 (by omega) hc with ⟨v, e, p, q1, q2, q3, q4, q5, q6, q7⟩ | ⟨q, so2, nu2, be, q1, q2⟩
    · refine Or.inl ⟨_, (nI (10 * c + v), nI (i + 1), nI e, nI v), q5, ?_, 10 * c + v, e, nI p, 2, nI v, nI v, rfl, rfl, q1, by omega, q3⟩
      show B_X11_readsWord_4 words (nI tn) mcodes mt (nI c) (nI i) (nI b2) rn = _
      unfold B_X11_readsWord_4
      refine ino (nI_ge (b := 4) (by omega) (by decide)) (b_some q6 (b_some q7 (ino i10 (ino (fun z => ?_) ?_))))
      · have := (nI_eq (b := 3) (by omega) (by decide)).mp z
        omega
      · rw [dig1, nI_1]
    · exact Or.inr ⟨_, _, q1, q2, _, q, so2, nu2, be, _, _, _, rfl, rfl⟩) 3 0 1997 1997 ((0 : Int32), (0 : Int32), pl, so, num, nI b) ((0 : Int32), (0 : Int32), nI b, rn) (by decide) ⟨0, b, pl, so, num, rn, rfl, rfl, by decide, Nat.le_refl _, hb⟩ with ⟨o, p, f1, f2, x, q, so2, nu, be, x2, y2, r2, rfl, rfl⟩ | ⟨u, x, ⟨c, b2, pl2, so2, nu, rn2, rfl, rfl, hc, h1, h2⟩, f1, f2⟩
  · exact Or.inl ⟨x, q, so2, nu, be, x2, y2, r2, f1, f2⟩
  · rw [f1, f2]
    rcases ST 3 c b2 pl2 so2 nu rn2 h2 (by decide) hc with ⟨v, e, p, q1, q2, q3, q4, q5, q6, q7⟩ | ⟨q, so3, nu2, be, q1, q2⟩
    · have LC : lp (fun v => B_X4_readWord_34 (nI tn) kb v.1 v.2.1 v.2.2.1 v.2.2.2.1 v.2.2.2.2.1 v.2.2.2.2.2) 1997 (nI c, nI (0 + 3), pl2, so2, nu, nI b2) = some (1, nI (10 * c + v), nI p, 2, nI v, nI e) := by
        rw [show (1997 : Nat) = 1996 + 1 from rfl, lp_one (u := (nI (10 * c + v), nI (3 + 1), nI p, 2, nI v, nI e)) q5]
        exact lp_out (by decide) (ip (show (4 : Int32) ≤ nI (3 + 1) from by decide) rfl)
      refine Or.inr ⟨10 * c + v, p, 2, nI v, e, by omega, by omega, q3, LC, ?_⟩
      rcases H (10 * c + v) (by omega) with z | z
      · refine Or.inr ⟨z, 0, nI v, ?_⟩
        have s1 : (fun v : Int32 × Int32 × Int32 × Int32 => B_X11_readsWord_4 words (nI tn) mcodes mt v.1 v.2.1 v.2.2.1 v.2.2.2) (nI c, nI (0 + 3), nI b2, rn2) = some (.inl (nI (10 * c + v), nI 4, nI e, nI v)) := by
          show B_X11_readsWord_4 words (nI tn) mcodes mt (nI c) (nI 3) (nI b2) rn2 = _
          unfold B_X11_readsWord_4
          refine ino (by decide) (b_some q6 (b_some q7 (ino i10 (ip (by decide) ?_))))
          rw [dig1]
          exact b_some z (ip rfl rfl)
        rw [show (1997 : Nat) = 1996 + 1 from rfl, lp_one s1]
        exact lp_out (by decide) (ip (show (4 : Int32) ≤ nI 4 from by decide) rfl)
      · refine Or.inl ⟨z, nI (10 * c + v), nI v, ?_⟩
        refine lp_out (by decide) ?_
        show B_X11_readsWord_4 words (nI tn) mcodes mt (nI c) (nI 3) (nI b2) rn2 = _
        unfold B_X11_readsWord_4
        refine ino (by decide) (b_some q6 (b_some q7 (ino i10 (ip (by decide) ?_))))
        rw [dig1]
        exact b_some z (ino i10 rfl)
    · exact Or.inl ⟨_, q, so3, nu2, be, _, _, _, lp_out (by decide) q1, lp_out (by decide) q2⟩
theorem word_sim {tn : Nat} {tx : Nat → Nat} {kb mt : Nat → Int32} (T : TX tn tx kb mt) {kind secret w_size : Int32} {codes masks alike havers : Nat → Int32} {left guessed wrong p_size words kindNow secretNow mguessed mleft mwrong undoMany : Int32} {mcodes mmasks : Nat → Int32} (hD : DR kind secret w_size codes masks alike havers left guessed wrong p_size words kindNow secretNow mguessed mleft mwrong undoMany mcodes mmasks) (h8 : ¬ words = 8) (hg0 : mguessed = 0) {b : Nat} (hb : b ≤ tn) (pl so num rn : Int32) : (∃ w c m a h l g wr ps q so2 nu be w2 g2 l2 wr2 r2 u2 c2 m2, f_X4_readWord w_size codes masks alike havers left guessed wrong p_size (nI tn) pl so num (nI b) kb = some (0, w, c, m, a, h, l, g, wr, ps, nI q, so2, nu, be) ∧ f_X11_readsWord words mguessed mleft mwrong (nI tn) (nI b) rn undoMany mcodes mmasks mt = some (0, w2, g2, l2, wr2, nI q, r2, u2, c2, m2)) ∨ (∃ w c m a h l g wr ps pl2 so2 nu e w2 g2 l2 wr2 r2 u2 c2 m2, f_X4_readWord w_size codes masks alike havers left guessed wrong p_size (nI tn) pl so num (nI b) kb = some (1, w, c, m, a, h, l, g, wr, ps, pl2, so2, nu, nI e) ∧ f_X11_readsWord words mguessed mleft mwrong (nI tn) (nI b) rn undoMany mcodes mmasks mt = some (1, w2, g2, l2, wr2, nI e, r2, u2, c2, m2) ∧ b < e ∧ e ≤ tn ∧ DR kind secret w c m a h l g wr ps w2 kindNow secretNow g2 l2 wr2 u2 c2 m2) := by
  have h150 := T.1
  obtain ⟨n, kd, sc, lf, gs, cd, W, ⟨rfl, rfl⟩, hk, ⟨hsc, hsn, hs⟩, hl, ⟨hg, rfl, rfl⟩, hw⟩ := hD
  have hn := W.hn
  have hn8 : n < 8 := by
    rcases Nat.lt_or_ge n 8 with z | z
    · exact z
    · exact absurd (by rw [show n = 8 by omega]; rfl) h8
  have hWo : WordsOK n cd codes masks alike havers := ⟨fun w hw => ⟨W.cd4 w hw, W.cod w hw⟩, W.mas, W.ali, W.hav, W.dis⟩
  have H : ∀ c, c < 10000 → f_X11_isThere (nI n) mcodes (nI c) = some 0 ∨ f_X11_isThere (nI n) mcodes (nI c) = some 1 := fun c hc => by
    rcases there_eq hn hc W.cd4 W.cod W.mco with ⟨-, z, -⟩ | ⟨-, -, -, z⟩
    · exact Or.inl z
    · exact Or.inr z
  unfold f_X4_readWord f_X11_readsWord
  rw [if_neg (show ¬ (8 : Int32) ≤ nI n from nI_ge (b := 8) hn8 (by decide)), if_pos hg0]
  rcases digits_sim T H hb pl so num rn with ⟨x, q, so2, nu, be, x2, y2, r2, f1, f2⟩ | ⟨c, q, so2, nu, e, hc, he, het, f1, f2⟩
  · exact Or.inl ⟨_, _, _, _, _, _, _, _, _, q, _, _, _, _, _, _, _, _, _, _, _, b_some f1 (ip rfl rfl), b_some f2 (ip rfl rfl)⟩
  · rw [f1, Option.bind_some, if_neg (show ¬ (1 : Nat) = 0 by decide)]
    rcases there_eq hn hc W.cd4 W.cod W.mco with ⟨g1, g2, hd⟩ | ⟨r, g1, hr, g2⟩
    · rcases f2 with ⟨z, -⟩ | ⟨-, y2, r2, f2⟩
      · rw [g2] at z
        cases z
      · rw [f2, Option.bind_some, if_neg (show ¬ (2 : Nat) = 0 by decide), if_neg (show ¬ (2 : Nat) = 1 by decide)]
        obtain ⟨ms, al, hv, a1, hW2⟩ := addWord_eq hn8 hc hWo hd
        obtain ⟨mm, a2, m1, m2⟩ := maddWord_eq mcodes mmasks hn8 hc
        have hq := sk_le tx het
        rcases close_sim T het nu with ⟨nu2, c0, c1, c2⟩ | ⟨so3, nu2, be, c1, c2⟩
        · have pn := Nat.two_pow_pos (n + 1)
          have hmm := masks_add (masks := mmasks) hn8 hc W.cd4 W.mco (by rw [nI_clamp (by omega)]; exact fun w hw l hl => by rw [W.mma w hw l hl, W.mco w hw, nI_clamp (by have := W.cd4 w hw; omega)]) m1 m2
          have hco : ∀ w, w < n + 1 → upd mcodes n (nI c) w = nI (cdP cd n c w) := fun w hw => by
            by_cases z : w = n
            · subst z; rw [pk_us, cdP_n]
            · rw [pk_un z, cdP_o (by omega)]
              exact W.mco w (by omega)
          have W2 := WR.of (show n + 1 ≤ 8 by omega) hW2 hco hmm
          refine Or.inr ⟨_, _, _, _, _, _, _, _, _, _, _, _, sk tn tx e + 1, _, _, _, _, _, _, _, _, b_some g1 (ip rfl (b_some a1 (b_some c1 (ip (Or.inr rfl) rfl)))), b_some c2 (ino i10 (b_some a2 rfl)), by omega, by omega, n + 1, kd, sc, 2 ^ (n + 1) - 1, 0, cdP cd n c, W2, ⟨rfl, rfl⟩, hk, ⟨hsc, by omega, hs⟩, ⟨by omega, fun _ => ?_, rfl, rfl⟩, ⟨gs_0 _ _, rfl, rfl⟩, rfl, rfl, rfl⟩
          rw [Nat.pow_succ]
          have := Nat.two_pow_pos n
          omega
        · exact Or.inl ⟨_, _, _, _, _, _, _, _, _, sk tn tx e, _, _, _, _, _, _, _, _, _, _, _, b_some g1 (ip rfl (b_some a1 (b_some c1 (ip (Or.inl rfl) rfl)))), b_some c2 (ip rfl rfl)⟩
    · rcases f2 with ⟨-, x2, r2, f2⟩ | ⟨z, -⟩
      · exact Or.inl ⟨_, _, _, _, _, _, _, _, _, q, _, _, _, _, _, _, _, _, _, _, _, b_some g1 (ino hr rfl), b_some f2 (ino (show ¬ (1 : Nat) = 0 from by decide) (ip rfl rfl))⟩
      · rw [g2] at z
        cases z
