/-! fractions; the mean; evenings -/
theorem mod_half {b r k : Nat} (hr : r ≠ 0) (hrb : r < b) (h : b < 2 ^ (k + 1)) : b % r < 2 ^ k := by
  have h1 := Nat.mod_lt b (show r > 0 by omega)
  rw [Nat.pow_succ] at h
  by_cases c : 2 * r ≤ b
  · omega
  · have e : b % r = b - r := by
      rw [Nat.mod_eq_sub_mod (by omega), Nat.mod_eq_of_lt (by omega)]
    omega
theorem gcd_run : ∀ (k a b i F : Nat), a < 2 ^ 31 → b < 2 ^ 31 → b < 2 ^ k → i + 2 * k + 1 ≤ 100 → 2 * k + 1 ≤ F → (0 < a ∨ 0 < b) → ∃ g, 0 < g ∧ g < 2 ^ 31 ∧ (a = b → g = a) ∧ lp (fun v => B_X0_commonDivisor_7 v.1 v.2.1 v.2.2) F (nI a, nI b, nI i) = some (nI g) ∧ lp (fun v => B_X11_tells_6 v.1 v.2) F (lN a, lN b) = some (lN g) := by
  have OC : ∀ (a i F : Nat), i < 100 → 0 < F → lp (fun v => B_X0_commonDivisor_7 v.1 v.2.1 v.2.2) F (nI a, nI 0, nI i) = some (nI a) := fun a i F hi hF => lp_out hF (ino (show ¬ (100 : Int32) ≤ nI i from nI_ge (b := 100) hi (by decide)) (ip rfl rfl))
  have OM : ∀ (a F : Nat), 0 < F → lp (fun v => B_X11_tells_6 v.1 v.2) F (lN a, lN 0) = some (lN a) := fun a F hF => lp_out hF (ip (show lg_cmp (lN 0) 0 = 0 from by decide) rfl)
  have SC : ∀ (a b i F : Nat), a < 2 ^ 31 → b < 2 ^ 31 → b ≠ 0 → i < 100 → lp (fun v => B_X0_commonDivisor_7 v.1 v.2.1 v.2.2) (F + 1) (nI a, nI b, nI i) = lp (fun v => B_X0_commonDivisor_7 v.1 v.2.1 v.2.2) F (nI b, nI (a % b), nI (i + 1)) := fun a b i F ha hb h0 hi => lp_one (by
    have z := nI_ne0 (n := b) (by omega) hb
    refine ino (show ¬ (100 : Int32) ≤ nI i from nI_ge (b := 100) hi (by decide)) (ino z (ino z ?_))
    show some (Sum.inl (nI b, nI a - nI a / nI b * nI b, nI i + 1)) = _
    rw [pk_rem ha (by omega) hb, nI_1])
  have SM : ∀ (a b F : Nat), a < 2 ^ 31 → b < 2 ^ 31 → b ≠ 0 → lp (fun v => B_X11_tells_6 v.1 v.2) (F + 1) (lN a, lN b) = lp (fun v => B_X11_tells_6 v.1 v.2) F (lN b, lN (a % b)) := fun a b F ha hb h0 => lp_one (by
    have z : ¬ lN b = 0 := fun e => h0 ((lN_eq (b := 0) hb (by decide)).mp e)
    refine ino (fun e => z ((lg_cmp_eq _ _).mp e)) (ino z ?_)
    show some (Sum.inl (lN b, lN a - lN a / lN b * lN b)) = _
    rw [pk_lRem (by omega) (by omega) (by omega)])
  intro k
  induction k with
  | zero =>
    intro a b i F ha hb hk hi hF h0
    have : b = 0 := by omega
    subst this
    exact ⟨a, by omega, ha, fun _ => rfl, OC a i F (by omega) (by omega), OM a F (by omega)⟩
  | succ k ih =>
    intro a b i F ha hb hk hi hF h0
    by_cases b0 : b = 0
    · subst b0
      exact ⟨a, by omega, ha, fun _ => rfl, OC a i F (by omega) (by omega), OM a F (by omega)⟩
    · obtain ⟨F, rfl⟩ : ∃ G, F = G + 1 := ⟨F - 1, by omega⟩
      rw [SC a b i F ha hb b0 (by omega), SM a b F ha hb b0]
      have hr := Nat.mod_lt a (show b > 0 by omega)
      by_cases r0 : a % b = 0
      · rw [r0]
        exact ⟨b, by omega, hb, fun e => e.symm, OC b (i + 1) F (by omega) (by omega), OM b F (by omega)⟩
      · obtain ⟨F, rfl⟩ : ∃ G, F = G + 1 := ⟨F - 1, by omega⟩
        rw [SC b (a % b) (i + 1) F hb (by omega) r0 (by omega), SM b (a % b) F hb (by omega) r0]
        have hm := mod_half r0 hr hk
        have hm2 := Nat.mod_lt b (show a % b > 0 by omega)
        obtain ⟨g, g1, g2, -, g3, g4⟩ := ih (a % b) (b % (a % b)) (i + 1 + 1) F (by omega) (by omega) hm (by omega) (by omega) (by omega)
        refine ⟨g, g1, g2, fun e => ?_, g3, g4⟩
        subst e
        exact absurd (Nat.mod_self a) r0
/-- a fraction, told on both sides -/
theorem frac_eq {x y : Nat} (hx : x < 2 ^ 31) (hy : y < 2 ^ 31) (h0 : 0 < y) : ∃ p q, f_X0_put (nI x) (nI y) = some (p, q) ∧ f_X11_tells (lN x) (lN y) = some (1, p, q) ∧ (x = y → p = 1 ∧ q = 1) := by
  obtain ⟨g, g1, g2, g5, g3, g4⟩ := gcd_run 31 x y 0 KN hx hy hy (by decide) (by decide) (Or.inr h0)
  refine ⟨lN (x / g), lN (y / g), ?_, ?_, fun e => ?_⟩
  · unfold f_X0_put
    refine ip (show 0 < nI y from nI_lt (a := 0) h0 hy) (b_some (x := nI g) (b_some g3 rfl) ?_)
    have z := nI_ne0 g1 g2
    unfold J_X0_put_13
    refine ino z (ino z (ino z (ino z ?_)))
    rw [pk_div hx g1 g2, pk_div hy g1 g2, nI_l (Nat.lt_of_le_of_lt (Nat.div_le_self _ _) hx), nI_l (Nat.lt_of_le_of_lt (Nat.div_le_self _ _) hy)]
  · have z : ¬ lN g = 0 := fun e => (show g ≠ 0 by omega) ((lN_eq (b := 0) g2 (by decide)).mp e)
    unfold f_X11_tells
    refine b_some g4 (ino z (ino z ?_))
    rw [pk_lDiv (by omega) g1 (by omega), pk_lDiv (by omega) g1 (by omega)]
  · have := g5 e
    subst e
    subst this
    rw [Nat.div_self g1]
    exact ⟨rfl, rfl⟩
theorem tells01 : f_X11_tells 0 1 = some (1, 0, 1) := by
  unfold f_X11_tells
  refine b_some (x := 1) ?_ (by decide)
  rw [show KN = 1998 + 1 + 1 from rfl, lp_one (u := ((1 : Int64), (0 : Int64))) (by decide)]
  exact lp_out (by decide) (by decide)
theorem put0 (x : Int32) : f_X0_put x 0 = some (0, 1) := by
  unfold f_X0_put J_X0_put_13
  exact ino (by decide) (ip rfl (ip rfl rfl))
theorem WR.meanR {n : Nat} {cd : Nat → Nat} {codes masks alike havers mcodes mmasks : Nat → Int32} (W : WR n cd codes masks alike havers mcodes mmasks) {kg lf gs : Nat} (wr tl tg tw sn lg : Int32) (as : Nat → Int32) (hkg : kg < 6) (hlf : lf < 2 ^ n) (hg : GsOK cd lf gs) : ∃ (S : Nat) (o : Int32 × Int32 × Int32) (p : Int32 × Int32 × (Nat → Int32)), S ≤ 80 ∧ lp (fun v => B_X10_mean_30 (nI n) codes masks alike havers (nI lf) (nI gs) wr (nI kg) (nI lf) v.1 v.2.1 v.2.2.1 v.2.2.2.1 v.2.2.2.2) KN ((0 : Int32), (0 : Int32), tl, tg, tw) = some (nI S, o) ∧ lp (fun v => B_X11_mean_25 (nI n) mcodes mmasks (nI kg) v.1 v.2.1 v.2.2.1 v.2.2.2.1 v.2.2.2.2.1 v.2.2.2.2.2.1 v.2.2.2.2.2.2.1 v.2.2.2.2.2.2.2.1 v.2.2.2.2.2.2.2.2) KN ((0 : Int32), (0 : Int32), (0 : Int32), sn, nI gs, nI lf, wr, lg, as) = some (nI (ct lf.testBit n), nI S, p.1, nI gs, nI lf, wr, p.2.1, p.2.2) := by
  have hn := W.hn
  have h256 := lt256 hn hlf
  obtain ⟨u, x, ⟨S, tl2, tg2, tw2, sn2, lg2, as2, rfl, rfl, hS⟩, f1, f2⟩ := lp_cut (B := fun v => B_X10_mean_30 (nI n) codes masks alike havers (nI lf) (nI gs) wr (nI kg) (nI lf) v.1 v.2.1 v.2.2.1 v.2.2.2.1 v.2.2.2.2) (B2 := fun v => B_X11_mean_25 (nI n) mcodes mmasks (nI kg) v.1 v.2.1 v.2.2.1 v.2.2.2.1 v.2.2.2.2.1 v.2.2.2.2.2.1 v.2.2.2.2.2.2.1 v.2.2.2.2.2.2.2.1 v.2.2.2.2.2.2.2.2) (fun i v w => ∃ S tl tg tw sn lg as, v = (nI S, nI i, tl, tg, tw) ∧ w = (nI (ct lf.testBit i), nI S, nI i, sn, nI gs, nI lf, wr, lg, as) ∧ S ≤ 10 * i) n (fun i v w hi hr => by
    obtain ⟨S, tl, tg, tw, sn, lg, as, rfl, rfl, hS⟩ := hr
    show ∃ u x, B_X10_mean_30 (nI n) codes masks alike havers (nI lf) (nI gs) wr (nI kg) (nI lf) (nI S) (nI i) tl tg tw = some (.inl u) ∧ B_X11_mean_25 (nI n) mcodes mmasks (nI kg) (nI (ct lf.testBit i)) (nI S) (nI i) sn (nI gs) (nI lf) wr lg as = some (.inl x) ∧ _
    unfold B_X10_mean_30 B_X11_mean_25
    rw [if_neg (show ¬ (8 : Int32) ≤ nI i from nI_ge (b := 8) (by omega) (by decide)), if_neg (nI_ge hi (by omega)), nI_1, nI_1]
    have ce : ct lf.testBit (i + 1) = ct lf.testBit i + (if lf.testBit i then 1 else 0) := rfl
    cases hb : lf.testBit i
    · rw [hb] at ce
      refine ⟨_, _, ip (bz (by omega) (by omega) hb) rfl, b_some (has_f (by omega) (by omega) hb) (ip rfl rfl), S, tl, tg, tw, sn, lg, as, rfl, ?_, by omega⟩
      rw [ce]
      rfl
    · rw [hb] at ce
      obtain ⟨lf2, gs2, k, j, as2, q1, q2, q3, q4, e1, e2⟩ := W.aside (kg := kg) (kh := 0) (sc := i) wr as hkg (by decide) (by omega) hlf hg
      refine ⟨_, _, ino (bnz (by omega) (by omega) hb) (b_some rfl (b_some e1 rfl)), b_some (has_t (by omega) (by omega) hb) (ino i10 (b_some e2 rfl)), S + k, nI lf2, nI gs2, wr + nI k, nI i, nI j, as2, ?_, ?_, by omega⟩
      · show (nI S + nI k, _) = _
        rw [nI_add]
      · show (nI (ct lf.testBit i + 1), nI S + nI k, _) = _
        rw [nI_add, ce]
        rfl) n 0 (2000 - n) (2000 - n) ((0 : Int32), (0 : Int32), tl, tg, tw) ((0 : Int32), (0 : Int32), (0 : Int32), sn, nI gs, nI lf, wr, lg, as) (by omega) ⟨0, tl, tg, tw, sn, lg, as, rfl, rfl, by omega⟩
  have k1 : KN = n + (2000 - n) := by show 2000 = _; omega
  rw [Nat.zero_add] at f1 f2 hS
  rw [← k1] at f1 f2
  refine ⟨S, (tl2, tg2, tw2), (sn2, lg2, as2), by omega, f1.trans ?_, f2.trans ?_⟩
  · refine lp_seq (fun j => (nI S, nI (n + j), tl2, tg2, tw2)) (8 - n) (fun j hj => ?_) ?_ (8 - n) 0 _ (by omega) (by omega)
    · show B_X10_mean_30 (nI n) codes masks alike havers (nI lf) (nI gs) wr (nI kg) (nI lf) (nI S) (nI (n + j)) tl2 tg2 tw2 = _
      unfold B_X10_mean_30
      have hb : lf.testBit (n + j) = false := Nat.testBit_lt_two_pow (Nat.lt_of_lt_of_le hlf (Nat.pow_le_pow_right (by decide) (Nat.le_add_right n j)))
      refine ino (nI_ge (b := 8) (by omega) (by decide)) (ip (bz (by omega) (by omega) hb) ?_)
      rw [nI_1]
      rfl
    · show B_X10_mean_30 (nI n) codes masks alike havers (nI lf) (nI gs) wr (nI kg) (nI lf) (nI S) (nI (n + (8 - n))) tl2 tg2 tw2 = _
      unfold B_X10_mean_30
      rw [show n + (8 - n) = 8 by omega]
      exact ip (by decide) rfl
  · refine lp_out (by omega) ?_
    show B_X11_mean_25 (nI n) mcodes mmasks (nI kg) (nI (ct lf.testBit n)) (nI S) (nI n) sn2 (nI gs) (nI lf) wr lg2 as2 = _
    unfold B_X11_mean_25
    exact ip (nI_le (Nat.le_refl n) (by omega)) rfl
/-- the row of numbers that evenings go by -/
def evX (x : Nat) : Nat := (x * 1103515245 + 12345) % 2147483648
theorem evX_lt (x : Nat) : evX x < 2 ^ 31 := Nat.mod_lt _ (by decide)
theorem ev_x {x : Nat} (h : x < 2 ^ 31) : (lN x * (1103515245 : Int64) + (12345 : Int64)) - (lN x * (1103515245 : Int64) + (12345 : Int64)) / (2147483648 : Int64) * (2147483648 : Int64) = lN (evX x) := by
  rw [show (1103515245 : Int64) = lN 1103515245 from rfl, show (12345 : Int64) = lN 12345 from rfl, show (2147483648 : Int64) = lN 2147483648 from rfl, lN_mul, lN_add, pk_lRem (by omega) (by decide) (by decide)]
  rfl
theorem ev_w {x n : Nat} (h : x < 2 ^ 31) (h0 : 0 < n) (hn : n < 2 ^ 31) : (lN x / (65536 : Int64) - lN x / (65536 : Int64) / (nI n).toInt64 * (nI n).toInt64).toInt32 = nI (x / 65536 % n) := by
  rw [show (65536 : Int64) = lN 65536 from rfl, nI_l hn, pk_lDiv (by omega) (by decide) (by decide), pk_lRem (by omega) h0 (by omega), lN_i]
theorem ev_k {x : Nat} (h : x < 2 ^ 31) : (lN x / (1048576 : Int64) - lN x / (1048576 : Int64) / (6 : Int64) * (6 : Int64)).toInt32 = nI (x / 1048576 % 6) := by
  rw [show (1048576 : Int64) = lN 1048576 from rfl, show (6 : Int64) = lN 6 from rfl, pk_lDiv (by omega) (by decide) (by decide), pk_lRem (by omega) (by decide) (by decide), lN_i]
theorem ev_step {x n : Nat} (h : x < 2 ^ 31) (h0 : 0 < n) (hn : n < 2 ^ 31) : ∃ y w k : Nat, y < 2 ^ 31 ∧ w < n ∧ k < 6 ∧ (lN x * (1103515245 : Int64) + (12345 : Int64)) - (lN x * (1103515245 : Int64) + (12345 : Int64)) / (2147483648 : Int64) * (2147483648 : Int64) = lN y ∧ (lN y / (65536 : Int64) - lN y / (65536 : Int64) / (nI n).toInt64 * (nI n).toInt64).toInt32 = nI w ∧ (lN y / (1048576 : Int64) - lN y / (1048576 : Int64) / (6 : Int64) * (6 : Int64)).toInt32 = nI k := ⟨evX x, evX x / 65536 % n, evX x / 1048576 % 6, evX_lt x, Nat.mod_lt _ h0, Nat.mod_lt _ (by decide), ev_x h, ev_w (evX_lt x) h0 hn, ev_k (evX_lt x)⟩
theorem WR.evC {n : Nat} {cd : Nat → Nat} {codes masks alike havers mcodes mmasks : Nat → Int32} (W : WR n cd codes masks alike havers mcodes mmasks) {kd N x y w k i : Nat} {lf2 gs2 r : Int32} (S tl tg tw : Int32) (hi : i < N) (hN : N < 61) (z : ¬ (nI n).toInt64 = 0) (ex : (lN x * (1103515245 : Int64) + (12345 : Int64)) - (lN x * (1103515245 : Int64) + (12345 : Int64)) / (2147483648 : Int64) * (2147483648 : Int64) = lN y) (ew : (lN y / (65536 : Int64) - lN y / (65536 : Int64) / (nI n).toInt64 * (nI n).toInt64).toInt32 = nI w) (ek : (lN y / (1048576 : Int64) - lN y / (1048576 : Int64) / (6 : Int64) * (6 : Int64)).toInt32 = nI k) {c : Int32} (e1 : f_X1_playOn (nI (2 ^ n - 1)) 0 0 (nI n) codes masks alike havers (nI k) (nI kd) (nI w) = some (c, lf2, gs2, r)) : B_X10_evenings_50 (nI kd) (nI n) codes masks alike havers (nI N) (nI n) S (lN x) (nI i) tl tg tw = some (.inl (S + c, lN y, nI (i + 1), lf2, gs2, r)) := by
  unfold B_X10_evenings_50
  rw [← nI_1]
  refine ino (nI_ge hi (by omega)) (b_some (x := lN y) (congrArg some ex) (ino z (b_some (x := nI w) (congrArg some ew) (b_some (x := nI k) (congrArg some ek) (b_some (x := nI (2 ^ n - 1)) ?_ (b_some (x := (nI (2 ^ n - 1), (0 : Int32), (0 : Int32))) rfl (b_some e1 rfl)))))))
  unfold f_X9_all
  rw [all_eq W.hn]
theorem WR.evM {n : Nat} {cd : Nat → Nat} {codes masks alike havers mcodes mmasks : Nat → Int32} (W : WR n cd codes masks alike havers mcodes mmasks) {kd N x y w k i : Nat} {lf2 gs2 r j : Int32} (S sn g l q lg : Int32) (hi : i < N) (hN : N < 61) (h0 : 0 < n) (z : ¬ (nI n).toInt64 = 0) (ex : (lN x * (1103515245 : Int64) + (12345 : Int64)) - (lN x * (1103515245 : Int64) + (12345 : Int64)) / (2147483648 : Int64) * (2147483648 : Int64) = lN y) (ew : (lN y / (65536 : Int64) - lN y / (65536 : Int64) / (nI n).toInt64 * (nI n).toInt64).toInt32 = nI w) (ek : (lN y / (1048576 : Int64) - lN y / (1048576 : Int64) / (6 : Int64) * (6 : Int64)).toInt32 = nI k) {c : Int32} (e2 : f_X11_plays (nI n) (nI w) 0 (nI (2 ^ n - 1)) 0 mcodes mmasks (nI k) (nI kd) = some (c, gs2, lf2, r, j)) : B_X11_evenings_44 (nI n) (nI kd) mcodes mmasks (nI N) (lN x) S (nI i) sn g l q lg = some (.inl (lN y, S + c, nI (i + 1), nI w, gs2, lf2, r, j)) := by
  have hn := W.hn
  unfold B_X11_evenings_44
  rw [← nI_1]
  refine ino (nI_ge hi (by omega)) (ino (nI_nle h0 (by omega)) (b_some (x := lN y) (congrArg some ex) (b_some (x := ((0 : Int32), nI (2 ^ n - 1), (0 : Int32))) ?_ (ino z ?_))))
  · unfold f_X11_beginsAnew
    rw [all_eq W.hn]
  · rw [ew, ek]
    exact b_some e2 rfl
theorem WR.evR {n : Nat} {cd : Nat → Nat} {codes masks alike havers mcodes mmasks : Nat → Int32} (W : WR n cd codes masks alike havers mcodes mmasks) {kd N sd : Nat} (tl tg tw sn g l w lg : Int32) (hkd : kd < 6) (hN : N < 61) (h0 : 0 < n) (hsd : sd < 2 ^ 31) : ∃ (o : Int32 × Int32 × Int32 × Int32) (p : Int32 × Int32 × Int32 × Int32 × Int32 × Int32), lp (fun v => B_X10_evenings_50 (nI kd) (nI n) codes masks alike havers (nI N) (nI n) v.1 v.2.1 v.2.2.1 v.2.2.2.1 v.2.2.2.2.1 v.2.2.2.2.2) KN ((0 : Int32), lN sd, (0 : Int32), tl, tg, tw) = some o ∧ lp (fun v => B_X11_evenings_44 (nI n) (nI kd) mcodes mmasks (nI N) v.1 v.2.1 v.2.2.1 v.2.2.2.1 v.2.2.2.2.1 v.2.2.2.2.2.1 v.2.2.2.2.2.2.1 v.2.2.2.2.2.2.2) KN (lN sd, (0 : Int32), (0 : Int32), sn, g, l, w, lg) = some p ∧ o.1 = p.1 := by
  have hn := W.hn
  have pn := Nat.two_pow_pos n
  have z : ¬ (nI n).toInt64 = 0 := fun e => by
    rw [nI_l (by omega)] at e
    have := (lN_eq (b := 0) (by omega) (by decide)).mp e
    omega
  refine lp_sim (fun i v w => ∃ x S tl tg tw sn g l r lg, v = (S, lN x, nI i, tl, tg, tw) ∧ w = (lN x, S, nI i, sn, g, l, r, lg) ∧ x < 2 ^ 31) _ N (by omega) ⟨sd, 0, tl, tg, tw, sn, g, l, w, lg, rfl, rfl, hsd⟩ (fun i v w hi hv => ?_) (fun v w hv => ?_)
  · obtain ⟨x, S, tl, tg, tw, sn, g, l, r, lg, rfl, rfl, hx⟩ := hv
    refine Or.inl ?_
    obtain ⟨y, w, k, hy, hw, hk, ex, ew, ek⟩ := ev_step hx h0 (show n < 2 ^ 31 by omega)
    obtain ⟨lf2, gs2, c, j, q1, q2, q3, q4, e1, e2⟩ := W.play (kg := k) (kh := kd) (sc := w) (lf := 2 ^ n - 1) (gs := 0) 0 hk hkd (by omega) (by omega) (gs_0 _ _)
    exact ⟨(S + nI c, lN y, nI (i + 1), _, _, _), (lN y, S + nI c, nI (i + 1), _, _, _, _, _), W.evC S tl tg tw hi hN z ex ew ek e1, W.evM S sn g l r lg hi hN h0 z ex ew ek e2, y, S + nI c, _, _, _, _, _, _, _, _, rfl, rfl, hy⟩
  · obtain ⟨x, S, tl, tg, tw, sn, g, l, r, lg, rfl, rfl, hx⟩ := hv
    exact ⟨_, _, ip (nI_le (Nat.le_refl N) (by omega)) rfl, ip (nI_le (Nat.le_refl N) (by omega)) rfl, rfl⟩
theorem lays_ev (sec gs left wr : Int32) (f : Nat → Int32) : f_X11_lays_m_evening sec gs left wr f 0 = some (upd4 f 0 gs left wr sec) := by
  unfold f_X11_lays_m_evening
  exact ino (by decide) (ino (by decide) (ino (by decide) (ino (by decide) rfl)))
theorem takes_ev (sec gs left wr : Int32) (f : Nat → Int32) : f_X11_takes_m_evening (upd4 f 0 gs left wr sec) 0 = some (sec, gs, left, wr) := by
  unfold f_X11_takes_m_evening
  refine ino (by decide) (ino (by decide) (ino (by decide) (ino (by decide) ?_)))
  obtain ⟨u0, u1, u2, u3⟩ := upd4_at f 0 gs left wr sec
  show some (upd4 f 0 gs left wr sec 3, upd4 f 0 gs left wr sec 0, upd4 f 0 gs left wr sec 1, upd4 f 0 gs left wr sec 2) = _
  rw [u0, show upd4 f 0 gs left wr sec 1 = _ from u1, show upd4 f 0 gs left wr sec 2 = _ from u2, show upd4 f 0 gs left wr sec 3 = _ from u3]
theorem ev_n0 {N sd : Nat} {kn : Int32} {cs ms : Nat → Int32} (sn g l w lg : Int32) : lp (fun v => B_X11_evenings_44 (nI 0) kn cs ms (nI N) v.1 v.2.1 v.2.2.1 v.2.2.2.1 v.2.2.2.2.1 v.2.2.2.2.2.1 v.2.2.2.2.2.2.1 v.2.2.2.2.2.2.2) KN (lN sd, (0 : Int32), (0 : Int32), sn, g, l, w, lg) = some ((0 : Int32), sn, g, l, w, lg) := by
  refine lp_out (by decide) ?_
  show B_X11_evenings_44 (nI 0) kn cs ms (nI N) (lN sd) 0 0 sn g l w lg = _
  unfold B_X11_evenings_44
  by_cases h : nI N ≤ 0
  · exact ip h rfl
  · exact ino h (ip (by decide) rfl)
