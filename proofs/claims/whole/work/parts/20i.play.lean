/-! a guess; games played on -/
theorem WR.of {n : Nat} {cd : Nat → Nat} {codes masks alike havers mcodes mmasks : Nat → Int32} (hn : n ≤ 8) (h : WordsOK n cd codes masks alike havers) (hc : ∀ w, w < n → mcodes w = nI (cd w)) (hM : ∀ w, w < (nI n).toNatClampNeg → ∀ l, l < 10 → mmasks (10 * w + l) = nI (mkm (mcodes w).toNatClampNeg l)) : WR n cd codes masks alike havers mcodes mmasks := by
  obtain ⟨h1, h2, h3, h4, h5⟩ := h
  refine ⟨hn, fun w hw => (h1 w hw).1, fun w hw => (h1 w hw).2, h2, h3, h4, hc, fun w hw l hl => ?_, h5⟩
  rw [nI_clamp (by omega)] at hM
  have := (h1 w hw).1
  rw [hM w hw l hl, hc w hw, nI_clamp (by omega)]
theorem one_all : ∀ p : Fin 1024, f_X11_isOneAtMost (nI p.val) = some (if pcN p.val 10 ≤ 1 then 1 else 0) := by decide +kernel
theorem one_y {p : Nat} (h : p < 1024) (h1 : pcN p 10 ≤ 1) : f_X11_isOneAtMost (nI p) = some 1 := by
  have := one_all ⟨p, h⟩
  rwa [if_pos h1] at this
theorem one_n {p : Nat} (h : p < 1024) (h1 : ¬ pcN p 10 ≤ 1) : f_X11_isOneAtMost (nI p) = some 0 := by
  have := one_all ⟨p, h⟩
  rwa [if_neg h1] at this
theorem ct_add {q : Nat → Bool} {l : Nat} (hl : q l = false) : ∀ n, ct (fun w => q w || decide (l = w)) n = ct q n + (if l < n then 1 else 0)
  | 0 => rfl
  | n + 1 => by
    show ct (fun w => q w || decide (l = w)) n + (if (q n || decide (l = n)) then 1 else 0) = ct q n + (if q n then 1 else 0) + (if l < n + 1 then 1 else 0)
    have h1 : (if l < n + 1 then 1 else 0) = (if l < n then 1 else 0) + (if l = n then 1 else 0) := by split <;> split <;> split <;> omega
    rw [ct_add hl n, h1]
    by_cases e : l = n
    · subst e
      rw [hl]
      simp
    · rw [if_neg e]
      cases q n <;> simp [e] <;> omega
theorem ct_full {q : Nat → Bool} : ∀ {n : Nat}, ct q n = n → ∀ k, k < n → q k = true
  | 0, _, k, hk => absurd hk (by omega)
  | n + 1, h, k, hk => by
    have h : ct q n + (if q n then 1 else 0) = n + 1 := h
    have := ct_le q n
    by_cases hq : q n = true
    · rw [if_pos hq] at h
      by_cases e : k = n
      · rw [e]; exact hq
      · exact ct_full (n := n) (by omega) k (by omega)
    · rw [if_neg hq] at h
      omega
theorem or_lt {a b k : Nat} (ha : a < 2 ^ k) (hb : b < 2 ^ k) : a ||| b < 2 ^ k := Nat.or_lt_two_pow ha hb
theorem gs_lt {gs l : Nat} (h : gs < 1024) (hl : l < 10) : gs ||| 2 ^ l < 1024 := or_lt (k := 10) h (Nat.pow_lt_pow_right (by decide) hl)
theorem gs_tb (gs l k : Nat) : (gs ||| 2 ^ l).testBit k = (gs.testBit k || decide (l = k)) := by rw [Nat.testBit_or, Nat.testBit_two_pow]
theorem gs_pc {gs l : Nat} (hl : l < 10) (hb : gs.testBit l = false) : pcN (gs ||| 2 ^ l) 10 = pcN gs 10 + 1 := by
  rw [pc_ct, pc_ct, ct_cong (fun k _ => gs_tb gs l k), ct_add hb, if_pos hl]
theorem mkm_dig {c c2 l : Nat} (h : mkm c l = mkm c2 l) : ((c / 1000 % 10 = l) → (c2 / 1000 % 10 = l)) ∧ ((c / 100 % 10 = l) → (c2 / 100 % 10 = l)) ∧ ((c / 10 % 10 = l) → (c2 / 10 % 10 = l)) ∧ ((c % 10 = l) → (c2 % 10 = l)) := by
  unfold mkm at h
  generalize c / 1000 % 10 = a1 at h ⊢
  generalize c / 100 % 10 = a2 at h ⊢
  generalize c / 10 % 10 = a3 at h ⊢
  generalize c % 10 = a4 at h ⊢
  generalize c2 / 1000 % 10 = b1 at h ⊢
  generalize c2 / 100 % 10 = b2 at h ⊢
  generalize c2 / 10 % 10 = b3 at h ⊢
  generalize c2 % 10 = b4 at h ⊢
  refine ⟨fun e => ?_, fun e => ?_, fun e => ?_, fun e => ?_⟩ <;> (rw [if_pos e] at h; apply Classical.byContradiction; intro hn; rw [if_neg hn] at h; revert h; (repeat' split) <;> omega)
theorem mkm_inj {c c2 : Nat} (h1 : c < 10000) (h2 : c2 < 10000) (h : ∀ l, l < 10 → mkm c l = mkm c2 l) : c = c2 := by
  have a := (mkm_dig (h (c / 1000 % 10) (Nat.mod_lt _ (by decide)))).1 rfl
  have b := (mkm_dig (h (c / 100 % 10) (Nat.mod_lt _ (by decide)))).2.1 rfl
  have d := (mkm_dig (h (c / 10 % 10) (Nat.mod_lt _ (by decide)))).2.2.1 rfl
  have e := (mkm_dig (h (c % 10) (Nat.mod_lt _ (by decide)))).2.2.2 rfl
  omega
theorem ct_two {q : Nat → Bool} : ∀ {n : Nat}, 1 < ct q n → ∃ v w, v < w ∧ w < n ∧ q v = true ∧ q w = true
  | 0, h => absurd h (by show ¬ 1 < 0; omega)
  | n + 1, h => by
    have h : 1 < ct q n + (if q n then 1 else 0) := h
    by_cases hq : q n = true
    · rw [if_pos hq] at h
      obtain ⟨v, hv, e⟩ := ct_ex (q := q) (n := n) (by omega)
      exact ⟨v, n, hv, by omega, e, hq⟩
    · rw [if_neg hq] at h
      obtain ⟨v, w, a, b, c, d⟩ := ct_two (q := q) (n := n) (by omega)
      exact ⟨v, w, a, by omega, c, d⟩
/-- all letters guessed: one word at most is left -/
theorem WR.done {n : Nat} {cd : Nat → Nat} {codes masks alike havers mcodes mmasks : Nat → Int32} (W : WR n cd codes masks alike havers mcodes mmasks) {lf gs : Nat} (hlf : lf < 2 ^ n) (hg : GsOK cd lf gs) (h : ∀ l, l < 10 → gs.testBit l = true) : pcN lf 10 ≤ 1 := by
  have hn := W.hn
  apply Classical.byContradiction
  intro hc
  rw [pc_n (by omega) hlf] at hc
  obtain ⟨v, w, a, b, c, d⟩ := ct_two (Nat.lt_of_not_le hc)
  have e := W.dis v w (by omega) b (mkm_inj (W.cd4 v (by omega)) (W.cd4 w b) (fun l hl => hg.2 v w l c d (h l hl)))
  omega
/-- one guess, on both sides -/
theorem WR.turn {n : Nat} {cd : Nat → Nat} {codes masks alike havers mcodes mmasks : Nat → Int32} (W : WR n cd codes masks alike havers mcodes mmasks) {kd sc lf gs l : Nat} (wr : Int32) (hkd : kd < 6) (hsc : sc < 8) (hlf : lf < 2 ^ n) (h0 : lf ≠ 0) (hg : GsOK cd lf gs) (hl : l < 10) : ∃ m lf2 k, m < 16 ∧ f_X3_reply (nI n) masks alike havers (nI kd) (nI sc) (nI lf) (nI (pcN gs 10)) (nI l) = some (nI m) ∧ f_X1_put (nI lf) (nI gs) wr (nI n) masks (nI l) (nI m) = some (nI lf2, nI (gs ||| 2 ^ l), wr + nI k) ∧ f_X11_guessesBy (nI n) (nI sc) (nI gs) (nI lf) wr mmasks (nI kd) (nI l) = some (nI m, nI (gs ||| 2 ^ l), nI lf2, wr + nI k) ∧ lf2 < 2 ^ n ∧ lf2 ≠ 0 ∧ GsOK cd lf2 (gs ||| 2 ^ l) ∧ k ≤ 1 := by
  obtain ⟨m, ⟨w, hw, hb, hm⟩, e1, e2⟩ := W.reply (nI (pcN gs 10)) hkd hsc hlf h0 hl
  have m16 : m < 16 := by rw [← hm]; exact mkm_lt _ _
  refine ⟨m, sN (fun w => lf.testBit w && (mkm (cd w) l == m)) n, (if m = 0 then 1 else 0), m16, e1, ?_, ?_, sN_lt _ _, ?_, ⟨gs_lt hg.1 hl, ?_⟩, by split <;> omega⟩
  · unfold f_X1_put
    rw [shl1 l (by omega), fa_or]
    refine b_some (W.withMask hlf hl m16) ?_
    by_cases h : m = 0
    · subst h
      exact ip rfl rfl
    · rw [if_neg h]
      refine ino (nI_ne0 (by omega) (by omega)) ?_
      rw [show nI 0 = 0 from rfl, Int32.add_zero]
  · unfold f_X11_guessesBy
    rw [shl1 l (by omega), fa_or]
    refine b_some (bits_eq hg.1) (b_some e2 (b_some (W.partOf hlf hl m16) ?_))
    by_cases h : m = 0
    · subst h
      exact ip rfl rfl
    · rw [if_neg h]
      exact ino (nI_ne0 (by omega) (by omega)) rfl
  · intro h
    have := congrArg (fun z => Nat.testBit z w) h
    simp only [sN_tb, hb, hm, Nat.zero_testBit] at this
    rw [decide_eq_true hw] at this
    simp at this
  · intro v u k hv hu hk
    rw [sN_tb, Bool.and_eq_true, Bool.and_eq_true, beq_iff_eq] at hv hu
    rw [gs_tb, Bool.or_eq_true, decide_eq_true_eq] at hk
    rcases hk with hk | rfl
    · exact hg.2 v u k hv.2.1 hu.2.1 hk
    · rw [hv.2.2, hu.2.2]
/-- a game played on -/
theorem WR.play {n : Nat} {cd : Nat → Nat} {codes masks alike havers mcodes mmasks : Nat → Int32} (W : WR n cd codes masks alike havers mcodes mmasks) {kg kh sc lf gs : Nat} (wr : Int32) (hkg : kg < 6) (hkh : kh < 6) (hsc : sc < 8) (hlf : lf < 2 ^ n) (hg : GsOK cd lf gs) : ∃ lf2 gs2 k i, k ≤ 10 ∧ i ≤ 10 ∧ gs2 < 1024 ∧ pcN gs2 10 = pcN gs 10 + i ∧ f_X1_playOn (nI lf) (nI gs) wr (nI n) codes masks alike havers (nI kg) (nI kh) (nI sc) = some (nI k, nI lf2, nI gs2, wr + nI k) ∧ f_X11_plays (nI n) (nI sc) (nI gs) (nI lf) wr mcodes mmasks (nI kg) (nI kh) = some (nI k, nI gs2, nI lf2, wr + nI k, nI i) := by
  have hn := W.hn
  have hg3 := hg.1
  have L : ∃ o p, lp (fun v => B_X1_playOn_9 (nI n) codes masks alike havers (nI kg) (nI kh) (nI sc) v.1 v.2.1 v.2.2.1 v.2.2.2) KN ((0 : Int32), nI lf, nI gs, wr) = some o ∧ lp (fun v => B_X11_plays_10 (nI n) (nI sc) mcodes mmasks (nI kg) (nI kh) v.1 v.2.1 v.2.2.1 v.2.2.2) KN (nI gs, nI lf, wr, (0 : Int32)) = some p ∧ ∃ lf2 gs2 k i, k ≤ 10 ∧ i ≤ 10 ∧ gs2 < 1024 ∧ pcN gs2 10 = pcN gs 10 + i ∧ o = (nI lf2, nI gs2, wr + nI k) ∧ p = (nI gs2, nI lf2, wr + nI k, nI i) := by
    refine lp_sim (fun i v w => ∃ lf2 gs2 k, v = (nI i, nI lf2, nI gs2, wr + nI k) ∧ w = (nI gs2, nI lf2, wr + nI k, nI i) ∧ k ≤ i ∧ lf2 < 2 ^ n ∧ GsOK cd lf2 gs2 ∧ pcN gs2 10 = pcN gs 10 + i) _ 10 (by decide) ⟨lf, gs, 0, by rw [show nI 0 = 0 from rfl, Int32.add_zero], by rw [show nI 0 = 0 from rfl, Int32.add_zero], by decide, hlf, hg, rfl⟩ (fun i v w hi hv => ?_) (fun v w hv => ?_)
    · obtain ⟨lf2, gs2, k, rfl, rfl, hk, hlf2, hg2, hpc⟩ := hv
      show (∃ u x, B_X1_playOn_9 (nI n) codes masks alike havers (nI kg) (nI kh) (nI sc) (nI i) (nI lf2) (nI gs2) (wr + nI k) = some (.inl u) ∧ B_X11_plays_10 (nI n) (nI sc) mcodes mmasks (nI kg) (nI kh) (nI gs2) (nI lf2) (wr + nI k) (nI i) = some (.inl x) ∧ _) ∨ (∃ o p, B_X1_playOn_9 (nI n) codes masks alike havers (nI kg) (nI kh) (nI sc) (nI i) (nI lf2) (nI gs2) (wr + nI k) = some (.inr o) ∧ B_X11_plays_10 (nI n) (nI sc) mcodes mmasks (nI kg) (nI kh) (nI gs2) (nI lf2) (wr + nI k) (nI i) = some (.inr p) ∧ _)
      unfold B_X1_playOn_9 B_X11_plays_10
      have hp := pc_le lf2
      have ge : ¬ (10 : Int32) ≤ nI i := nI_ge (b := 10) hi (by decide)
      have l2 := lt1024 hn hlf2
      rw [if_neg ge, bc_eq l2, Option.bind_some, nI_1]
      by_cases h1 : pcN lf2 10 ≤ 1
      · have q : nI (pcN lf2 10) ≤ (1 : Int32) := nI_le (b := 1) h1 (by decide)
        rw [if_pos q, one_y l2 h1, Option.bind_some, if_neg i10]
        exact Or.inr ⟨_, _, rfl, rfl, lf2, gs2, k, i, by omega, by omega, hg2.1, hpc, rfl, rfl⟩
      · have q : ¬ nI (pcN lf2 10) ≤ (1 : Int32) := nI_ge (a := 1) (by omega) (by omega)
        obtain ⟨r, c1, c2, fr⟩ := W.choice hkg hlf2 hg2.1
        rw [if_neg q, one_n l2 h1, Option.bind_some, if_pos rfl, c1, c2, Option.bind_some, Option.bind_some]
        rcases fr with ⟨-, fr⟩ | ⟨l, hl, rfl, hb⟩
        · exact absurd (W.done hlf2 hg2 fr) h1
        · have h0 : lf2 ≠ 0 := fun e => h1 (by rw [e]; decide)
          obtain ⟨m, lf3, k3, hm, t1, t2, t3, t4, t5, t6, t7⟩ := W.turn (wr + nI k) hkh hsc hlf2 h0 hg2 hl
          have e3 : wr + nI k + nI k3 = wr + nI (k + k3) := by rw [← nI_add, Int32.add_assoc]
          rw [e3] at t2 t3
          rw [if_neg (m1_ne l (by omega)), gu_eq hg2.1, Option.bind_some, t1, Option.bind_some, t2, Option.bind_some, t3, Option.bind_some]
          exact Or.inl ⟨_, _, rfl, rfl, lf3, gs2 ||| 2 ^ l, k + k3, rfl, rfl, by omega, t4, t6, by rw [gs_pc hl hb]; omega⟩
    · obtain ⟨lf2, gs2, k, rfl, rfl, hk, hlf2, hg2, hpc⟩ := hv
      have full : ∀ l, l < 10 → gs2.testBit l = true := by
        have a := pc_le gs2
        rw [pc_ct] at a hpc
        exact ct_full (n := 10) (by omega)
      have l2 := lt1024 hn hlf2
      have z : (10 : Int32) ≤ nI 10 := by decide
      exact ⟨_, _, ip z rfl, b_some (one_y l2 (W.done hlf2 hg2 full)) (ino i10 rfl), lf2, gs2, k, 10, by omega, by omega, hg2.1, hpc, rfl, rfl⟩
  obtain ⟨o, p, e1, e2, lf2, gs2, k, i, h1, h2, h3, h4, rfl, rfl⟩ := L
  have hs : wr + nI k - wr = nI k := by rw [Int32.add_comm, Int32.add_sub_cancel]
  refine ⟨lf2, gs2, k, i, h1, h2, h3, h4, b_some e1 ?_, b_some e2 ?_⟩
  · show some ((wr + nI k) - wr, _) = _
    rw [hs]
  · show some ((wr + nI k) - wr, _) = _
    rw [hs]
theorem WR.aside {n : Nat} {cd : Nat → Nat} {codes masks alike havers mcodes mmasks : Nat → Int32} (W : WR n cd codes masks alike havers mcodes mmasks) {kg kh sc lf gs : Nat} (wr : Int32) (as : Nat → Int32) (hkg : kg < 6) (hkh : kh < 6) (hsc : sc < 8) (hlf : lf < 2 ^ n) (hg : GsOK cd lf gs) : ∃ lf2 gs2 k i as2, k ≤ 10 ∧ i ≤ 10 ∧ gs2 < 1024 ∧ pcN gs2 10 = pcN gs 10 + i ∧ f_X1_playOn (nI lf) (nI gs) wr (nI n) codes masks alike havers (nI kg) (nI kh) (nI sc) = some (nI k, nI lf2, nI gs2, wr + nI k) ∧ f_X11_playsAside (nI n) (nI sc) (nI gs) (nI lf) wr mcodes mmasks as (nI kg) (nI kh) = some (nI k, nI sc, nI gs, nI lf, wr, nI i, as2) := by
  obtain ⟨lf2, gs2, k, i, h1, h2, h3, h4, e1, e2⟩ := W.play wr hkg hkh hsc hlf hg
  refine ⟨lf2, gs2, k, i, upd4 as 0 (nI gs) (nI lf) wr (nI sc), h1, h2, h3, h4, e1, ?_⟩
  unfold f_X11_playsAside
  have a1 : f_X11_lays_m_aside (nI sc) (nI gs) (nI lf) wr as 0 = some (upd4 as 0 (nI gs) (nI lf) wr (nI sc)) := by
    unfold f_X11_lays_m_aside
    exact ino (by decide) (ino (by decide) (ino (by decide) (ino (by decide) rfl)))
  refine b_some a1 (b_some e2 (b_some (ino (by decide) (ino (by decide) (ino (by decide) (ino (by decide) rfl)))) ?_))
  obtain ⟨u0, u1, u2, u3⟩ := upd4_at as 0 (nI gs) (nI lf) wr (nI sc)
  show some (nI k, upd4 as 0 (nI gs) (nI lf) wr (nI sc) 3, upd4 as 0 (nI gs) (nI lf) wr (nI sc) 0, upd4 as 0 (nI gs) (nI lf) wr (nI sc) 1, upd4 as 0 (nI gs) (nI lf) wr (nI sc) 2, nI i, upd4 as 0 (nI gs) (nI lf) wr (nI sc)) = _
  rw [u0, show upd4 as 0 (nI gs) (nI lf) wr (nI sc) 1 = _ from u1, show upd4 as 0 (nI gs) (nI lf) wr (nI sc) 2 = _ from u2, show upd4 as 0 (nI gs) (nI lf) wr (nI sc) 3 = _ from u3]
