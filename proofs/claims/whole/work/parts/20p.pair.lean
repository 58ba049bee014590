/-! kinds against one another; luck -/
theorem ten_eq (r : Nat → Int32) : f_X11_ten r = some (-10, upd r 0 (r 0 + 1)) := by
  unfold f_X11_ten
  rw [if_neg (by decide), if_neg (by decide)]
  rfl
theorem ix6 (i j : Nat) : nI i * (6 : Int32) + nI j = nI (6 * i + j) := by rw [show (6 : Int32) = nI 6 from rfl, pk_mul, nI_add, Nat.mul_comm]
theorem ix6b (i j : Nat) : (6 : Int32) * nI i + nI j = nI (6 * i + j) := by rw [show (6 : Int32) = nI 6 from rfl, pk_mul, nI_add]
theorem WR.pairs1 {n : Nat} {cd : Nat → Nat} {codes masks alike havers mcodes mmasks : Nat → Int32} (W : WR n cd codes masks alike havers mcodes mmasks) {sc lf gs i : Nat} (wr tl tg tw lg : Int32) (as wp mw : Nat → Int32) (hsc : sc < 8) (hlf : lf < 2 ^ n) (hg : GsOK cd lf gs) (hi : i < 6) (h : ∀ t, t < 6 * i → wp t = mw t) : ∃ o p, lp (fun v => B_X10_reckonPairs_10 (nI sc) (nI n) codes masks alike havers (nI lf) (nI gs) wr (nI i) v.1 v.2.1 v.2.2.1 v.2.2.2.1 v.2.2.2.2) KN ((0 : Int32), tl, tg, tw, wp) = some o ∧ lp (fun v => B_X11_against_20 (nI n) mcodes mmasks (nI i) v.1 v.2.1 v.2.2.1 v.2.2.2.1 v.2.2.2.2.1 v.2.2.2.2.2.1 v.2.2.2.2.2.2.1 v.2.2.2.2.2.2.2) KN ((0 : Int32), nI sc, nI gs, nI lf, wr, lg, as, mw) = some p ∧ ∃ tl tg tw lg as wp mw, o = (tl, tg, tw, wp) ∧ p = (nI sc, nI gs, nI lf, wr, lg, as, mw) ∧ ∀ t, t < 6 * (i + 1) → wp t = mw t := by
  refine lp_sim (fun j v w => ∃ tl tg tw lg as wp mw, v = (nI j, tl, tg, tw, wp) ∧ w = (nI j, nI sc, nI gs, nI lf, wr, lg, as, mw) ∧ ∀ t, t < 6 * i + j → wp t = mw t) _ 6 (by decide) ⟨tl, tg, tw, lg, as, wp, mw, rfl, rfl, h⟩ (fun j v w hj hv => ?_) (fun v w hv => ?_)
  · obtain ⟨tl, tg, tw, lg, as, wp, mw, rfl, rfl, h⟩ := hv
    refine Or.inl ?_
    show ∃ u x, B_X10_reckonPairs_10 (nI sc) (nI n) codes masks alike havers (nI lf) (nI gs) wr (nI i) (nI j) tl tg tw wp = some (.inl u) ∧ B_X11_against_20 (nI n) mcodes mmasks (nI i) (nI j) (nI sc) (nI gs) (nI lf) wr lg as mw = some (.inl x) ∧ _
    unfold B_X10_reckonPairs_10 B_X11_against_20
    obtain ⟨lf2, gs2, k, x, as2, q1, q2, q3, q4, e1, e2⟩ := W.aside (kg := i) (kh := j) (sc := sc) wr as hi hj hsc hlf hg
    have ge : ¬ (6 : Int32) ≤ nI j := nI_ge (b := 6) hj (by decide)
    have o1 : ¬ oob (nI (6 * i + j)) 36 := vp_in_nI (by omega) (by decide)
    rw [ix6, ix6b, nI_1]
    refine ⟨_, _, ino ge (b_some rfl (b_some e1 (ino o1 rfl))), ino ge (b_some e2 (ino o1 rfl)), nI lf2, nI gs2, wr + nI k, nI x, as2, _, _, rfl, rfl, fun t ht => ?_⟩
    show upd wp (nI (6 * i + j)).toNatClampNeg (nI k) t = upd mw (nI (6 * i + j)).toNatClampNeg (nI k) t
    rw [nI_clamp (by omega)]
    by_cases e : t = 6 * i + j
    · subst e; rw [pk_us, pk_us]
    · rw [pk_un e, pk_un e]; exact h t (by omega)
  · obtain ⟨tl, tg, tw, lg, as, wp, mw, rfl, rfl, h⟩ := hv
    have z : (6 : Int32) ≤ nI 6 := by decide
    exact ⟨_, _, ip z rfl, ip z rfl, tl, tg, tw, lg, as, wp, mw, rfl, rfl, h⟩
theorem WR.pairs {n : Nat} {cd : Nat → Nat} {codes masks alike havers mcodes mmasks : Nat → Int32} (W : WR n cd codes masks alike havers mcodes mmasks) {sc lf gs : Nat} (wr tl tg tw lg : Int32) (as wp mw : Nat → Int32) (hsc : sc < 8) (hlf : lf < 2 ^ n) (hg : GsOK cd lf gs) : ∃ o p, lp (fun v => B_X10_reckonPairs_2 (nI sc) (nI n) codes masks alike havers (nI lf) (nI gs) wr v.1 v.2.1 v.2.2.1 v.2.2.2.1 v.2.2.2.2) KN ((0 : Int32), tl, tg, tw, wp) = some o ∧ lp (fun v => B_X11_against_12 (nI n) mcodes mmasks v.1 v.2.1 v.2.2.1 v.2.2.2.1 v.2.2.2.2.1 v.2.2.2.2.2.1 v.2.2.2.2.2.2.1 v.2.2.2.2.2.2.2) KN ((0 : Int32), nI sc, nI gs, nI lf, wr, lg, as, mw) = some p ∧ ∃ tl tg tw lg as wp mw, o = (tl, tg, tw, wp) ∧ p = (nI sc, nI gs, nI lf, wr, lg, as, mw) ∧ ∀ t, t < 36 → wp t = mw t := by
  refine lp_sim (fun i v w => ∃ tl tg tw lg as wp mw, v = (nI i, tl, tg, tw, wp) ∧ w = (nI i, nI sc, nI gs, nI lf, wr, lg, as, mw) ∧ ∀ t, t < 6 * i → wp t = mw t) _ 6 (by decide) ⟨tl, tg, tw, lg, as, wp, mw, rfl, rfl, fun t ht => absurd ht (by omega)⟩ (fun i v w hi hv => ?_) (fun v w hv => ?_)
  · obtain ⟨tl, tg, tw, lg, as, wp, mw, rfl, rfl, h⟩ := hv
    refine Or.inl ?_
    show ∃ u x, B_X10_reckonPairs_2 (nI sc) (nI n) codes masks alike havers (nI lf) (nI gs) wr (nI i) tl tg tw wp = some (.inl u) ∧ B_X11_against_12 (nI n) mcodes mmasks (nI i) (nI sc) (nI gs) (nI lf) wr lg as mw = some (.inl x) ∧ _
    unfold B_X10_reckonPairs_2 B_X11_against_12
    obtain ⟨o, p, e1, e2, tl2, tg2, tw2, lg2, as2, wp2, mw2, rfl, rfl, h2⟩ := W.pairs1 wr tl tg tw lg as wp mw hsc hlf hg hi h
    have ge : ¬ (6 : Int32) ≤ nI i := nI_ge (b := 6) hi (by decide)
    rw [nI_1]
    exact ⟨_, _, ino ge (b_some e1 rfl), ino ge (b_some e2 rfl), tl2, tg2, tw2, lg2, as2, wp2, mw2, rfl, rfl, h2⟩
  · obtain ⟨tl, tg, tw, lg, as, wp, mw, rfl, rfl, h⟩ := hv
    have z : (6 : Int32) ≤ nI 6 := by decide
    exact ⟨_, _, ip z rfl, ip z rfl, tl, tg, tw, lg, as, wp, mw, rfl, rfl, h⟩
/-- whether a pair rests, by one other kind -/
def RsK (wp : Nat → Int32) (i j k : Nat) : Prop := ¬ wp (6 * k + j) < wp (6 * i + j) ∧ ¬ wp (6 * i + j) < wp (6 * i + k)
theorem rests_eq {wp mw : Nat → Int32} (h : ∀ t, t < 36 → wp t = mw t) {i j : Nat} (hi : i < 6) (hj : j < 6) : ∃ r, f_X10_pairRests wp (nI i) (nI j) = some r ∧ f_X11_rests mw (nI i) (nI j) = some r := by
  have C : ∃ r, f_X10_pairRests wp (nI i) (nI j) = some r ∧ ((r = 1 ∧ ∀ k, k < 6 → RsK wp i j k) ∨ (r = 0 ∧ ∃ k, k < 6 ∧ ¬ RsK wp i j k)) := by
    unfold f_X10_pairRests
    rw [ix6, if_neg (show ¬ oob (nI (6 * i + j)) 36 from vp_in_nI (by omega) (by decide)), nI_clamp (by omega)]
    refine b_ex (lp_inv (fun k v => v = nI k ∧ ∀ x, x < k → RsK wp i j x) (fun o => (o = 1 ∧ ∀ k, k < 6 → RsK wp i j k) ∨ (o = 0 ∧ ∃ k, k < 6 ∧ ¬ RsK wp i j k)) 6 (by decide) ⟨rfl, fun k hk => absurd hk (by omega)⟩ (fun k v hk hv => ?_) (fun v hv => ?_)) (fun o q => ?_)
    · obtain ⟨rfl, hv⟩ := hv
      show (∃ u, B_X10_pairRests_15 wp (nI i) (nI j) (wp (6 * i + j)) (nI k) = some (.inl u) ∧ _) ∨ (∃ o, B_X10_pairRests_15 wp (nI i) (nI j) (wp (6 * i + j)) (nI k) = some (.inr o) ∧ _)
      unfold B_X10_pairRests_15
      rw [ix6, ix6, nI_1, if_neg (show ¬ (6 : Int32) ≤ nI k from nI_ge (b := 6) hk (by decide)), if_neg (show ¬ oob (nI (6 * k + j)) 36 from vp_in_nI (by omega) (by decide)), if_neg (show ¬ oob (nI (6 * i + k)) 36 from vp_in_nI (by omega) (by decide)), nI_clamp (by omega), nI_clamp (by omega)]
      by_cases c1 : wp (6 * k + j) < wp (6 * i + j)
      · exact Or.inr ⟨_, ip c1 rfl, Or.inr ⟨rfl, k, hk, fun q => q.1 c1⟩⟩
      · by_cases c2 : wp (6 * i + k) ≤ wp (6 * i + j)
        · refine Or.inl ⟨_, ino c1 (ip c2 rfl), rfl, fun x hx => ?_⟩
          by_cases e : x = k
          · subst e; exact ⟨c1, Int32.not_lt.mpr c2⟩
          · exact hv x (by omega)
        · exact Or.inr ⟨_, ino c1 (ino c2 rfl), Or.inr ⟨rfl, k, hk, fun q => c2 (Int32.not_lt.mp q.2)⟩⟩
    · obtain ⟨rfl, hv⟩ := hv
      exact ⟨_, ip (show (6 : Int32) ≤ nI 6 from by decide) rfl, Or.inl ⟨rfl, hv⟩⟩
    · rcases q with ⟨rfl, q⟩ | ⟨rfl, q⟩
      · exact ⟨_, ino (by decide) rfl, Or.inl ⟨rfl, q⟩⟩
      · exact ⟨_, ip rfl rfl, Or.inr ⟨rfl, q⟩⟩
  have M : ∃ r, f_X11_rests mw (nI i) (nI j) = some r ∧ ((r = 1 ∧ ∀ k, k < 6 → RsK wp i j k) ∨ (r = 0 ∧ ∃ k, k < 6 ∧ ¬ RsK wp i j k)) := by
    unfold f_X11_rests
    refine b_ex (lp_inv (fun k v => ∃ r, v = (r, nI k) ∧ ((r = 1 ∧ ∀ x, x < k → RsK wp i j x) ∨ (r = 0 ∧ ∃ x, x < k ∧ ¬ RsK wp i j x))) (fun o => (o = 1 ∧ ∀ k, k < 6 → RsK wp i j k) ∨ (o = 0 ∧ ∃ k, k < 6 ∧ ¬ RsK wp i j k)) 6 (by decide) ⟨1, rfl, Or.inl ⟨rfl, fun k hk => absurd hk (by omega)⟩⟩ (fun k v hk hv => ?_) (fun v hv => ?_)) (fun o q => ?_)
    · obtain ⟨r, rfl, hv⟩ := hv
      refine Or.inl ?_
      show ∃ u, B_X11_rests_5 mw (nI i) (nI j) r (nI k) = some (.inl u) ∧ _
      unfold B_X11_rests_5
      rw [ix6b, ix6b, ix6b, nI_1, if_neg (show ¬ (6 : Int32) ≤ nI k from nI_ge (b := 6) hk (by decide)), if_neg (show ¬ oob (nI (6 * k + j)) 36 from vp_in_nI (by omega) (by decide)), if_neg (show ¬ oob (nI (6 * i + k)) 36 from vp_in_nI (by omega) (by decide)), if_neg (show ¬ oob (nI (6 * i + j)) 36 from vp_in_nI (by omega) (by decide)), if_neg (show ¬ oob (nI (6 * i + j)) 36 from vp_in_nI (by omega) (by decide)), nI_clamp (by omega), nI_clamp (by omega), nI_clamp (by omega), ← h (6 * k + j) (by omega), ← h (6 * i + k) (by omega), ← h (6 * i + j) (by omega)]
      rcases hv with ⟨rfl, hv⟩ | ⟨rfl, x, hx, hv⟩
      · rw [if_neg i10]
        by_cases c1 : wp (6 * k + j) < wp (6 * i + j)
        · exact ⟨_, ip c1 rfl, 0, rfl, Or.inr ⟨rfl, k, by omega, fun q => q.1 c1⟩⟩
        · by_cases c2 : wp (6 * i + j) < wp (6 * i + k)
          · exact ⟨_, ino c1 (ip c2 rfl), 0, rfl, Or.inr ⟨rfl, k, by omega, fun q => q.2 c2⟩⟩
          · refine ⟨_, ino c1 (ino c2 rfl), 1, rfl, Or.inl ⟨rfl, fun x hx => ?_⟩⟩
            by_cases e : x = k
            · subst e; exact ⟨c1, c2⟩
            · exact hv x (by omega)
      · exact ⟨_, ip rfl rfl, 0, rfl, Or.inr ⟨rfl, x, by omega, hv⟩⟩
    · obtain ⟨r, rfl, hv⟩ := hv
      exact ⟨_, ip (show (6 : Int32) ≤ nI 6 from by decide) rfl, hv⟩
    · rcases q with ⟨rfl, q⟩ | ⟨rfl, q⟩
      · exact ⟨_, ip (Or.inr rfl) rfl, Or.inl ⟨rfl, q⟩⟩
      · exact ⟨_, ip (Or.inl rfl) rfl, Or.inr ⟨rfl, q⟩⟩
  obtain ⟨r, e1, q1⟩ := C
  obtain ⟨s, e2, q2⟩ := M
  have : r = s := by
    rcases q1 with ⟨rfl, q1⟩ | ⟨rfl, k, hk, q1⟩ <;> rcases q2 with ⟨rfl, q2⟩ | ⟨rfl, x, hx, q2⟩
    · rfl
    · exact absurd (q1 x hx) q2
    · exact absurd (q2 k hk) q1
    · rfl
  subst this
  exact ⟨r, e1, e2⟩
theorem find1 {wp mw : Nat → Int32} (h : ∀ t, t < 36 → wp t = mw t) {i : Nat} (hi : i < 6) (x1 x2 : Int32) : ∃ o p, lp (fun v => B_X10_against_30 wp x1 (nI i) v.1 v.2) KN (x2, (0 : Int32)) = some o ∧ lp (fun v => B_X11_against_68 mw x1 (nI i) v.1 v.2) KN (x2, (0 : Int32)) = some p ∧ o = p := by
  refine lp_sim (fun j v w => v = w ∧ ∃ x, v = (x, nI j)) _ 6 (by decide) ⟨rfl, x2, rfl⟩ (fun j v w hj hv => ?_) (fun v w hv => ?_)
  · obtain ⟨rfl, x, rfl⟩ := hv
    obtain ⟨r, e1, e2⟩ := rests_eq h hi hj
    show (∃ u y, B_X10_against_30 wp x1 (nI i) x (nI j) = some (.inl u) ∧ B_X11_against_68 mw x1 (nI i) x (nI j) = some (.inl y) ∧ _) ∨ (∃ o p, B_X10_against_30 wp x1 (nI i) x (nI j) = some (.inr o) ∧ B_X11_against_68 mw x1 (nI i) x (nI j) = some (.inr p) ∧ _)
    unfold B_X10_against_30 B_X11_against_68
    have ge : ¬ (6 : Int32) ≤ nI j := nI_ge (b := 6) hj (by decide)
    rw [nI_1, if_neg ge, if_neg ge, e1, e2, Option.bind_some]
    by_cases c : r = 0
    · rw [if_pos c]
      exact Or.inl ⟨_, _, rfl, rfl, rfl, x, rfl⟩
    · rw [if_neg c]
      by_cases d : x = x1
      · rw [if_pos d]
        exact Or.inr ⟨_, _, rfl, rfl, rfl⟩
      · rw [if_neg d]
        exact Or.inl ⟨_, _, rfl, rfl, rfl, x + 1, rfl⟩
  · obtain ⟨rfl, x, rfl⟩ := hv
    have z : (6 : Int32) ≤ nI 6 := by decide
    exact ⟨_, _, ip z rfl, ip z rfl, rfl⟩
theorem find_eq {wp mw : Nat → Int32} (h : ∀ t, t < 36 → wp t = mw t) (x1 : Int32) : ∃ o p, lp (fun v => B_X10_against_21 wp x1 v.1 v.2) KN ((0 : Int32), (0 : Int32)) = some o ∧ lp (fun v => B_X11_against_59 mw x1 v.1 v.2) KN ((0 : Int32), (0 : Int32)) = some p ∧ o = p := by
  refine lp_sim (fun j v w => v = w ∧ ∃ x, v = (x, nI j)) _ 6 (by decide) ⟨rfl, 0, rfl⟩ (fun i v w hi hv => ?_) (fun v w hv => ?_)
  · obtain ⟨rfl, x, rfl⟩ := hv
    obtain ⟨o, p, e1, e2, rfl⟩ := find1 h hi x1 x
    show (∃ u y, B_X10_against_21 wp x1 x (nI i) = some (.inl u) ∧ B_X11_against_59 mw x1 x (nI i) = some (.inl y) ∧ _) ∨ (∃ o p, B_X10_against_21 wp x1 x (nI i) = some (.inr o) ∧ B_X11_against_59 mw x1 x (nI i) = some (.inr p) ∧ _)
    unfold B_X10_against_21 B_X11_against_59
    have ge : ¬ (6 : Int32) ≤ nI i := nI_ge (b := 6) hi (by decide)
    rw [nI_1, if_neg ge, if_neg ge, e1, e2, Option.bind_some]
    by_cases c : o.1 = 0
    · rw [if_pos c]
      exact Or.inr ⟨_, _, rfl, rfl, rfl⟩
    · rw [if_neg c]
      exact Or.inl ⟨_, _, rfl, rfl, rfl, _, rfl⟩
  · obtain ⟨rfl, x, rfl⟩ := hv
    have z : (6 : Int32) ≤ nI 6 := by decide
    exact ⟨_, _, ip z rfl, ip z rfl, rfl⟩
/-- alike with a word by some letters -/
def alB (cd : Nat → Nat) (w st v : Nat) : Nat → Bool
  | 0 => true
  | k + 1 => alB cd w st v k && (!(st.testBit k) || (mkm (cd v) k == mkm (cd w) k))
theorem alB_f {cd : Nat → Nat} {w st v k : Nat} (h : st.testBit k = false) : alB cd w st v (k + 1) = alB cd w st v k := by
  show (alB cd w st v k && (!(st.testBit k) || (mkm (cd v) k == mkm (cd w) k))) = _
  rw [h]
  simp
theorem alB_t {cd : Nat → Nat} {w st v k : Nat} (h : st.testBit k = true) : alB cd w st v (k + 1) = (alB cd w st v k && (mkm (cd v) k == mkm (cd w) k)) := by
  show (alB cd w st v k && (!(st.testBit k) || (mkm (cd v) k == mkm (cd w) k))) = _
  rw [h]
  simp
def AB (n : Nat) (cd : Nat → Nat) (lf w st : Nat) : Nat := sN (fun v => lf.testBit v && alB cd w st v 10) n
theorem WR.lbh {n : Nat} {cd : Nat → Nat} {codes masks alike havers mcodes mmasks : Nat → Int32} (W : WR n cd codes masks alike havers mcodes mmasks) {sc lf st w : Nat} (hlf : lf < 2 ^ n) (hw : w < n) (hst : st < 1024) (hk : f_X3_keptOf (nI sc) (nI lf) = some (nI w)) : f_X10_leftByHonest (nI sc) (nI n) alike (nI lf) (nI st) = some (nI (AB n cd lf w st)) := by
  have hn := W.hn
  unfold f_X10_leftByHonest
  have h0 : sN (fun v => lf.testBit v && alB cd w st v 0) n = lf := by
    rw [sN_cong (q := lf.testBit) (fun k _ => by show (lf.testBit k && true) = _; simp)]
    exact sN_self hlf
  refine b_some hk (b_some (lp_run (o := nI (AB n cd lf w st)) (fun i => (nI (sN (fun v => lf.testBit v && alB cd w st v i) n), nI i)) 10 (by show (nI lf, (0 : Int32)) = (nI (sN (fun v => lf.testBit v && alB cd w st v 0) n), nI 0); rw [h0]; rfl) (by decide) (fun i hi => ?_) ?_) rfl)
  · show B_X10_leftByHonest_26 (nI n) alike (nI st) (nI w) (nI (sN (fun v => lf.testBit v && alB cd w st v i) n)) (nI i) = some (.inl (nI (sN (fun v => lf.testBit v && alB cd w st v (i + 1)) n), nI (i + 1)))
    unfold B_X10_leftByHonest_26
    rw [nI_1]
    refine ino (nI_ge (b := 10) hi (by decide)) ?_
    cases hb : st.testBit i
    · refine ip (bz (by omega) (by omega) hb) ?_
      rw [sN_cong (p := fun v => lf.testBit v && alB cd w st v (i + 1)) (q := fun v => lf.testBit v && alB cd w st v i) (fun k _ => by show (lf.testBit k && alB cd w st k (i + 1)) = _; rw [alB_f hb])]
    · refine ino (bnz (by omega) (by omega) hb) (b_some (W.calike hw hi) ?_)
      rw [fa_and]
      congr 4
      apply nat_ext (and_lt (sN_lt _ _)) (sN_lt _ _)
      intro k hk
      rw [Nat.testBit_and, sN_tb, sN_tb, sN_tb, decide_eq_true hk, alB_t hb]
      cases lf.testBit k <;> cases alB cd w st k i <;> simp
  · show B_X10_leftByHonest_26 (nI n) alike (nI st) (nI w) (nI _) (nI 10) = _
    unfold B_X10_leftByHonest_26
    exact ip (by decide) rfl
theorem bi_eq {b : Bool} {x : Int32} (h : b = false) : (if b then x else 0) = (0 : Int32) := by rw [h]; rfl
theorem WR.aby {n : Nat} {cd : Nat → Nat} {codes masks alike havers mcodes mmasks : Nat → Int32} (W : WR n cd codes masks alike havers mcodes mmasks) {lf st w : Nat} (hlf : lf < 2 ^ n) (hw : w < n) (hst : st < 1024) : f_X11_alikeBy (nI n) mmasks (nI lf) (nI w) (nI st) = some (nI (AB n cd lf w st)) := by
  have hn := W.hn
  have h256 := lt256 hn hlf
  unfold f_X11_alikeBy
  refine b_some (lp_run (o := nI (AB n cd lf w st)) (fun i => (nI (sN (fun v => lf.testBit v && alB cd w st v 10) i), nI i)) n rfl (by omega) (fun i hi => ?_) ?_) rfl
  · show B_X11_alikeBy_6 (nI n) mmasks (nI lf) (nI w) (nI st) (nI (sN (fun v => lf.testBit v && alB cd w st v 10) i)) (nI i) = some (.inl (nI (sN (fun v => lf.testBit v && alB cd w st v 10) (i + 1)), nI (i + 1)))
    have inner : lp (fun v => B_X11_alikeBy_26 mmasks (nI w) (nI st) (nI i) v.1 v.2) KN ((if lf.testBit i then (1 : Int32) else 0), (0 : Int32)) = some (if (lf.testBit i && alB cd w st i 10) then (1 : Int32) else 0) := by
      refine lp_run (fun k => ((if (lf.testBit i && alB cd w st i k) then (1 : Int32) else 0), nI k)) 10 ?_ (by decide) (fun k hk => ?_) ?_
      · show _ = ((if (lf.testBit i && true) then (1 : Int32) else 0), nI 0)
        rw [Bool.and_true]
        rfl
      · show B_X11_alikeBy_26 mmasks (nI w) (nI st) (nI i) (if (lf.testBit i && alB cd w st i k) then (1 : Int32) else 0) (nI k) = some (.inl ((if (lf.testBit i && alB cd w st i (k + 1)) then (1 : Int32) else 0), nI (k + 1)))
        unfold B_X11_alikeBy_26
        rw [nI_1]
        refine ino (nI_ge (b := 10) hk (by decide)) ?_
        cases hc : (lf.testBit i && alB cd w st i k)
        · have hd : (lf.testBit i && alB cd w st i (k + 1)) = false := by
            show (lf.testBit i && (alB cd w st i k && (!(st.testBit k) || (mkm (cd i) k == mkm (cd w) k)))) = false
            rw [← Bool.and_assoc, hc]
            rfl
          rw [hd]
          exact ip rfl rfl
        · refine ino (by decide) ?_
          cases hb : st.testBit k
          · rw [alB_f hb, hc]
            exact b_some (has_f (by omega) (by omega) hb) (ip rfl rfl)
          · rw [alB_t hb, ← Bool.and_assoc, hc]
            have m1 := mkm_lt (cd i) k
            have m2 := mkm_lt (cd w) k
            refine b_some (has_t (by omega) (by omega) hb) (ino i10 (b_some (W.mmask hi hk) (b_some (W.mmask hw hk) ?_)))
            by_cases e : mkm (cd i) k = mkm (cd w) k
            · refine ip (by rw [e]) ?_
              rw [e]
              simp
            · refine ino (fun q => e ((nI_eq (by omega) (by omega)).mp q)) ?_
              have : (mkm (cd i) k == mkm (cd w) k) = false := by simpa using e
              rw [this]
              simp
      · show B_X11_alikeBy_26 mmasks (nI w) (nI st) (nI i) (if (lf.testBit i && alB cd w st i 10) then (1 : Int32) else 0) (nI 10) = _
        unfold B_X11_alikeBy_26
        exact ip (by decide) rfl
    unfold B_X11_alikeBy_6
    rw [sN_or, shl1 i (by omega), show nI (sN (fun v => lf.testBit v && alB cd w st v 10) i) ||| (0 : Int32) = nI (sN (fun v => lf.testBit v && alB cd w st v 10) i ||| 0) from fa_or _ 0, fa_or, nI_1]
    refine ino (nI_ge hi (by omega)) (b_some (has_eq (by omega) (by omega)) (b_some inner ?_))
    cases hc : (lf.testBit i && alB cd w st i 10)
    · exact ip rfl rfl
    · exact ino (by decide) rfl
  · show B_X11_alikeBy_6 (nI n) mmasks (nI lf) (nI w) (nI st) (nI _) (nI n) = _
    unfold B_X11_alikeBy_6
    exact ip (nI_le (Nat.le_refl n) (by omega)) rfl
/-- the sets of letters that are drawn -/
def selL (gs d st : Nat) : Bool := decide (st &&& gs = 0) && decide (pcN st 10 = d)
theorem luckC {gs d N : Nat} {good : Nat → Bool} {se sz lf : Int32} {al : Nat → Int32} (hN : N = 1024) (hgs : gs < 1024) (hd : d ≤ 10) (H : ∀ st, st < 1024 → ∃ A, A < 1024 ∧ f_X10_leftByHonest se sz al lf (nI st) = some (nI A) ∧ good st = decide (pcN A 10 ≤ 1)) : lp (fun v => B_X10_luck_45 se sz al lf (nI gs) (nI d) v.1 v.2.1 v.2.2) KN ((0 : Int32), (0 : Int32), (0 : Int32)) = some (nI (ct (fun s => selL gs d s && good s) N), nI (ct (selL gs d) N)) := by
  refine lp_run (fun i => (nI (ct (fun s => selL gs d s && good s) i), nI (ct (selL gs d) i), nI i)) N rfl (by omega) (fun i hi => ?_) ?_
  · show B_X10_luck_45 se sz al lf (nI gs) (nI d) (nI (ct (fun s => selL gs d s && good s) i)) (nI (ct (selL gs d) i)) (nI i) = some (.inl (nI (ct (fun s => selL gs d s && good s) i + (if (selL gs d i && good i) then 1 else 0)), nI (ct (selL gs d) i + (if selL gs d i then 1 else 0)), nI (i + 1)))
    unfold B_X10_luck_45
    have i1 : i < 1024 := by omega
    have pi := pc_le i
    obtain ⟨A, hA, e1, e2⟩ := H i i1
    have pA := pc_le A
    rw [Int32.add_zero, nI_1, nI_1, nI_1]
    refine ino (show ¬ (1023 : Int32) < nI i from nI_nlt (a := 1023) (by omega) (by decide)) ?_
    rw [fa_and]
    by_cases c1 : i &&& gs = 0
    · rw [c1]
      refine ip rfl (b_some (bc_eq i1) ?_)
      by_cases c2 : pcN i 10 = d
      · have hs : selL gs d i = true := by
          unfold selL
          rw [c1, c2]
          simp
        rw [hs, e2, c2]
        refine ip rfl (b_some e1 (b_some (bc_eq hA) ?_))
        by_cases c3 : pcN A 10 ≤ 1
        · rw [decide_eq_true c3]
          exact ino (show ¬ (1 : Int32) < nI _ from nI_nlt (a := 1) c3 (by decide)) rfl
        · rw [decide_eq_false c3]
          exact ip (show (1 : Int32) < nI _ from nI_lt (a := 1) (by omega) (by omega)) rfl
      · have hs : selL gs d i = false := by
          unfold selL
          rw [decide_eq_false c2]
          simp
        rw [hs]
        exact ino (fun q => c2 ((nI_eq (by omega) (by omega)).mp q)) rfl
    · have hs : selL gs d i = false := by
        unfold selL
        rw [decide_eq_false c1]
        simp
      rw [hs]
      have : i &&& gs < 2 ^ 31 := Nat.lt_of_le_of_lt Nat.and_le_left (by omega)
      exact ino (nI_ne0 (by omega) this) rfl
  · show B_X10_luck_45 se sz al lf (nI gs) (nI d) _ _ (nI N) = _
    unfold B_X10_luck_45
    exact ip (show (1023 : Int32) < nI N from nI_lt (a := 1023) (by omega) (by omega)) rfl
theorem luckM {gs d N w : Nat} {good : Nat → Bool} {sz lf : Int32} {mm : Nat → Int32} (hN : N = 1024) (hgs : gs < 1024) (hd : d ≤ 10) (H : ∀ st, st < 1024 → ∃ A, A < 1024 ∧ f_X11_alikeBy sz mm lf (nI w) (nI st) = some (nI A) ∧ good st = decide (pcN A 10 ≤ 1)) : lp (fun v => B_X11_luck_72 sz (nI gs) lf mm (nI d) (nI w) v.1 v.2.1 v.2.2) KN ((0 : Int64), (0 : Int64), (0 : Int32)) = some (lN (ct (fun s => selL gs d s && good s) N), lN (ct (selL gs d) N)) := by
  refine lp_run (fun i => (lN (ct (fun s => selL gs d s && good s) i), lN (ct (selL gs d) i), nI i)) N rfl (by omega) (fun i hi => ?_) ?_
  · show B_X11_luck_72 sz (nI gs) lf mm (nI d) (nI w) (lN (ct (fun s => selL gs d s && good s) i)) (lN (ct (selL gs d) i)) (nI i) = some (.inl (lN (ct (fun s => selL gs d s && good s) i + (if (selL gs d i && good i) then 1 else 0)), lN (ct (selL gs d) i + (if selL gs d i then 1 else 0)), nI (i + 1)))
    unfold B_X11_luck_72
    have i1 : i < 1024 := by omega
    have pi := pc_le i
    obtain ⟨A, hA, e1, e2⟩ := H i i1
    rw [Int64.add_zero, nI_1, lN_1, lN_1]
    refine ino (show ¬ (1024 : Int32) ≤ nI i from nI_ge (b := 1024) (by omega) (by decide)) ?_
    rw [fa_and]
    by_cases c1 : i &&& gs = 0
    · rw [c1]
      refine ip rfl (b_some (bits_eq i1) ?_)
      by_cases c2 : pcN i 10 = d
      · have hs : selL gs d i = true := by
          unfold selL
          rw [c1, c2]
          simp
        rw [hs, e2, c2]
        by_cases c3 : pcN A 10 ≤ 1
        · rw [decide_eq_true c3]
          exact ip rfl (b_some e1 (b_some (one_y hA c3) (ino i10 rfl)))
        · rw [decide_eq_false c3]
          exact ip rfl (b_some e1 (b_some (one_n hA c3) (ip rfl rfl)))
      · have hs : selL gs d i = false := by
          unfold selL
          rw [decide_eq_false c2]
          simp
        rw [hs]
        exact ino (fun q => c2 ((nI_eq (by omega) (by omega)).mp q)) rfl
    · have hs : selL gs d i = false := by
        unfold selL
        rw [decide_eq_false c1]
        simp
      rw [hs]
      have : i &&& gs < 2 ^ 31 := Nat.lt_of_le_of_lt Nat.and_le_left (by omega)
      exact ino (nI_ne0 (by omega) this) rfl
  · show B_X11_luck_72 sz (nI gs) lf mm (nI d) (nI w) _ _ (nI N) = _
    unfold B_X11_luck_72
    exact ip (show (1024 : Int32) ≤ nI N from nI_le (a := 1024) (by omega) (by omega)) rfl
theorem ct_imp {p q : Nat → Bool} : ∀ {n : Nat}, (∀ k, k < n → p k = true → q k = true) → ct p n ≤ ct q n
  | 0, _ => Nat.le_refl _
  | n + 1, h => by
    show ct p n + (if p n then 1 else 0) ≤ ct q n + (if q n then 1 else 0)
    have := ct_imp (n := n) (fun k hk => h k (by omega))
    by_cases hp : p n = true
    · rw [if_pos hp, if_pos (h n (by omega) hp)]
      omega
    · rw [if_neg hp]
      omega
theorem free_set (gs : Nat) : ∀ (m d : Nat), d ≤ ct (fun l => !(gs.testBit l)) m → ∃ st, st < 2 ^ m ∧ st &&& gs = 0 ∧ ct st.testBit m = d
  | 0, d, h => ⟨0, by decide, Nat.zero_and gs, by show 0 = d; have h : d ≤ 0 := h; omega⟩
  | m + 1, d, h => by
    have h : d ≤ ct (fun l => !(gs.testBit l)) m + (if (!(gs.testBit m)) then 1 else 0) := h
    by_cases c : d ≤ ct (fun l => !(gs.testBit l)) m
    · obtain ⟨st, h1, h2, h3⟩ := free_set gs m d c
      refine ⟨st, by rw [Nat.pow_succ]; omega, h2, ?_⟩
      show ct st.testBit m + (if st.testBit m then 1 else 0) = d
      rw [Nat.testBit_lt_two_pow h1]
      exact h3
    · have hb : gs.testBit m = false := by
        cases e : gs.testBit m
        · rfl
        · rw [e] at h
          exact absurd h c
      rw [hb] at h
      have h : d ≤ ct (fun l => !(gs.testBit l)) m + 1 := h
      obtain ⟨st, h1, h2, h3⟩ := free_set gs m (d - 1) (by omega)
      refine ⟨st ||| 2 ^ m, or_lt (by rw [Nat.pow_succ]; omega) (Nat.pow_lt_pow_right (by decide) (by omega)), ?_, ?_⟩
      · apply Nat.eq_of_testBit_eq
        intro i
        have e := congrArg (fun z => Nat.testBit z i) h2
        simp only [Nat.testBit_and, Nat.zero_testBit] at e
        rw [Nat.testBit_and, gs_tb, Nat.zero_testBit]
        by_cases q : m = i
        · subst q
          rw [hb]
          simp
        · rw [decide_eq_false q, Bool.or_false]
          exact e
      · show ct (st ||| 2 ^ m).testBit m + (if (st ||| 2 ^ m).testBit m then 1 else 0) = d
        rw [ct_cong (q := st.testBit) (fun k hk => by rw [gs_tb, decide_eq_false (by omega), Bool.or_false]), h3, gs_tb, decide_eq_true rfl, Bool.or_true]
        show d - 1 + 1 = d
        omega
theorem sel_pos {gs d N : Nat} (hN : N = 1024) (h : d + pcN gs 10 ≤ 10) : 0 < ct (selL gs d) N := by
  have hs := ct_split (fun _ => true) gs.testBit 10
  have h10 : ct (fun _ => true) 10 = 10 := rfl
  have e1 : ct (fun w => true && gs.testBit w) 10 = pcN gs 10 := by rw [pc_ct]; exact ct_cong (fun k _ => Bool.true_and _)
  have e2 : ct (fun w => true && !(gs.testBit w)) 10 = ct (fun l => !(gs.testBit l)) 10 := ct_cong (fun k _ => Bool.true_and _)
  rw [h10, e1, e2] at hs
  obtain ⟨st, h1, h2, h3⟩ := free_set gs 10 d (by omega)
  refine ct_pos (w := st) (by omega) ?_
  unfold selL
  rw [h2, pc_ct, h3]
  simp
theorem lbh0 {sc n : Nat} {al : Nat → Int32} {st : Nat} (hsc : sc < 8) (hst : st < 1024) : f_X10_leftByHonest (nI sc) (nI n) al (nI 0) (nI st) = some (nI 0) := by
  have hk : f_X3_keptOf (nI sc) (nI 0) = some (-1) := by
    have : ∀ s : Fin 8, f_X3_keptOf (nI s.val) (nI 0) = some (-1) := by decide +kernel
    exact this ⟨sc, hsc⟩
  unfold f_X10_leftByHonest
  refine b_some hk (b_some (lp_run (o := nI 0) (fun i => (nI 0, nI i)) 10 rfl (by decide) (fun i hi => ?_) ?_) rfl)
  · show B_X10_leftByHonest_26 (nI n) al (nI st) (-1) (nI 0) (nI i) = _
    unfold B_X10_leftByHonest_26
    rw [nI_1]
    refine ino (nI_ge (b := 10) hi (by decide)) ?_
    cases hb : st.testBit i
    · exact ip (bz (by omega) (by omega) hb) rfl
    · refine ino (bnz (by omega) (by omega) hb) (b_some (x := 0) ?_ rfl)
      unfold f_X9_alikeTo
      exact ip (by decide) rfl
  · show B_X10_leftByHonest_26 (nI n) al (nI st) (-1) (nI 0) (nI 10) = _
    unfold B_X10_leftByHonest_26
    exact ip (by decide) rfl
theorem AB_le {n : Nat} {cd : Nat → Nat} {lf w st : Nat} (hn : n ≤ 8) (hlf : lf < 2 ^ n) : pcN (AB n cd lf w st) 10 ≤ pcN lf 10 := by
  have hA : AB n cd lf w st < 2 ^ n := sN_lt _ _
  rw [pc_n (by omega) hA, pc_n (by omega) hlf]
  apply ct_imp
  intro k hk h
  have h : (AB n cd lf w st).testBit k = true := h
  unfold AB at h
  rw [sN_tb, Bool.and_eq_true, Bool.and_eq_true] at h
  exact h.2.1
