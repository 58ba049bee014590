/-! which kinds fit; the most that say alike -/
theorem all_loop {nn : Nat} (hnn : nn < 2000) {Bc : Int32 → Option (Int32 ⊕ Nat)} {Bm : Int32 × Int32 → Option ((Int32 × Int32) ⊕ Int32)} (fit : Nat → Prop)
    (cy : ∀ i, i < nn → fit i → Bc (nI i) = some (.inl (nI (i + 1)))) (cn : ∀ i, i < nn → ¬ fit i → Bc (nI i) = some (.inr 0)) (ce : Bc (nI nn) = some (.inr 1))
    (my : ∀ i, i < nn → fit i → Bm (1, nI i) = some (.inl (1, nI (i + 1)))) (mn : ∀ i, i < nn → ¬ fit i → Bm (1, nI i) = some (.inl (0, nI (i + 1)))) (m0 : ∀ i, i < nn → Bm (0, nI i) = some (.inl (0, nI (i + 1)))) (me : ∀ b, Bm (b, nI nn) = some (.inr b)) :
    (lp Bc KN 0 = some 1 ∧ lp Bm KN (1, 0) = some 1) ∨ (lp Bc KN 0 = some 0 ∧ lp Bm KN (1, 0) = some 0) := by
  by_cases h : ∀ i, i < nn → fit i
  · refine Or.inl ⟨lp_run (fun i => nI i) nn rfl hnn (fun i hi => cy i hi (h i hi)) ce, lp_run (fun i => (1, nI i)) nn rfl hnn (fun i hi => my i hi (h i hi)) (me 1)⟩
  · have hx : ∃ k, k < nn ∧ ¬ fit k ∧ ∀ j, j < k → fit j := by
      have key : ∀ d k, k < d → k < nn → ¬ fit k → ∃ k, k < nn ∧ ¬ fit k ∧ ∀ j, j < k → fit j := by
        intro d
        induction d with
        | zero => intro k hk; exact absurd hk (by omega)
        | succ d ih =>
          intro k hk hk2 hk3
          by_cases e : ∃ j, j < k ∧ ¬ fit j
          · obtain ⟨j, e1, e2⟩ := e
            exact ih j (by omega) (by omega) e2
          · exact ⟨k, hk2, hk3, fun j hj => Classical.byContradiction fun q => e ⟨j, hj, q⟩⟩
      obtain ⟨k, hk⟩ := Classical.not_forall.mp h
      obtain ⟨hk1, hk2⟩ := Classical.not_imp.mp hk
      exact key (k + 1) k (by omega) hk1 hk2
    obtain ⟨k, hk, hf, hj⟩ := hx
    refine Or.inr ⟨lp_run (fun i => nI i) k rfl (by omega) (fun i hi => cy i (by omega) (hj i hi)) (cn k hk hf), lp_run (fun i => ((if i ≤ k then 1 else 0), nI i)) nn rfl hnn (fun i hi => ?_) ?_⟩
    · by_cases e : i ≤ k
      · rw [if_pos e]
        by_cases e2 : i = k
        · subst e2
          rw [if_neg (by omega)]
          exact mn i hi hf
        · rw [if_pos (by omega)]
          exact my i hi (hj i (by omega))
      · rw [if_neg e, if_neg (by omega)]
        exact m0 i hi
    · rw [if_neg (by omega)]
      exact me 0
/-- a running maximum -/
def mxN (f : Nat → Nat) : Nat → Nat
  | 0 => 0
  | i + 1 => if mxN f i < f i then f i else mxN f i
theorem mxN_le {f : Nat → Nat} {B : Nat} : ∀ {n : Nat}, (∀ i, i < n → f i ≤ B) → mxN f n ≤ B
  | 0, _ => Nat.zero_le _
  | n + 1, h => by
    show (if mxN f n < f n then f n else mxN f n) ≤ B
    have := mxN_le (n := n) (fun i hi => h i (by omega))
    have := h n (by omega)
    split <;> omega
theorem le_mxN {f : Nat → Nat} : ∀ {n i : Nat}, i < n → f i ≤ mxN f n
  | 0, i, h => absurd h (by omega)
  | n + 1, i, h => by
    show f i ≤ (if mxN f n < f n then f n else mxN f n)
    by_cases e : i = n
    · subst e
      split <;> omega
    · have := le_mxN (f := f) (n := n) (i := i) (by omega)
      split <;> omega
def cA (sk : Nat → Int32) (s a : Nat) : Nat := ct (fun b => s.testBit b && decide (sk b = sk a)) 6
theorem mostC {sk : Nat → Int32} {s : Nat} (hs : s < 64) : f_X10_mostAlike sk (nI s) = some (nI (mxN (cA sk s) 6)) := by
  unfold f_X10_mostAlike
  refine b_some (lp_run (o := nI (mxN (cA sk s) 6)) (fun i => (nI (mxN (cA sk s) i), nI i)) 6 rfl (by decide) (fun i hi => ?_) ?_) rfl
  · show B_X10_mostAlike_4 sk (nI s) (nI _) (nI i) = some (.inl (nI (if mxN (cA sk s) i < cA sk s i then cA sk s i else mxN (cA sk s) i), nI (i + 1)))
    unfold B_X10_mostAlike_4
    have c6 : cA sk s i ≤ 6 := ct_le _ _
    have m6 : mxN (cA sk s) i ≤ 6 := mxN_le (fun j _ => ct_le _ _)
    rw [nI_1]
    refine ino (nI_ge (b := 6) hi (by decide)) (b_some (lp_run (o := nI (cA sk s i)) (fun j => (nI (ct (fun b => s.testBit b && decide (sk b = sk i)) j), nI j)) 6 rfl (by decide) (fun j hj => ?_) ?_) ?_)
    · show B_X10_mostAlike_16 sk (nI s) (nI i) (nI _) (nI j) = some (.inl (nI (_ + (if (s.testBit j && decide (sk j = sk i)) then 1 else 0)), nI (j + 1)))
      unfold B_X10_mostAlike_16
      rw [nI_1]
      refine ino (nI_ge (b := 6) hj (by decide)) ?_
      cases hb : s.testBit j
      · refine ip (bz (by omega) (by omega) hb) ?_
        simp
      · refine ino (bnz (by omega) (by omega) hb) (ino (vp_in_nI hj (by decide)) (ino (vp_in_nI hi (by decide)) ?_))
        rw [nI_clamp (by omega), nI_clamp (by omega), nI_1]
        by_cases e : sk j = sk i
        · exact ip e (by rw [e]; simp)
        · exact ino e (by simp [e])
    · show B_X10_mostAlike_16 sk (nI s) (nI i) (nI _) (nI 6) = _
      unfold B_X10_mostAlike_16
      exact ip (by decide) rfl
    · congr 2
      by_cases h : mxN (cA sk s) i < cA sk s i
      · rw [if_pos h, if_pos (nI_lt h (by omega))]
      · rw [if_neg h, if_neg (nI_nlt (by omega) (by omega))]
  · show B_X10_mostAlike_4 sk (nI s) (nI _) (nI 6) = _
    unfold B_X10_mostAlike_4
    exact ip (by decide) rfl
def cB (sk : Nat → Int32) (s a : Nat) : Nat := ct (fun b => s.testBit a && (s.testBit b && decide (sk a = sk b))) 6
theorem mostM {sk : Nat → Int32} {s : Nat} (hs : s < 64) : f_X11_mostAlike sk (nI s) = some (nI (mxN (cB sk s) 6)) := by
  unfold f_X11_mostAlike
  refine b_some (lp_run (o := nI (mxN (cB sk s) 6)) (fun i => (nI (mxN (cB sk s) i), nI i)) 6 rfl (by decide) (fun i hi => ?_) ?_) rfl
  · show B_X11_mostAlike_4 sk (nI s) (nI _) (nI i) = some (.inl (nI (if mxN (cB sk s) i < cB sk s i then cB sk s i else mxN (cB sk s) i), nI (i + 1)))
    unfold B_X11_mostAlike_4
    have c6 : cB sk s i ≤ 6 := ct_le _ _
    have m6 : mxN (cB sk s) i ≤ 6 := mxN_le (fun j _ => ct_le _ _)
    rw [nI_1]
    refine ino (nI_ge (b := 6) hi (by decide)) (b_some (lp_run (o := nI (cB sk s i)) (fun j => (nI (ct (fun b => s.testBit i && (s.testBit b && decide (sk i = sk b))) j), nI j)) 6 rfl (by decide) (fun j hj => ?_) ?_) ?_)
    · show B_X11_mostAlike_16 sk (nI s) (nI i) (nI _) (nI j) = some (.inl (nI (_ + (if (s.testBit i && (s.testBit j && decide (sk i = sk j))) then 1 else 0)), nI (j + 1)))
      unfold B_X11_mostAlike_16
      rw [nI_1, Int32.add_zero, nI_1]
      refine ino (nI_ge (b := 6) hj (by decide)) ?_
      cases ha : s.testBit i
      · refine b_some (has_f (by omega) (by omega) ha) (ip rfl ?_)
        simp
      · refine b_some (has_t (by omega) (by omega) ha) (ino i10 ?_)
        cases hb : s.testBit j
        · refine b_some (has_f (by omega) (by omega) hb) (ip rfl ?_)
          simp
        · refine b_some (has_t (by omega) (by omega) hb) (ino i10 (ino (vp_in_nI hi (by decide)) (ino (vp_in_nI hj (by decide)) ?_)))
          rw [nI_clamp (by omega), nI_clamp (by omega)]
          by_cases e : sk i = sk j
          · exact ip e (by rw [e]; simp)
          · exact ino e (by simp [e])
    · show B_X11_mostAlike_16 sk (nI s) (nI i) (nI _) (nI 6) = _
      unfold B_X11_mostAlike_16
      exact ip (by decide) rfl
    · by_cases h : mxN (cB sk s) i < cB sk s i
      · rw [if_pos h]
        exact ino (nI_ge h (by omega)) rfl
      · rw [if_neg h]
        exact ip (nI_le (by omega) (by omega)) rfl
  · show B_X11_mostAlike_4 sk (nI s) (nI _) (nI 6) = _
    unfold B_X11_mostAlike_4
    exact ip (by decide) rfl
theorem most_eq {sk ms : Nat → Int32} {s : Nat} (hs : s < 64) (h : ∀ k, k < 6 → sk k = ms k) : ∃ r, r ≤ 6 ∧ f_X10_mostAlike sk (nI s) = some (nI r) ∧ f_X11_mostAlike ms (nI s) = some (nI r) := by
  have e : mxN (cA sk s) 6 = mxN (cB ms s) 6 := by
    apply Nat.le_antisymm
    · apply mxN_le
      intro i hi
      rcases Nat.eq_zero_or_pos (cA sk s i) with z | z
      · omega
      · obtain ⟨b, hb, q⟩ := ct_ex z
        rw [Bool.and_eq_true, decide_eq_true_eq] at q
        have : cA sk s i = cB ms s b := by
          apply ct_cong
          intro k hk
          rw [q.1, ← h k hk, ← h b hb, q.2]
          cases s.testBit k
          · rfl
          · by_cases e : sk k = sk i
            · simp [e]
            · simp [e, Ne.symm e]
        rw [this]
        exact le_mxN hb
    · apply mxN_le
      intro i hi
      have : cB ms s i ≤ cA sk s i := by
        cases ha : s.testBit i
        · have : cB ms s i = 0 := by
            apply Nat.le_antisymm _ (Nat.zero_le _)
            apply Nat.le_of_not_lt
            intro z
            obtain ⟨b, hb, q⟩ := ct_ex z
            rw [ha] at q
            cases q
          omega
        · have : cB ms s i = cA sk s i := by
            apply ct_cong
            intro k hk
            rw [ha, ← h k hk, ← h i hi]
            cases s.testBit k
            · rfl
            · by_cases e : sk k = sk i
              · simp [e]
              · simp [e, Ne.symm e]
          omega
      exact Nat.le_trans this (le_mxN hi)
  refine ⟨mxN (cA sk s) 6, mxN_le (fun j _ => ct_le _ _), mostC hs, ?_⟩
  rw [e]
  exact mostM hs
def NoteR (n nn : Nat) (cells noted : Nat → Int32) : Prop := ∀ k, k < nn → ∃ a b c d : Nat, 1 ≤ a ∧ a < 2 ^ n ∧ b < 10 ∧ c < 10 ∧ d < 16 ∧ (cells (4 * k) = nI a ∧ cells (4 * k + 1) = nI b ∧ cells (4 * k + 2) = nI c ∧ cells (4 * k + 3) = nI d) ∧ (noted (4 * k) = nI a ∧ noted (4 * k + 1) = nI b ∧ noted (4 * k + 2) = nI c ∧ noted (4 * k + 3) = nI d)
def MarkR (n nm : Nat) (cells marked : Nat → Int32) : Prop := ∀ k, k < nm → ∃ a b c : Nat, 1 ≤ a ∧ a < 2 ^ n ∧ b < 1024 ∧ c < 10 ∧ (cells (4 * k) = nI a ∧ cells (4 * k + 1) = nI b ∧ cells (4 * k + 2) = nI c) ∧ (marked (3 * k) = nI a ∧ marked (3 * k + 1) = nI b ∧ marked (3 * k + 2) = nI c)
theorem WR.notes {n : Nat} {cd : Nat → Nat} {codes masks alike havers mcodes mmasks : Nat → Int32} (W : WR n cd codes masks alike havers mcodes mmasks) {nn kd sc : Nat} {cells noted : Nat → Int32} (hnn : nn ≤ 6) (hr : NoteR n nn cells noted) (hkd : kd < 6) (hsc : sc < 8) : ∃ b : Int32, (b = 0 ∨ b = 1) ∧ f_X10_allNotesFit (nI sc) (nI n) masks alike havers (nI nn) cells (nI kd) = some b ∧ lp (fun v => B_X11_is_15 (nI n) (nI sc) (nI nn) noted mmasks (nI kd) v.1 v.2) KN ((1 : Int32), (0 : Int32)) = some b := by
  have key : ∀ i, i < nn → ∃ r e : Int32, (∀ z, (if r = e then some (Sum.inl (nI (i + 1))) else some (Sum.inr 0)) = z → B_X10_allNotesFit_10 (nI sc) (nI n) masks alike havers (nI nn) cells (nI kd) (nI i) = z) ∧ (∀ z, (if r = e then some (Sum.inl ((1 : Int32), nI (i + 1))) else some (Sum.inl ((0 : Int32), nI (i + 1)))) = z → B_X11_is_15 (nI n) (nI sc) (nI nn) noted mmasks (nI kd) 1 (nI i) = z) := by
    intro i hi
    obtain ⟨a, b, c, d, ha, ha2, hb, hc, hd, ⟨y1, y2, y3, y4⟩, ⟨z1, z2, z3, z4⟩⟩ := hr i hi
    obtain ⟨m, -, e1, e2⟩ := W.reply (nI b) hkd hsc ha2 (by omega) hc
    refine ⟨nI m, nI d, fun z hz => ?_, fun z hz => ?_⟩
    · unfold B_X10_allNotesFit_10
      rw [nI_1]
      refine ino (nI_ge hi (by omega)) (b_some (cell_eq (N := 24) (i := i) (j := 0) (by decide) (by omega)) (b_some (cell_eq (N := 24) (i := i) (j := 1) (by decide) (by omega)) (b_some (cell_eq (N := 24) (i := i) (j := 2) (by decide) (by omega)) ?_)))
      rw [show 4 * i + 0 = 4 * i from rfl, y1, y2, y3]
      refine b_some e1 (b_some (cell_eq (N := 24) (i := i) (j := 3) (by decide) (by omega)) ?_)
      rw [y4]
      exact hz
    · unfold B_X11_is_15
      rw [nI_1, mul4, show (1 : Int32) = nI 1 from rfl, show (2 : Int32) = nI 2 from rfl, show (3 : Int32) = nI 3 from rfl, nI_add, nI_add, nI_add]
      refine ino (nI_ge hi (by omega)) (ino i10 (ino (vp_in_nI (by omega) (by decide)) (ino (vp_in_nI (by omega) (by decide)) (ino (vp_in_nI (by omega) (by decide)) ?_))))
      rw [nI_clamp (n := 4 * i) (by omega), nI_clamp (n := 4 * i + 1) (by omega), nI_clamp (n := 4 * i + 2) (by omega), z1, z2, z3]
      refine b_some e2 (ino (vp_in_nI (by omega) (by decide)) ?_)
      rw [nI_clamp (by omega), z4]
      exact hz
  have A := all_loop (nn := nn) (by omega) (Bc := fun v => B_X10_allNotesFit_10 (nI sc) (nI n) masks alike havers (nI nn) cells (nI kd) v) (Bm := fun v => B_X11_is_15 (nI n) (nI sc) (nI nn) noted mmasks (nI kd) v.1 v.2) (fun i => B_X10_allNotesFit_10 (nI sc) (nI n) masks alike havers (nI nn) cells (nI kd) (nI i) = some (.inl (nI (i + 1)))) (fun i hi h => h) (fun i hi h => ?_) ?_ (fun i hi h => ?_) (fun i hi h => ?_) (fun i hi => ?_) (fun b => ?_)
  · unfold f_X10_allNotesFit
    rcases A with ⟨a1, a2⟩ | ⟨a1, a2⟩
    · exact ⟨1, Or.inr rfl, b_some a1 rfl, a2⟩
    · exact ⟨0, Or.inl rfl, b_some a1 rfl, a2⟩
  · obtain ⟨r, e, k1, k2⟩ := key i hi
    by_cases q : r = e
    · exact absurd (k1 _ (ip q rfl)) h
    · exact k1 _ (ino q rfl)
  · show B_X10_allNotesFit_10 (nI sc) (nI n) masks alike havers (nI nn) cells (nI kd) (nI nn) = _
    unfold B_X10_allNotesFit_10
    exact ip (nI_le (Nat.le_refl _) (by omega)) rfl
  · obtain ⟨r, e, k1, k2⟩ := key i hi
    by_cases q : r = e
    · exact k2 _ (ip q rfl)
    · have := k1 _ (ino q rfl)
      rw [h] at this
      cases this
  · obtain ⟨r, e, k1, k2⟩ := key i hi
    by_cases q : r = e
    · exact absurd (k1 _ (ip q rfl)) h
    · exact k2 _ (ino q rfl)
  · show B_X11_is_15 (nI n) (nI sc) (nI nn) noted mmasks (nI kd) 0 (nI i) = _
    unfold B_X11_is_15
    rw [nI_1]
    exact ino (nI_ge hi (by omega)) (ip rfl rfl)
  · show B_X11_is_15 (nI n) (nI sc) (nI nn) noted mmasks (nI kd) b (nI nn) = _
    unfold B_X11_is_15
    exact ip (nI_le (Nat.le_refl _) (by omega)) rfl
theorem WR.holders {n : Nat} {cd : Nat → Nat} {codes masks alike havers mcodes mmasks : Nat → Int32} (W : WR n cd codes masks alike havers mcodes mmasks) {nn sc : Nat} {cells noted : Nat → Int32} (hnn : nn ≤ 6) (hr : NoteR n nn cells noted) (hsc : sc < 8) : ∃ s, s < 64 ∧ f_X10_fittingHolders (nI sc) (nI n) masks alike havers (nI nn) cells = some (nI s) ∧ f_X11_is (nI n) (nI sc) (nI nn) noted mmasks = some (nI s) := by
  have L : ∃ o p, lp (fun v => B_X10_fittingHolders_4 (nI sc) (nI n) masks alike havers (nI nn) cells v.1 v.2) KN ((0 : Int32), (0 : Int32)) = some o ∧ lp (fun v => B_X11_is_4 (nI n) (nI sc) (nI nn) noted mmasks v.1 v.2) KN ((0 : Int32), (0 : Int32)) = some p ∧ o = p ∧ ∃ s, s < 64 ∧ o = nI s := by
    refine lp_sim (fun i v w => v = w ∧ ∃ s, s < 64 ∧ v = (nI s, nI i)) _ 6 (by decide) ⟨rfl, 0, by decide, rfl⟩ (fun i v w hi hv => ?_) (fun v w hv => ?_)
    · obtain ⟨rfl, s, hs, rfl⟩ := hv
      refine Or.inl ?_
      obtain ⟨b, hb, e1, e2⟩ := W.notes hnn hr hi hsc
      show ∃ u x, B_X10_fittingHolders_4 (nI sc) (nI n) masks alike havers (nI nn) cells (nI s) (nI i) = some (.inl u) ∧ B_X11_is_4 (nI n) (nI sc) (nI nn) noted mmasks (nI s) (nI i) = some (.inl x) ∧ _
      unfold B_X10_fittingHolders_4 B_X11_is_4
      have ge : ¬ (6 : Int32) ≤ nI i := nI_ge (b := 6) hi (by decide)
      rw [if_neg ge, if_neg ge, e1, e2, Option.bind_some, Option.bind_some, nI_1, shl1 i (by omega), fa_or]
      rcases hb with rfl | rfl
      · refine ⟨_, _, ip rfl rfl, ip rfl rfl, ?_, s, hs, rfl⟩
        rw [show (0 : Int32) = nI 0 from rfl, fa_or, Nat.or_zero]
      · exact ⟨_, _, ino i10 rfl, ino i10 rfl, rfl, s ||| 2 ^ i, or_lt (k := 6) hs (Nat.pow_lt_pow_right (by decide) hi), rfl⟩
    · obtain ⟨rfl, s, hs, rfl⟩ := hv
      have z : (6 : Int32) ≤ nI 6 := by decide
      exact ⟨_, _, ip z rfl, ip z rfl, rfl, s, hs, rfl⟩
  obtain ⟨o, p, e1, e2, rfl, s, hs, rfl⟩ := L
  exact ⟨s, hs, b_some e1 rfl, b_some e2 rfl⟩
theorem WR.marks {n : Nat} {cd : Nat → Nat} {codes masks alike havers mcodes mmasks : Nat → Int32} (W : WR n cd codes masks alike havers mcodes mmasks) {nm kd : Nat} {cells marked : Nat → Int32} (hnm : nm ≤ 6) (hr : MarkR n nm cells marked) (hkd : kd < 6) : ∃ b : Int32, (b = 0 ∨ b = 1) ∧ f_X10_allMarksFit (nI n) codes havers (nI nm) cells (nI kd) = some b ∧ lp (fun v => B_X11_kinds_15 (nI n) (nI nm) mcodes marked mmasks (nI kd) v.1 v.2) KN ((1 : Int32), (0 : Int32)) = some b := by
  have key : ∀ i, i < nm → ∃ r e : Int32, (∀ z, (if r = e then some (Sum.inl (nI (i + 1))) else some (Sum.inr 0)) = z → B_X10_allMarksFit_10 (nI n) codes havers (nI nm) cells (nI kd) (nI i) = z) ∧ (∀ z, (if r = e then some (Sum.inl ((1 : Int32), nI (i + 1))) else some (Sum.inl ((0 : Int32), nI (i + 1)))) = z → B_X11_kinds_15 (nI n) (nI nm) mcodes marked mmasks (nI kd) 1 (nI i) = z) := by
    intro i hi
    obtain ⟨a, b, c, ha, ha2, hb, hc, ⟨y1, y2, y3⟩, ⟨z1, z2, z3⟩⟩ := hr i hi
    obtain ⟨r, e1, e2, -⟩ := W.choice hkd ha2 hb
    refine ⟨r, nI c, fun z hz => ?_, fun z hz => ?_⟩
    · unfold B_X10_allMarksFit_10
      rw [nI_1]
      refine ino (nI_ge hi (by omega)) (b_some (cell_eq (N := 24) (i := i) (j := 0) (by decide) (by omega)) (b_some (cell_eq (N := 24) (i := i) (j := 1) (by decide) (by omega)) ?_))
      rw [show 4 * i + 0 = 4 * i from rfl, y1, y2]
      refine b_some e1 (b_some (cell_eq (N := 24) (i := i) (j := 2) (by decide) (by omega)) ?_)
      rw [y3]
      exact hz
    · unfold B_X11_kinds_15
      rw [nI_1, mul3, show (1 : Int32) = nI 1 from rfl, show (2 : Int32) = nI 2 from rfl, nI_add, nI_add]
      refine ino (nI_ge hi (by omega)) (ino i10 (ino (vp_in_nI (by omega) (by decide)) (ino (vp_in_nI (by omega) (by decide)) ?_)))
      rw [nI_clamp (n := 3 * i) (by omega), nI_clamp (n := 3 * i + 1) (by omega), z1, z2]
      refine b_some e2 (ino (vp_in_nI (by omega) (by decide)) ?_)
      rw [nI_clamp (by omega), z3]
      exact hz
  have A := all_loop (nn := nm) (by omega) (Bc := fun v => B_X10_allMarksFit_10 (nI n) codes havers (nI nm) cells (nI kd) v) (Bm := fun v => B_X11_kinds_15 (nI n) (nI nm) mcodes marked mmasks (nI kd) v.1 v.2) (fun i => B_X10_allMarksFit_10 (nI n) codes havers (nI nm) cells (nI kd) (nI i) = some (.inl (nI (i + 1)))) (fun i hi h => h) (fun i hi h => ?_) ?_ (fun i hi h => ?_) (fun i hi h => ?_) (fun i hi => ?_) (fun b => ?_)
  · unfold f_X10_allMarksFit
    rcases A with ⟨a1, a2⟩ | ⟨a1, a2⟩
    · exact ⟨1, Or.inr rfl, b_some a1 rfl, a2⟩
    · exact ⟨0, Or.inl rfl, b_some a1 rfl, a2⟩
  · obtain ⟨r, e, k1, k2⟩ := key i hi
    by_cases q : r = e
    · exact absurd (k1 _ (ip q rfl)) h
    · exact k1 _ (ino q rfl)
  · show B_X10_allMarksFit_10 (nI n) codes havers (nI nm) cells (nI kd) (nI nm) = _
    unfold B_X10_allMarksFit_10
    exact ip (nI_le (Nat.le_refl _) (by omega)) rfl
  · obtain ⟨r, e, k1, k2⟩ := key i hi
    by_cases q : r = e
    · exact k2 _ (ip q rfl)
    · have := k1 _ (ino q rfl)
      rw [h] at this
      cases this
  · obtain ⟨r, e, k1, k2⟩ := key i hi
    by_cases q : r = e
    · exact absurd (k1 _ (ip q rfl)) h
    · exact k2 _ (ino q rfl)
  · show B_X11_kinds_15 (nI n) (nI nm) mcodes marked mmasks (nI kd) 0 (nI i) = _
    unfold B_X11_kinds_15
    rw [nI_1]
    exact ino (nI_ge hi (by omega)) (ip rfl rfl)
  · show B_X11_kinds_15 (nI n) (nI nm) mcodes marked mmasks (nI kd) b (nI nm) = _
    unfold B_X11_kinds_15
    exact ip (nI_le (Nat.le_refl _) (by omega)) rfl
theorem WR.guessers {n : Nat} {cd : Nat → Nat} {codes masks alike havers mcodes mmasks : Nat → Int32} (W : WR n cd codes masks alike havers mcodes mmasks) {nm : Nat} {cells marked : Nat → Int32} (hnm : nm ≤ 6) (hr : MarkR n nm cells marked) : ∃ s, s < 64 ∧ f_X10_fittingGuessers (nI n) codes havers (nI nm) cells = some (nI s) ∧ f_X11_kinds (nI n) (nI nm) mcodes marked mmasks = some (nI s) := by
  have L : ∃ o p, lp (fun v => B_X10_fittingGuessers_4 (nI n) codes havers (nI nm) cells v.1 v.2) KN ((0 : Int32), (0 : Int32)) = some o ∧ lp (fun v => B_X11_kinds_4 (nI n) (nI nm) mcodes marked mmasks v.1 v.2) KN ((0 : Int32), (0 : Int32)) = some p ∧ o = p ∧ ∃ s, s < 64 ∧ o = nI s := by
    refine lp_sim (fun i v w => v = w ∧ ∃ s, s < 64 ∧ v = (nI s, nI i)) _ 6 (by decide) ⟨rfl, 0, by decide, rfl⟩ (fun i v w hi hv => ?_) (fun v w hv => ?_)
    · obtain ⟨rfl, s, hs, rfl⟩ := hv
      refine Or.inl ?_
      obtain ⟨b, hb, e1, e2⟩ := W.marks hnm hr hi
      show ∃ u x, B_X10_fittingGuessers_4 (nI n) codes havers (nI nm) cells (nI s) (nI i) = some (.inl u) ∧ B_X11_kinds_4 (nI n) (nI nm) mcodes marked mmasks (nI s) (nI i) = some (.inl x) ∧ _
      unfold B_X10_fittingGuessers_4 B_X11_kinds_4
      have ge : ¬ (6 : Int32) ≤ nI i := nI_ge (b := 6) hi (by decide)
      rw [if_neg ge, if_neg ge, e1, e2, Option.bind_some, Option.bind_some, nI_1, shl1 i (by omega), fa_or]
      rcases hb with rfl | rfl
      · refine ⟨_, _, ip rfl rfl, ip rfl rfl, ?_, s, hs, rfl⟩
        rw [show (0 : Int32) = nI 0 from rfl, fa_or, Nat.or_zero]
      · exact ⟨_, _, ino i10 rfl, ino i10 rfl, rfl, s ||| 2 ^ i, or_lt (k := 6) hs (Nat.pow_lt_pow_right (by decide) hi), rfl⟩
    · obtain ⟨rfl, s, hs, rfl⟩ := hv
      have z : (6 : Int32) ≤ nI 6 := by decide
      exact ⟨_, _, ip z rfl, ip z rfl, rfl, s, hs, rfl⟩
  obtain ⟨o, p, e1, e2, rfl, s, hs, rfl⟩ := L
  exact ⟨s, hs, b_some e1 rfl, b_some e2 rfl⟩
theorem WR.saysH {n : Nat} {cd : Nat → Nat} {codes masks alike havers mcodes mmasks : Nat → Int32} (W : WR n cd codes masks alike havers mcodes mmasks) {sc lf gs l : Nat} (sk ms : Nat → Int32) (hsc : sc < 8) (hlf : lf < 2 ^ n) (h0 : lf ≠ 0) (hgs : gs < 1024) (hl : l < 10) : ∃ o p, lp (fun v => B_X10_look_42 (nI sc) (nI n) masks alike havers (nI lf) (nI gs) (nI l) v.1 v.2) KN ((0 : Int32), sk) = some o ∧ lp (fun v => B_X11_look_34 (nI n) (nI sc) (nI gs) (nI lf) mmasks (nI l) v.1 v.2) KN ((0 : Int32), ms) = some p ∧ ∀ k, k < 6 → o k = p k := by
  refine lp_sim (fun i v w => v.1 = nI i ∧ w.1 = nI i ∧ ∀ k, k < i → v.2 k = w.2 k) _ 6 (by decide) ⟨rfl, rfl, fun k hk => absurd hk (by omega)⟩ (fun i v w hi hv => ?_) (fun v w hv => ?_)
  · obtain ⟨v, sk⟩ := v
    obtain ⟨w, ms⟩ := w
    obtain ⟨h1, h2, h3⟩ := hv
    dsimp only at h1 h2 h3
    subst h1 h2
    refine Or.inl ?_
    obtain ⟨m, -, e1, e2⟩ := W.reply (nI (pcN gs 10)) hi hsc hlf h0 hl
    have ge : ¬ (6 : Int32) ≤ nI i := nI_ge (b := 6) hi (by decide)
    refine ⟨(nI (i + 1), upd sk i (nI m)), (nI (i + 1), upd ms i (nI m)), ?_, ?_, rfl, rfl, fun k hk => ?_⟩
    · show B_X10_look_42 (nI sc) (nI n) masks alike havers (nI lf) (nI gs) (nI l) (nI i) sk = _
      unfold B_X10_look_42
      refine ino ge (b_some (b_some (gu_eq hgs) (b_some e1 rfl)) (ino (vp_in_nI hi (by decide)) ?_))
      rw [nI_clamp (by omega), nI_1]
    · show B_X11_look_34 (nI n) (nI sc) (nI gs) (nI lf) mmasks (nI l) (nI i) ms = _
      unfold B_X11_look_34
      refine ino ge (b_some (bits_eq hgs) (b_some e2 (ino (vp_in_nI hi (by decide)) ?_)))
      rw [nI_clamp (by omega), nI_1]
    · show upd sk i (nI m) k = upd ms i (nI m) k
      by_cases e : k = i
      · subst e
        rw [pk_us, pk_us]
      · rw [pk_un e, pk_un e]
        exact h3 k (by omega)
  · obtain ⟨v, sk⟩ := v
    obtain ⟨w, ms⟩ := w
    obtain ⟨h1, h2, h3⟩ := hv
    dsimp only at h1 h2 h3
    subst h1 h2
    have z : (6 : Int32) ≤ nI 6 := by decide
    exact ⟨_, _, ip z rfl, ip z rfl, h3⟩
theorem WR.saysG {n : Nat} {cd : Nat → Nat} {codes masks alike havers mcodes mmasks : Nat → Int32} (W : WR n cd codes masks alike havers mcodes mmasks) {lf gs : Nat} (sk ms : Nat → Int32) (hlf : lf < 2 ^ n) (hgs : gs < 1024) : ∃ o p, lp (fun v => B_X10_ask_37 (nI n) codes havers (nI gs) (nI lf) v.1 v.2) KN ((0 : Int32), sk) = some o ∧ lp (fun v => B_X11_ask_31 (nI n) (nI gs) mcodes mmasks (nI lf) v.1 v.2) KN ((0 : Int32), ms) = some p ∧ ∀ k, k < 6 → o k = p k := by
  refine lp_sim (fun i v w => v.1 = nI i ∧ w.1 = nI i ∧ ∀ k, k < i → v.2 k = w.2 k) _ 6 (by decide) ⟨rfl, rfl, fun k hk => absurd hk (by omega)⟩ (fun i v w hi hv => ?_) (fun v w hv => ?_)
  · obtain ⟨v, sk⟩ := v
    obtain ⟨w, ms⟩ := w
    obtain ⟨h1, h2, h3⟩ := hv
    dsimp only at h1 h2 h3
    subst h1 h2
    refine Or.inl ?_
    obtain ⟨r, e1, e2, -⟩ := W.choice hi hlf hgs
    have ge : ¬ (6 : Int32) ≤ nI i := nI_ge (b := 6) hi (by decide)
    refine ⟨(nI (i + 1), upd sk i r), (nI (i + 1), upd ms i r), ?_, ?_, rfl, rfl, fun k hk => ?_⟩
    · show B_X10_ask_37 (nI n) codes havers (nI gs) (nI lf) (nI i) sk = _
      unfold B_X10_ask_37
      refine ino ge (b_some e1 (ino (vp_in_nI hi (by decide)) ?_))
      rw [nI_clamp (by omega), nI_1]
    · show B_X11_ask_31 (nI n) (nI gs) mcodes mmasks (nI lf) (nI i) ms = _
      unfold B_X11_ask_31
      refine ino ge (b_some e2 (ino (vp_in_nI hi (by decide)) ?_))
      rw [nI_clamp (by omega), nI_1]
    · show upd sk i r k = upd ms i r k
      by_cases e : k = i
      · subst e
        rw [pk_us, pk_us]
      · rw [pk_un e, pk_un e]
        exact h3 k (by omega)
  · obtain ⟨v, sk⟩ := v
    obtain ⟨w, ms⟩ := w
    obtain ⟨h1, h2, h3⟩ := hv
    dsimp only at h1 h2 h3
    subst h1 h2
    have z : (6 : Int32) ≤ nI 6 := by decide
    exact ⟨_, _, ip z rfl, ip z rfl, h3⟩
theorem WR.look {n : Nat} {cd : Nat → Nat} {codes masks alike havers mcodes mmasks : Nat → Int32} (W : WR n cd codes masks alike havers mcodes mmasks) {sc lf gs s : Nat} (sk ms : Nat → Int32) (hsc : sc < 8) (hlf : lf < 2 ^ n) (h0 : lf ≠ 0) (hgs : gs < 1024) (hs : s < 64) (hs0 : s ≠ 0) : ∃ o p, lp (fun v => B_X10_look_32 (nI sc) (nI n) masks alike havers (nI lf) (nI gs) (nI s) v.1 v.2.1 v.2.2.1 v.2.2.2) KN ((-1 : Int32), (7 : Int32), (0 : Int32), sk) = some o ∧ lp (fun v => B_X11_look_13 (nI n) (nI sc) (nI gs) (nI lf) mmasks (nI s) v.1 v.2.1 v.2.2.1 v.2.2.2) KN ((-1 : Int32), (1048576 : Int32), (0 : Int32), ms) = some p ∧ o.1 = p.1 := by
  have hll := lt256 W.hn hlf
  refine lp_sim (fun i v w => ∃ sk ms : Nat → Int32, (i = 0 ∧ v = ((-1 : Int32), (7 : Int32), (0 : Int32), sk) ∧ w = ((-1 : Int32), (1048576 : Int32), (0 : Int32), ms)) ∨ ∃ a c, c ≤ 6 ∧ v = (nI a, nI c, nI i, sk) ∧ w = (nI a, nI c, nI i, ms)) _ 10 (by decide) ⟨sk, ms, Or.inl ⟨rfl, rfl, rfl⟩⟩ (fun i v w hi hv => ?_) (fun v w hv => ?_)
  · obtain ⟨sk, ms, hv⟩ := hv
    refine Or.inl ?_
    obtain ⟨o, p, e1, e2, hk⟩ := W.saysH sk ms hsc hlf h0 hgs hi
    obtain ⟨r, hr, f1, f2⟩ := most_eq hs hk
    have ge : ¬ (10 : Int32) ≤ nI i := nI_ge (b := 10) hi (by decide)
    have sz : ¬ nI s = 0 := nI_ne0 (by omega) (by omega)
    have lz : ¬ nI lf = 0 := nI_ne0 (by omega) (by omega)
    rcases hv with ⟨rfl, rfl, rfl⟩ | ⟨a, c, hc, rfl, rfl⟩
    · have q1 : ¬ (7 : Int32) ≤ nI r := nI_ge (b := 7) (by omega) (by decide)
      have q2 : ¬ (1048576 : Int32) ≤ nI r := nI_ge (b := 1048576) (by omega) (by decide)
      exact ⟨_, _, ino ge (b_some e1 (b_some f1 (ino q1 rfl))), ino ge (ino sz (ino lz (b_some e2 (b_some f2 (ino q2 (ino q2 rfl)))))), o, p, Or.inr ⟨0, r, hr, rfl, rfl⟩⟩
    · by_cases h : c ≤ r
      · have q := nI_le (a := c) (b := r) h (by omega)
        refine ⟨_, _, ino ge (b_some e1 (b_some f1 (ip q rfl))), ino ge (ino sz (ino lz (b_some e2 (b_some f2 (ip q (ip q rfl)))))), o, p, Or.inr ⟨a, c, hc, ?_, ?_⟩⟩ <;> simp only [nI_1]
      · have q := nI_ge (a := r) (b := c) (by omega) (by omega)
        refine ⟨_, _, ino ge (b_some e1 (b_some f1 (ino q rfl))), ino ge (ino sz (ino lz (b_some e2 (b_some f2 (ino q (ino q rfl)))))), o, p, Or.inr ⟨i, r, hr, ?_, ?_⟩⟩ <;> simp only [nI_1]
  · obtain ⟨sk, ms, hv⟩ := hv
    have z : (10 : Int32) ≤ nI 10 := by decide
    rcases hv with ⟨h, -⟩ | ⟨a, c, hc, rfl, rfl⟩
    · exact absurd h (by decide)
    · exact ⟨_, _, ip z rfl, ip z rfl, rfl⟩
theorem WR.ask {n : Nat} {cd : Nat → Nat} {codes masks alike havers mcodes mmasks : Nat → Int32} (W : WR n cd codes masks alike havers mcodes mmasks) {gs s : Nat} (sk ms : Nat → Int32) (hgs : gs < 1024) (hs : s < 64) (hs0 : s ≠ 0) : ∃ o p, lp (fun v => B_X10_ask_19 (nI n) codes havers (nI gs) (nI s) v.1 v.2.1 v.2.2.1 v.2.2.2) KN ((-1 : Int32), (7 : Int32), (1 : Int32), sk) = some o ∧ lp (fun v => B_X11_ask_13 (nI n) (nI gs) mcodes mmasks (nI s) v.1 v.2.1 v.2.2.1 v.2.2.2) KN ((-1 : Int32), (1048576 : Int32), (1 : Int32), ms) = some p ∧ o.1 = p.1 := by
  have hn := W.hn
  have h28 := p28 hn
  have hpos := Nat.two_pow_pos n
  have ha : f_X9_all (nI n) = some (nI (2 ^ n - 1)) := by unfold f_X9_all; rw [all_eq hn]
  have sz : ¬ nI s = 0 := nI_ne0 (by omega) (by omega)
  refine lp_sim (fun i v w => ∃ sk ms : Nat → Int32, (i = 0 ∧ v = ((-1 : Int32), (7 : Int32), (1 : Int32), sk) ∧ w = ((-1 : Int32), (1048576 : Int32), (1 : Int32), ms)) ∨ ∃ a c, c ≤ 6 ∧ v = (nI a, nI c, nI (i + 1), sk) ∧ w = (nI a, nI c, nI (i + 1), ms)) _ (2 ^ n - 1) (by omega) ⟨sk, ms, Or.inl ⟨rfl, rfl, rfl⟩⟩ (fun i v w hi hv => ?_) (fun v w hv => ?_)
  · obtain ⟨sk, ms, hv⟩ := hv
    refine Or.inl ?_
    obtain ⟨o, p, e1, e2, hk⟩ := W.saysG (lf := i + 1) sk ms (by omega) hgs
    obtain ⟨r, hr, f1, f2⟩ := most_eq hs hk
    have g1 : ¬ nI (2 ^ n - 1) < nI (i + 1) := nI_nlt (by omega) (by omega)
    have g2 : ¬ (1 : Int32) <<< (nI n &&& 31) ≤ nI (i + 1) := by
      rw [shl1 n (by omega)]
      exact nI_ge (by omega) (by omega)
    rcases hv with ⟨rfl, rfl, rfl⟩ | ⟨a, c, hc, rfl, rfl⟩
    · have q1 : ¬ (7 : Int32) ≤ nI r := nI_ge (b := 7) (by omega) (by decide)
      have q2 : ¬ (1048576 : Int32) ≤ nI r := nI_ge (b := 1048576) (by omega) (by decide)
      exact ⟨_, _, b_some ha (ino g1 (b_some e1 (b_some f1 (ino q1 rfl)))), ino g2 (ino sz (b_some e2 (b_some f2 (ino q2 (ino q2 rfl))))), o, p, Or.inr ⟨1, r, hr, rfl, rfl⟩⟩
    · by_cases h : c ≤ r
      · have q := nI_le (a := c) (b := r) h (by omega)
        refine ⟨_, _, b_some ha (ino g1 (b_some e1 (b_some f1 (ip q rfl)))), ino g2 (ino sz (b_some e2 (b_some f2 (ip q (ip q rfl))))), o, p, Or.inr ⟨a, c, hc, ?_, ?_⟩⟩ <;> simp only [nI_1]
      · have q := nI_ge (a := r) (b := c) (by omega) (by omega)
        refine ⟨_, _, b_some ha (ino g1 (b_some e1 (b_some f1 (ino q rfl)))), ino g2 (ino sz (b_some e2 (b_some f2 (ino q (ino q rfl))))), o, p, Or.inr ⟨i + 1, r, hr, ?_, ?_⟩⟩ <;> simp only [nI_1]
  · obtain ⟨sk, ms, hv⟩ := hv
    have g1 : nI (2 ^ n - 1) < nI (2 ^ n - 1 + 1) := nI_lt (by omega) (by omega)
    have g2 : (1 : Int32) <<< (nI n &&& 31) ≤ nI (2 ^ n - 1 + 1) := by
      rw [shl1 n (by omega)]
      exact nI_le (by omega) (by omega)
    rcases hv with ⟨h, rfl, rfl⟩ | ⟨a, c, hc, rfl, rfl⟩
    · rw [h] at g1 g2
      exact ⟨_, _, b_some ha (ip (by rw [h]; exact g1) rfl), ip g2 rfl, rfl⟩
    · exact ⟨_, _, b_some ha (ip g1 rfl), ip g2 rfl, rfl⟩
