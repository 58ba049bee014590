/-! parts: how many, the greatest; the best letter -/
/-- the masks that are there -/
def sM (n : Nat) (cd : Nat → Nat) (lf l : Nat) : Nat → Nat
  | 0 => 0
  | w + 1 => if lf.testBit w then sM n cd lf l w ||| 2 ^ (mkm (cd w) l) else sM n cd lf l w
theorem sM_lt (n : Nat) (cd : Nat → Nat) (lf l : Nat) : ∀ i, sM n cd lf l i < 2 ^ 16
  | 0 => (by decide : (0 : Nat) < 2 ^ 16)
  | i + 1 => by
    show (if lf.testBit i then sM n cd lf l i ||| 2 ^ (mkm (cd i) l) else sM n cd lf l i) < 2 ^ 16
    split
    · exact or_lt (sM_lt n cd lf l i) (Nat.pow_lt_pow_right (by decide) (mkm_lt _ _))
    · exact sM_lt n cd lf l i
theorem sM_tb (n : Nat) (cd : Nat → Nat) (lf l m : Nat) : ∀ i, (sM n cd lf l i).testBit m = true ↔ ∃ w, w < i ∧ lf.testBit w = true ∧ mkm (cd w) l = m
  | 0 => by
    show (0 : Nat).testBit m = true ↔ _
    rw [Nat.zero_testBit]
    constructor
    · intro h; cases h
    · rintro ⟨w, hw, -⟩; exact absurd hw (by omega)
  | i + 1 => by
    show (if lf.testBit i then sM n cd lf l i ||| 2 ^ (mkm (cd i) l) else sM n cd lf l i).testBit m = true ↔ _
    have ih := sM_tb n cd lf l m i
    by_cases hb : lf.testBit i = true
    · rw [if_pos hb, gs_tb, Bool.or_eq_true, decide_eq_true_eq, ih]
      constructor
      · rintro (⟨w, h1, h2, h3⟩ | h)
        · exact ⟨w, by omega, h2, h3⟩
        · exact ⟨i, by omega, hb, h⟩
      · rintro ⟨w, h1, h2, h3⟩
        by_cases e : w = i
        · subst e; exact Or.inr h3
        · exact Or.inl ⟨w, by omega, h2, h3⟩
    · rw [if_neg hb, ih]
      constructor
      · rintro ⟨w, h1, h2, h3⟩
        exact ⟨w, by omega, h2, h3⟩
      · rintro ⟨w, h1, h2, h3⟩
        by_cases e : w = i
        · subst e; exact absurd h2 hb
        · exact ⟨w, by omega, h2, h3⟩
/-- how many parts -/
def nP (n : Nat) (cd : Nat → Nat) (lf l : Nat) : Nat := ct (fun m => decide (0 < cM n cd lf l m)) 16
/-- the greatest part -/
def gP (n : Nat) (cd : Nat → Nat) (lf l : Nat) : Nat := mxN (cM n cd lf l) 16
theorem gP_le (n : Nat) (cd : Nat → Nat) (lf l : Nat) : gP n cd lf l ≤ n := mxN_le (fun _ _ => cM_le _ _ _ _ _)
theorem WR.partsL {n : Nat} {cd : Nat → Nat} {codes masks alike havers mcodes mmasks : Nat → Int32} (W : WR n cd codes masks alike havers mcodes mmasks) {lf l : Nat} (hlf : lf < 2 ^ n) (hl : l < 10) : lp (fun v => B_X11_partsBy_9 (nI n) mmasks (nI lf) (nI l) v.1 v.2.1 v.2.2) KN ((0 : Int32), (0 : Int32), (0 : Int32)) = some (nI (nP n cd lf l), nI (gP n cd lf l)) := by
  have hn := W.hn
  refine lp_run (o := (nI (nP n cd lf l), nI (gP n cd lf l))) (fun i => (nI (ct (fun m => decide (0 < cM n cd lf l m)) i), nI (mxN (cM n cd lf l) i), nI i)) 16 rfl (by decide) (fun i hi => ?_) ?_
  · show B_X11_partsBy_9 (nI n) mmasks (nI lf) (nI l) (nI _) (nI _) (nI i) = some (.inl (nI (_ + (if decide (0 < cM n cd lf l i) then 1 else 0)), nI (if mxN (cM n cd lf l) i < cM n cd lf l i then cM n cd lf l i else mxN (cM n cd lf l) i), nI (i + 1)))
    unfold B_X11_partsBy_9
    have c8 := cM_le n cd lf l i
    have m8 : mxN (cM n cd lf l) i ≤ n := mxN_le (fun _ _ => cM_le _ _ _ _ _)
    rw [nI_1, nI_1, Int32.add_zero]
    refine ino (nI_ge (b := 16) hi (by decide)) (b_some (W.haveMask hlf hl hi) ?_)
    rcases Nat.eq_zero_or_pos (cM n cd lf l i) with z | z
    · rw [z]
      refine ip (by decide) (ip (nI_le (Nat.zero_le _) (by omega)) ?_)
      simp
    · refine ino (nI_nle z (by omega)) ?_
      rw [decide_eq_true z]
      by_cases h : mxN (cM n cd lf l) i < cM n cd lf l i
      · refine ino (nI_ge h (by omega)) ?_
        rw [if_pos h]
        rfl
      · refine ip (nI_le (by omega) (by omega)) ?_
        rw [if_neg h]
        rfl
  · show B_X11_partsBy_9 (nI n) mmasks (nI lf) (nI l) (nI _) (nI _) (nI 16) = _
    unfold B_X11_partsBy_9
    exact ip (by decide) rfl
theorem WR.parts0 {n : Nat} {cd : Nat → Nat} {codes masks alike havers mcodes mmasks : Nat → Int32} (W : WR n cd codes masks alike havers mcodes mmasks) {lf l : Nat} (hlf : lf < 2 ^ n) (hl : l < 10) : f_X11_partsBy (nI n) mmasks (nI lf) (nI l) 0 = some (nI (nP n cd lf l)) := b_some (W.partsL hlf hl) (ip rfl rfl)
theorem WR.parts1 {n : Nat} {cd : Nat → Nat} {codes masks alike havers mcodes mmasks : Nat → Int32} (W : WR n cd codes masks alike havers mcodes mmasks) {lf l : Nat} (hlf : lf < 2 ^ n) (hl : l < 10) : f_X11_partsBy (nI n) mmasks (nI lf) (nI l) 1 = some (nI (gP n cd lf l)) := b_some (W.partsL hlf hl) (ino i10 rfl)
theorem WR.greatest {n : Nat} {cd : Nat → Nat} {codes masks alike havers mcodes mmasks : Nat → Int32} (W : WR n cd codes masks alike havers mcodes mmasks) {lf l : Nat} (hlf : lf < 2 ^ n) (hl : l < 10) : f_X9_greatestPart (nI n) alike (nI lf) (nI l) = some (nI (gP n cd lf l)) := by
  have hn := W.hn
  have h256 := lt256 hn hlf
  unfold f_X9_greatestPart
  have L : lp (fun v => B_X9_greatestPart_5 (nI n) alike (nI lf) (nI l) v.1 v.2) KN ((0 : Int32), (0 : Int32)) = some (nI (mxN (fun w => if lf.testBit w then cM n cd lf l (mkm (cd w) l) else 0) n)) := by
    refine lp_run (fun i => (nI (mxN (fun w => if lf.testBit w then cM n cd lf l (mkm (cd w) l) else 0) i), nI i)) n rfl (by omega) (fun i hi => ?_) ?_
    · have m8 : mxN (fun w => if lf.testBit w then cM n cd lf l (mkm (cd w) l) else 0) i ≤ n := mxN_le (fun j _ => by show (if lf.testBit j then cM n cd lf l (mkm (cd j) l) else 0) ≤ n; split; exact cM_le _ _ _ _ _; exact Nat.zero_le _)
      show B_X9_greatestPart_5 (nI n) alike (nI lf) (nI l) (nI (mxN (fun w => if lf.testBit w then cM n cd lf l (mkm (cd w) l) else 0) i)) (nI i) = some (.inl (nI (if mxN (fun w => if lf.testBit w then cM n cd lf l (mkm (cd w) l) else 0) i < (if lf.testBit i then cM n cd lf l (mkm (cd i) l) else 0) then (if lf.testBit i then cM n cd lf l (mkm (cd i) l) else 0) else mxN (fun w => if lf.testBit w then cM n cd lf l (mkm (cd w) l) else 0) i), nI (i + 1)))
      generalize mxN (fun w => if lf.testBit w then cM n cd lf l (mkm (cd w) l) else 0) i = M at m8
      unfold B_X9_greatestPart_5
      rw [nI_1]
      refine ino (nI_ge hi (by omega)) ?_
      have c8 := cM_le n cd lf l (mkm (cd i) l)
      cases hb : lf.testBit i
      · refine ip (bz (by omega) (by omega) hb) ?_
        rw [if_neg (by simp)]
      · refine ino (bnz (by omega) (by omega) hb) (b_some (W.calike hi hl) (b_some (bc_and hn hlf _) ?_))
        show some (Sum.inl ((if nI M < nI (cM n cd lf l (mkm (cd i) l)) then nI (cM n cd lf l (mkm (cd i) l)) else nI M), nI (i + 1))) = some (Sum.inl (nI (if M < cM n cd lf l (mkm (cd i) l) then cM n cd lf l (mkm (cd i) l) else M), nI (i + 1)))
        by_cases h : M < cM n cd lf l (mkm (cd i) l)
        · rw [if_pos h, if_pos (nI_lt h (by omega))]
        · rw [if_neg h, if_neg (nI_nlt (by omega) (by omega))]
    · show B_X9_greatestPart_5 (nI n) alike (nI lf) (nI l) (nI _) (nI n) = _
      unfold B_X9_greatestPart_5
      exact ip (nI_le (Nat.le_refl n) (by omega)) rfl
  refine b_some L ?_
  congr 2
  apply Nat.le_antisymm
  · apply mxN_le
    intro i hi
    show (if lf.testBit i then cM n cd lf l (mkm (cd i) l) else 0) ≤ _
    split
    · exact le_mxN (f := cM n cd lf l) (mkm_lt _ _)
    · exact Nat.zero_le _
  · apply mxN_le
    intro m hm
    rcases Nat.eq_zero_or_pos (cM n cd lf l m) with z | z
    · rw [z]; exact Nat.zero_le _
    · obtain ⟨w, hw, hb, rfl⟩ := cM_ex z
      have := le_mxN (f := fun w => if lf.testBit w then cM n cd lf l (mkm (cd w) l) else 0) hw
      rw [if_pos hb] at this
      exact this
theorem WR.unlike {n : Nat} {cd : Nat → Nat} {codes masks alike havers mcodes mmasks : Nat → Int32} (W : WR n cd codes masks alike havers mcodes mmasks) {lf l : Nat} (hlf : lf < 2 ^ n) (hl : l < 10) : f_X9_unlikeMasks (nI n) masks (nI lf) (nI l) = some (nI (nP n cd lf l)) := by
  have hn := W.hn
  have h256 := lt256 hn hlf
  unfold f_X9_unlikeMasks
  refine b_some (lp_run (o := nI (sM n cd lf l n)) (fun i => (nI (sM n cd lf l i), nI i)) n rfl (by omega) (fun i hi => ?_) ?_) (b_some (bc16 (sM_lt n cd lf l n)) ?_)
  · show B_X9_unlikeMasks_5 (nI n) masks (nI lf) (nI l) (nI (sM n cd lf l i)) (nI i) = some (.inl (nI (if lf.testBit i then sM n cd lf l i ||| 2 ^ (mkm (cd i) l) else sM n cd lf l i), nI (i + 1)))
    unfold B_X9_unlikeMasks_5
    rw [nI_1]
    refine ino (nI_ge hi (by omega)) ?_
    cases hb : lf.testBit i
    · exact ip (bz (by omega) (by omega) hb) rfl
    · refine ino (bnz (by omega) (by omega) hb) (b_some (W.cmask hi hl) ?_)
      rw [shl1 _ (Nat.lt_trans (mkm_lt _ _) (by decide)), fa_or]
      rfl
  · show B_X9_unlikeMasks_5 (nI n) masks (nI lf) (nI l) (nI _) (nI n) = _
    unfold B_X9_unlikeMasks_5
    exact ip (nI_le (Nat.le_refl n) (by omega)) rfl
  · congr 2
    rw [pc_ct]
    apply ct_cong
    intro m hm
    rw [Bool.eq_iff_iff, sM_tb, decide_eq_true_eq]
    constructor
    · rintro ⟨w, h1, h2, rfl⟩
      exact cM_pos h1 h2
    · intro h
      exact cM_ex h
theorem WR.best {n : Nat} {cd : Nat → Nat} {codes masks alike havers mcodes mmasks : Nat → Int32} (W : WR n cd codes masks alike havers mcodes mmasks) {lf gs : Nat} (hlf : lf < 2 ^ n) (hgs : gs < 1024) : ∃ r s, f_X10_best (nI n) alike (nI lf) (nI gs) = some r ∧ f_X11_best (nI n) (nI gs) (nI lf) mmasks = some s ∧ r = s := by
  have hn := W.hn
  unfold f_X10_best f_X11_best
  refine b_ex2 (Q := fun o p => o = p) (lp_sim (fun i v w => (v = ((-1 : Int32), (9 : Int32), nI i) ∧ w = ((-1 : Int32), (1048576 : Int32), nI i)) ∨ ∃ l c, v = (nI l, nI c, nI i) ∧ w = (nI l, nI c, nI i) ∧ c ≤ 8) _ 10 (by decide) (Or.inl ⟨rfl, rfl⟩) (fun i v w hi hv => ?_) (fun v w hv => ?_)) (fun o p q => ⟨o, p, rfl, rfl, q⟩)
  · refine Or.inl ?_
    show ∃ u x, B_X10_best_7 (nI n) alike (nI lf) (nI gs) v.1 v.2.1 v.2.2 = some (.inl u) ∧ B_X11_best_7 (nI n) (nI gs) (nI lf) mmasks w.1 w.2.1 w.2.2 = some (.inl x) ∧ _
    have hv2 : v.2.2 = nI i ∧ w.2.2 = nI i := by rcases hv with ⟨rfl, rfl⟩ | ⟨f, c, rfl, rfl, -⟩ <;> exact ⟨rfl, rfl⟩
    unfold B_X10_best_7 B_X11_best_7
    have ge : ¬ (10 : Int32) ≤ nI i := nI_ge (b := 10) hi (by decide)
    have g8 := gP_le n cd lf i
    rw [hv2.1, hv2.2, if_neg ge, if_neg ge, W.greatest hlf hi, Option.bind_some, nI_1]
    cases hb : gs.testBit i
    · rw [if_pos (bz (by omega) (by omega) hb), has_f (by omega) (by omega) hb, Option.bind_some, if_pos rfl, W.parts1 hlf hi, Option.bind_some]
      unfold J_X11_best_39
      rw [nI_1]
      rcases hv with ⟨rfl, rfl⟩ | ⟨l, c, rfl, rfl, hc⟩
      · have q1 : ¬ (9 : Int32) ≤ nI (gP n cd lf i) := nI_ge (b := 9) (by omega) (by decide)
        have q2 : ¬ (1048576 : Int32) ≤ nI (gP n cd lf i) := nI_ge (b := 1048576) (by omega) (by decide)
        exact ⟨_, _, ino q1 rfl, ino q2 (ino q2 rfl), Or.inr ⟨i, gP n cd lf i, rfl, rfl, by omega⟩⟩
      · by_cases h : c ≤ gP n cd lf i
        · have q := nI_le (a := c) (b := gP n cd lf i) h (by omega)
          exact ⟨_, _, ip q rfl, ip q (ip q rfl), Or.inr ⟨l, c, rfl, rfl, hc⟩⟩
        · have q := nI_ge (a := gP n cd lf i) (b := c) (by omega) (by omega)
          exact ⟨_, _, ino q rfl, ino q (ino q rfl), Or.inr ⟨i, gP n cd lf i, rfl, rfl, by omega⟩⟩
    · rw [if_neg (bnz (by omega) (by omega) hb), has_t (by omega) (by omega) hb, Option.bind_some, if_neg i10]
      unfold J_X11_best_39
      rw [nI_1]
      rcases hv with ⟨rfl, rfl⟩ | ⟨l, c, rfl, rfl, hc⟩
      · have z : (1048576 : Int32) ≤ (1048576 : Int32) := by decide
        exact ⟨_, _, rfl, ip z (ip z rfl), Or.inl ⟨rfl, rfl⟩⟩
      · have z : nI c ≤ (1048576 : Int32) := nI_le (b := 1048576) (by omega) (by decide)
        exact ⟨_, _, rfl, ip z (ip z rfl), Or.inr ⟨l, c, rfl, rfl, hc⟩⟩
  · have z : (10 : Int32) ≤ nI 10 := by decide
    rcases hv with ⟨rfl, rfl⟩ | ⟨l, c, rfl, rfl, hc⟩
    · exact ⟨_, _, ip z rfl, ip z rfl, rfl⟩
    · exact ⟨_, _, ip z rfl, ip z rfl, rfl⟩
