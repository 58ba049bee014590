/-! what a mild one answers, whom an honest one keeps, and all answers -/
theorem pc_le (L : Nat) : pcN L 10 ≤ 10 := by rw [pc_ct]; exact ct_le _ _
theorem sub_cmp0 : ∀ a b : Fin 11, ((0 < nI a.val - nI b.val) ↔ b.val < a.val) ∧ ((nI a.val - nI b.val = 0) ↔ a.val = b.val) := by decide +kernel
theorem sub_cmp {a b : Nat} (ha : a ≤ 10) (hb : b ≤ 10) : ((0 < nI a - nI b) ↔ b < a) ∧ ((nI a - nI b = 0) ↔ a = b) := sub_cmp0 ⟨a, by omega⟩ ⟨b, by omega⟩
def Ful (n : Nat) (cd : Nat → Nat) (lf l f : Nat) : Prop := f < 16 ∧ 0 < cM n cd lf l f ∧ ∀ m, m < 16 → 0 < cM n cd lf l m → pcN m 10 < pcN f 10 ∨ (pcN m 10 = pcN f 10 ∧ m ≤ f)
theorem Ful.uniq {n : Nat} {cd : Nat → Nat} {lf l f g : Nat} (h : Ful n cd lf l f) (k : Ful n cd lf l g) : f = g := by
  have a := h.2.2 g k.1 k.2.1
  have b := k.2.2 f h.1 h.2.1
  omega
theorem pc0 {m : Nat} (hm : m < 16) (h : pcN m 10 = 0) : m = 0 := by
  have : ∀ m : Fin 16, pcN m.val 10 = 0 → m.val = 0 := by decide +kernel
  exact this ⟨m, hm⟩ h
theorem WR.mildly {n : Nat} {cd : Nat → Nat} {codes masks alike havers mcodes mmasks : Nat → Int32} (W : WR n cd codes masks alike havers mcodes mmasks) {lf l : Nat} (hlf : lf < 2 ^ n) (h0 : lf ≠ 0) (hl : l < 10) : ∃ o, f_X11_mildly (nI n) mmasks (nI lf) (nI l) = some o ∧ ∃ f, o = nI f ∧ Ful n cd lf l f := by
  have hn := W.hn
  unfold f_X11_mildly
  refine b_ex (lp_inv (fun i v => (v = ((0 : Int32), (-1 : Int32), nI i) ∧ ∀ k, k < i → cM n cd lf l k = 0) ∨ (∃ f, v = (nI f, nI (pcN f 10), nI i) ∧ f < i ∧ 0 < cM n cd lf l f ∧ ∀ k, k < i → 0 < cM n cd lf l k → pcN k 10 < pcN f 10 ∨ (pcN k 10 = pcN f 10 ∧ k ≤ f))) (fun o => ∃ f, o = nI f ∧ Ful n cd lf l f) 16 (by decide) (Or.inl ⟨rfl, fun k hk => absurd hk (by omega)⟩) (fun i v hi hv => ?_) (fun v hv => ?_)) (fun o q => ⟨o, rfl, q⟩)
  · refine Or.inl ?_
    have c8 := cM_le n cd lf l i
    have p10 := pc_le i
    show ∃ u, B_X11_mildly_8 (nI n) mmasks (nI lf) (nI l) v.1 v.2.1 v.2.2 = some (.inl u) ∧ _
    unfold B_X11_mildly_8
    have hv2 : v.2.2 = nI i := by rcases hv with ⟨rfl, -⟩ | ⟨f, rfl, -⟩ <;> rfl
    rw [hv2, if_neg (show ¬ (16 : Int32) ≤ nI i from nI_ge (b := 16) hi (by decide)), W.haveMask hlf hl hi, Option.bind_some]
    rcases Nat.eq_zero_or_pos (cM n cd lf l i) with z | z
    · rw [z, if_pos (by decide)]
      unfold J_X11_mildly_35
      rw [if_pos (by decide), nI_1]
      rcases hv with ⟨rfl, hk⟩ | ⟨f, rfl, hf, hp, hk⟩
      · refine ⟨_, ip (show (-1 : Int32) ≤ (-1 : Int32) from by decide) rfl, Or.inl ⟨rfl, fun k hk2 => ?_⟩⟩
        by_cases e : k = i
        · subst e; exact z
        · exact hk k (by omega)
      · refine ⟨_, ip (m1_le _ (by have := pc_le f; omega)) rfl, Or.inr ⟨f, rfl, by omega, hp, fun k hk2 hk3 => ?_⟩⟩
        by_cases e : k = i
        · subst e; omega
        · exact hk k (by omega) hk3
    · rw [if_neg (nI_nle z (by omega)), bits_eq (by omega), Option.bind_some]
      unfold J_X11_mildly_35
      rw [if_neg (nI_pos (by omega)), nI_1]
      rcases hv with ⟨rfl, hk⟩ | ⟨f, rfl, hf, hp, hk⟩
      · refine ⟨(nI i, nI (pcN i 10), nI (i + 1)), ino ?_ (ino (m1_lt _ (by omega)) rfl), Or.inr ⟨i, rfl, by omega, z, fun k hk2 hk3 => ?_⟩⟩
        · intro h
          exact m1_lt (pcN i 10) (by omega) (by rw [i_le]; rw [i_lt] at h; exact Int.le_of_lt h)
        · by_cases e : k = i
          · subst e; omega
          · have := hk k (by omega)
            omega
      · have pf := pc_le f
        by_cases h : pcN i 10 < pcN f 10
        · refine ⟨(nI f, nI (pcN f 10), nI (i + 1)), ip (nI_lt h (by omega)) (ip (nI_le (by omega) (by omega)) rfl), Or.inr ⟨f, rfl, by omega, hp, fun k hk2 hk3 => ?_⟩⟩
          by_cases e : k = i
          · subst e; omega
          · exact hk k (by omega) hk3
        · refine ⟨(nI i, nI (pcN i 10), nI (i + 1)), ino (nI_nlt (by omega) (by omega)) ?_, Or.inr ⟨i, rfl, by omega, z, fun k hk2 hk3 => ?_⟩⟩
          · by_cases h2 : pcN i 10 ≤ pcN f 10
            · have e : pcN i 10 = pcN f 10 := by omega
              refine ip (nI_le h2 (by omega)) ?_
              rw [e]
            · exact ino (nI_ge (by omega) (by omega)) rfl
          · by_cases e : k = i
            · subst e; omega
            · have := hk k (by omega) hk3
              omega
  · rcases hv with ⟨rfl, hk⟩ | ⟨f, rfl, hf, hp, hk⟩
    · obtain ⟨w, hw, hb, -⟩ := least_ex hlf h0
      have a := cM_pos (cd := cd) (l := l) hw hb
      have b := hk _ (mkm_lt (cd w) l)
      omega
    · refine ⟨nI f, ?_, f, rfl, hf, hp, hk⟩
      show B_X11_mildly_8 (nI n) mmasks (nI lf) (nI l) (nI f) (nI (pcN f 10)) (nI 16) = _
      unfold B_X11_mildly_8
      exact ip (by decide) rfl
theorem WR.fullest {n : Nat} {cd : Nat → Nat} {codes masks alike havers mcodes mmasks : Nat → Int32} (W : WR n cd codes masks alike havers mcodes mmasks) {lf l : Nat} (hlf : lf < 2 ^ n) (h0 : lf ≠ 0) (hl : l < 10) : ∃ o, f_X9_fullestMask (nI n) masks (nI lf) (nI l) = some o ∧ ∃ f, o = nI f ∧ Ful n cd lf l f := by
  have hn := W.hn
  have h256 := lt256 hn hlf
  unfold f_X9_fullestMask
  refine b_ex (lp_inv (fun i v => ∃ f, v = (nI f, nI i) ∧ f < 16 ∧ (f = 0 ∨ 0 < cM n cd lf l f) ∧ ∀ k, k < i → lf.testBit k = true → pcN (mkm (cd k) l) 10 < pcN f 10 ∨ (pcN (mkm (cd k) l) 10 = pcN f 10 ∧ mkm (cd k) l ≤ f)) (fun o => ∃ f, o = nI f ∧ Ful n cd lf l f) n (by omega) ⟨0, rfl, by decide, Or.inl rfl, fun k hk => absurd hk (by omega)⟩ (fun i v hi hv => ?_) (fun v hv => ?_)) (fun o q => ⟨o, rfl, q⟩)
  · obtain ⟨f, rfl, hf, hc, hk⟩ := hv
    refine Or.inl ?_
    show ∃ u, B_X9_fullestMask_5 (nI n) masks (nI lf) (nI l) (nI f) (nI i) = some (.inl u) ∧ _
    unfold B_X9_fullestMask_5
    have m16 := mkm_lt (cd i) l
    rw [nI_1, if_neg (nI_ge hi (by omega)), W.cmask hi hl, Option.bind_some, bc_eq (by omega), Option.bind_some, bc_eq (by omega), Option.bind_some]
    have pm := pc_le (mkm (cd i) l)
    have pf := pc_le f
    obtain ⟨s1, s2⟩ := sub_cmp pm pf
    cases hb : lf.testBit i
    · refine ⟨(nI f, nI (i + 1)), ip (bz (by omega) (by omega) hb) rfl, f, rfl, hf, hc, fun k hk2 hk3 => ?_⟩
      by_cases e : k = i
      · subst e
        rw [hb] at hk3
        cases hk3
      · exact hk k (by omega) hk3
    · rw [if_neg (bnz (by omega) (by omega) hb)]
      have cp := cM_pos (cd := cd) (l := l) hi hb
      by_cases h1 : pcN f 10 < pcN (mkm (cd i) l) 10
      · refine ⟨_, ip (s1.mpr h1) rfl, _, rfl, m16, Or.inr cp, fun k hk2 hk3 => ?_⟩
        by_cases e : k = i
        · subst e; omega
        · have := hk k (by omega) hk3
          omega
      · rw [if_neg (fun h => h1 (s1.mp h))]
        by_cases h2 : pcN (mkm (cd i) l) 10 = pcN f 10
        · rw [if_pos (s2.mpr h2)]
          by_cases h3 : mkm (cd i) l ≤ f
          · refine ⟨_, ip (nI_le h3 (by omega)) rfl, _, rfl, hf, hc, fun k hk2 hk3 => ?_⟩
            by_cases e : k = i
            · subst e; omega
            · exact hk k (by omega) hk3
          · refine ⟨_, ino (nI_ge (by omega) (by omega)) rfl, _, rfl, m16, Or.inr cp, fun k hk2 hk3 => ?_⟩
            by_cases e : k = i
            · subst e; omega
            · have := hk k (by omega) hk3
              omega
        · refine ⟨_, ino (fun h => h2 (s2.mp h)) rfl, _, rfl, hf, hc, fun k hk2 hk3 => ?_⟩
          by_cases e : k = i
          · subst e; omega
          · exact hk k (by omega) hk3
  · obtain ⟨f, rfl, hf, hc, hk⟩ := hv
    refine ⟨nI f, ?_, f, rfl, hf, ?_, fun k h z => ?_⟩
    · show B_X9_fullestMask_5 (nI n) masks (nI lf) (nI l) (nI f) (nI n) = _
      unfold B_X9_fullestMask_5
      exact ip (nI_le (Nat.le_refl n) (by omega)) rfl
    · rcases hc with rfl | hc
      · obtain ⟨w, hw, hb, -⟩ := least_ex hlf h0
        have a := cM_pos (cd := cd) (l := l) hw hb
        have b := hk w hw hb
        have e : mkm (cd w) l = 0 := by
          have : pcN 0 10 = 0 := by decide
          omega
        rwa [e] at a
      · exact hc
    · obtain ⟨w, hw, hb, rfl⟩ := cM_ex z
      exact hk w hw hb
theorem WR.lack0 {n : Nat} {cd : Nat → Nat} {codes masks alike havers mcodes mmasks : Nat → Int32} (W : WR n cd codes masks alike havers mcodes mmasks) {lf l : Nat} (hlf : lf < 2 ^ n) (hl : l < 10) (h : cM n cd lf l 0 = 0) : f_X9_isLacking havers (nI lf) (nI l) = some 0 := by
  unfold f_X9_isLacking
  refine b_some (W.chav hl) (ip ?_ rfl)
  rw [andnot, fa_and]
  congr 1
  apply nat_ext (and_lt hlf) hlf
  intro i hi
  rw [Nat.testBit_and, sN_tb, decide_eq_true hi]
  cases hb : lf.testBit i
  · rfl
  · have : mkm (cd i) l ≠ 0 := fun e => by
      have := cM_pos (cd := cd) (l := l) hi hb
      rw [e] at this
      omega
    simpa using this
theorem WR.lack1 {n : Nat} {cd : Nat → Nat} {codes masks alike havers mcodes mmasks : Nat → Int32} (W : WR n cd codes masks alike havers mcodes mmasks) {lf l : Nat} (hlf : lf < 2 ^ n) (hl : l < 10) (h : 0 < cM n cd lf l 0) : f_X9_isLacking havers (nI lf) (nI l) = some 1 := by
  have h256 := lt256 W.hn hlf
  unfold f_X9_isLacking
  refine b_some (W.chav hl) (ino ?_ rfl)
  rw [andnot, fa_and]
  intro e
  have e := (nI_eq (Nat.lt_of_lt_of_le (and_lt h256) (by decide)) (by omega)).mp e
  obtain ⟨w, hw, hb, h0⟩ := cM_ex h
  have := congrArg (fun z => Nat.testBit z w) e
  simp only [Nat.testBit_and, sN_tb, hb] at this
  rw [h0] at this
  simp at this
theorem WR.meanly {n : Nat} {cd : Nat → Nat} {codes masks alike havers mcodes mmasks : Nat → Int32} (W : WR n cd codes masks alike havers mcodes mmasks) {lf l : Nat} (hlf : lf < 2 ^ n) (h0 : lf ≠ 0) (hl : l < 10) : ∃ f, (∃ w, w < n ∧ lf.testBit w = true ∧ mkm (cd w) l = f) ∧ f_X11_meanly (nI n) mmasks (nI lf) (nI l) = some (nI f) ∧ ((f_X9_isLacking havers (nI lf) (nI l)).bind fun o9 => (if o9 = 0 then ((f_X9_commonestMask (nI n) masks alike (nI lf) (nI l)).bind fun o12 => some o12) else some (0 : Int32))) = some (nI f) := by
  have hn := W.hn
  have c8 := cM_le n cd lf l 0
  rcases Nat.eq_zero_or_pos (cM n cd lf l 0) with z | z
  · obtain ⟨o, e, f, rfl, hf⟩ := W.slippery hlf hl
    obtain ⟨o2, e2, f2, rfl, hf2⟩ := W.commonest hlf hl
    have := hf.uniq hf2
    subst this
    refine ⟨f, hf.ex hlf h0, ?_, b_some (W.lack0 hlf hl z) (ip rfl (b_some e2 rfl))⟩
    unfold f_X11_meanly
    refine b_some (W.haveMask hlf hl (m := 0) (by decide)) (ip ?_ (b_some e rfl))
    rw [z]
    decide
  · refine ⟨0, cM_ex z, ?_, b_some (W.lack1 hlf hl z) (ino i10 rfl)⟩
    unfold f_X11_meanly
    exact b_some (W.haveMask hlf hl (m := 0) (by decide)) (ino (nI_nle z (by omega)) rfl)
theorem least_c {n lf w : Nat} (hn : n ≤ 8) (hlf : lf < 2 ^ n) (hw : w < n) (hb : lf.testBit w = true) (hv : ∀ v, v < w → lf.testBit v = false) : f_X10_leastOf (nI lf) = some (nI w) := by
  have h256 := lt256 hn hlf
  unfold f_X10_leastOf
  refine b_some (lp_run (o := (0, nI w)) (fun i => nI i) w rfl (by omega) (fun i hi => ?_) ?_) (ip rfl rfl)
  · show B_X10_leastOf_2 (nI lf) (nI i) = _
    unfold B_X10_leastOf_2
    rw [nI_1]
    exact ino (nI_ge (b := 8) (by omega) (by decide)) (ip (bz (by omega) (by omega) (hv i hi)) rfl)
  · show B_X10_leastOf_2 (nI lf) (nI w) = _
    unfold B_X10_leastOf_2
    exact ino (nI_ge (b := 8) (by omega) (by decide)) (ino (bnz (by omega) (by omega) hb) rfl)
theorem kept_sim {n lf sc : Nat} (hn : n ≤ 8) (hlf : lf < 2 ^ n) (h0 : lf ≠ 0) (hsc : sc < 8) : ∃ w, w < n ∧ lf.testBit w = true ∧ f_X3_keptOf (nI sc) (nI lf) = some (nI w) ∧ f_X11_keptOf (nI sc) (nI lf) = some (nI w) := by
  have h256 := lt256 hn hlf
  cases hb : lf.testBit sc
  · obtain ⟨w, hw, hbw, hv⟩ := least_ex hlf h0
    refine ⟨w, hw, hbw, ip (bz (by omega) (by omega) hb) (b_some (least_c hn hlf hw hbw hv) rfl), b_some (has_f (by omega) (by omega) hb) (ip rfl (b_some (lp_run (o := nI w) (fun i => nI i) w rfl (by omega) (fun i hi => ?_) ?_) rfl))⟩
    · show B_X11_keptOf_18 (nI lf) (nI i) = _
      unfold B_X11_keptOf_18
      rw [nI_1]
      exact b_some (has_f (by omega) (by omega) (hv i hi)) (ip rfl rfl)
    · show B_X11_keptOf_18 (nI lf) (nI w) = _
      unfold B_X11_keptOf_18
      exact b_some (has_t (by omega) (by omega) hbw) (ino i10 rfl)
  · exact ⟨sc, tb_lt hlf hb, hb, ino (bnz (by omega) (by omega) hb) rfl, b_some (has_t (by omega) (by omega) hb) (ino i10 rfl)⟩
/-- what a holder answers -/
theorem WR.reply {n : Nat} {cd : Nat → Nat} {codes masks alike havers mcodes mmasks : Nat → Int32} (W : WR n cd codes masks alike havers mcodes mmasks) {kd sc lf l : Nat} (g : Int32) (hkd : kd < 6) (hsc : sc < 8) (hlf : lf < 2 ^ n) (h0 : lf ≠ 0) (hl : l < 10) : ∃ m, (∃ w, w < n ∧ lf.testBit w = true ∧ mkm (cd w) l = m) ∧ f_X3_reply (nI n) masks alike havers (nI kd) (nI sc) (nI lf) g (nI l) = some (nI m) ∧ f_X11_answerBy (nI n) (nI sc) mmasks (nI kd) (nI lf) g (nI l) = some (nI m) := by
  have hn := W.hn
  obtain ⟨w, hw, hb, k1, k2⟩ := kept_sim hn hlf h0 hsc
  have m16 := mkm_lt (cd w) l
  unfold f_X3_reply f_X11_answerBy f_X3_moodOf
  rw [k1, k2]
  simp only [Option.bind_some, W.mmask hw hl, W.cmask hw hl]
  rcases (show kd = 0 ∨ kd = 1 ∨ kd = 2 ∨ kd = 3 ∨ kd = 4 ∨ kd = 5 by omega) with rfl | rfl | rfl | rfl | rfl | rfl
  · refine ⟨_, ⟨w, hw, hb, rfl⟩, b_some (ino (by decide) rfl) (ino (by decide) (ino (by decide) (ino (by decide) (ino (by decide) (ino (by decide) rfl))))), ino (by decide) (ino (by decide) (ino (by decide) (ino (by decide) (ino (by decide) rfl))))⟩
  · obtain ⟨o, e, f, rfl, hf⟩ := W.slippery hlf hl
    obtain ⟨o2, e2, f2, rfl, hf2⟩ := W.commonest hlf hl
    have := hf.uniq hf2
    subst this
    exact ⟨f, hf.ex hlf h0, b_some (ino (by decide) rfl) (ip (by decide) (b_some e2 rfl)), ip (by decide) (b_some e rfl)⟩
  · obtain ⟨f, hf, e, e2⟩ := W.meanly hlf h0 hl
    exact ⟨f, hf, b_some (ino (by decide) rfl) (ino (by decide) (ip (by decide) e2)), ino (by decide) (ip (by decide) (b_some e rfl))⟩
  · obtain ⟨o, e, f, rfl, hf⟩ := W.mildly hlf h0 hl
    obtain ⟨o2, e2, f2, rfl, hf2⟩ := W.fullest hlf h0 hl
    have := hf.uniq hf2
    subst this
    exact ⟨f, cM_ex hf.2.1, b_some (ino (by decide) rfl) (ino (by decide) (ino (by decide) (ip (by decide) (b_some e2 rfl)))), ino (by decide) (ino (by decide) (ip (by decide) (b_some e rfl)))⟩
  · by_cases hg : (g - g / (2 : Int32) * (2 : Int32)) = (1 : Int32)
    · obtain ⟨f, hf, e, e2⟩ := W.meanly hlf h0 hl
      exact ⟨f, hf, b_some (ip (by decide) (ip hg rfl)) (ino (by decide) (ip (by decide) e2)), ino (by decide) (ino (by decide) (ino (by decide) (ip (by decide) (ip hg (b_some e rfl)))))⟩
    · exact ⟨_, ⟨w, hw, hb, rfl⟩, b_some (ip (by decide) (ino hg rfl)) (ino (by decide) (ino (by decide) (ino (by decide) (ino (by decide) (ino (by decide) rfl))))), ino (by decide) (ino (by decide) (ino (by decide) (ip (by decide) (ino hg rfl))))⟩
  · have c8 := cM_le n cd lf l (mkm (cd w) l)
    have l8 := ct_le lf.testBit n
    have ha : f_X3_halfAreLike (nI n) alike (nI w) (nI lf) (nI l) = some (if 2 * cM n cd lf l (mkm (cd w) l) < ct lf.testBit n then 0 else 1) := by
      unfold f_X3_halfAreLike
      refine b_some (W.calike hw hl) (b_some (bc_and hn hlf _) (b_some (bc_n hn hlf) ?_))
      rw [show (2 : Int32) = nI 2 from rfl, pk_mul]
      by_cases h : 2 * cM n cd lf l (mkm (cd w) l) < ct lf.testBit n
      · rw [if_pos h]; exact ip (nI_lt h (by omega)) rfl
      · rw [if_neg h]; exact ino (nI_nlt (Nat.le_of_not_lt h) (Nat.lt_of_le_of_lt (show 2 * cM n cd lf l (mkm (cd w) l) ≤ 16 by omega) (by decide))) rfl
    rw [ha]
    by_cases h : 2 * cM n cd lf l (mkm (cd w) l) < ct lf.testBit n
    · rw [if_pos h]
      obtain ⟨o, e, f, rfl, hf⟩ := W.slippery hlf hl
      obtain ⟨o2, e2, f2, rfl, hf2⟩ := W.commonest hlf hl
      have := hf.uniq hf2
      subst this
      refine ⟨f, hf.ex hlf h0, b_some (ino (by decide) rfl) (ino (by decide) (ino (by decide) (ino (by decide) (ino (by decide) (ip (by decide) (b_some rfl (ip rfl (b_some e2 rfl)))))))), ino (by decide) (ino (by decide) (ino (by decide) (ino (by decide) (ip (by decide) (b_some (W.haveMask hlf hl m16) (b_some (bits_n hn hlf) ?_))))))⟩
      rw [show (2 : Int32) = nI 2 from rfl, pk_mul]
      exact ip (nI_lt h (by omega)) (b_some e rfl)
    · rw [if_neg h]
      refine ⟨_, ⟨w, hw, hb, rfl⟩, b_some (ino (by decide) rfl) (ino (by decide) (ino (by decide) (ino (by decide) (ino (by decide) (ip (by decide) (b_some rfl (ino i10 rfl))))))), ino (by decide) (ino (by decide) (ino (by decide) (ino (by decide) (ip (by decide) (b_some (W.haveMask hlf hl m16) (b_some (bits_n hn hlf) ?_))))))⟩
      rw [show (2 : Int32) = nI 2 from rfl, pk_mul]
      exact ino (nI_nlt (Nat.le_of_not_lt h) (Nat.lt_of_le_of_lt (show 2 * cM n cd lf l (mkm (cd w) l) ≤ 16 by omega) (by decide))) rfl
