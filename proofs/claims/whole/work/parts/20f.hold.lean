/-! what the words are, on both sides; what holders answer -/
def WR (n : Nat) (cd : Nat → Nat) (codes masks alike havers mcodes mmasks : Nat → Int32) : Prop := (n ≤ 8) ∧ (∀ w, w < n → cd w < 10000) ∧ (∀ w, w < n → codes w = nI (cd w)) ∧ (∀ w, w < n → ∀ l, l < 10 → masks (w * 10 + l) = nI (mkm (cd w) l)) ∧ (∀ w, w < n → ∀ l, l < 10 → alike (w * 10 + l) = nI (sN (fun v => mkm (cd v) l == mkm (cd w) l) n)) ∧ (∀ l, l < 10 → havers l = nI (sN (fun v => mkm (cd v) l != 0) n)) ∧ (∀ w, w < n → mcodes w = nI (cd w)) ∧ (∀ w, w < n → ∀ l, l < 10 → mmasks (10 * w + l) = nI (mkm (cd w) l)) ∧ (∀ v w, v < n → w < n → cd v = cd w → v = w)
theorem WR.hn {n : Nat} {cd : Nat → Nat} {codes masks alike havers mcodes mmasks : Nat → Int32} (W : WR n cd codes masks alike havers mcodes mmasks) : n ≤ 8 := W.1
theorem WR.cd4 {n : Nat} {cd : Nat → Nat} {codes masks alike havers mcodes mmasks : Nat → Int32} (W : WR n cd codes masks alike havers mcodes mmasks) : ∀ w, w < n → cd w < 10000 := W.2.1
theorem WR.cod {n : Nat} {cd : Nat → Nat} {codes masks alike havers mcodes mmasks : Nat → Int32} (W : WR n cd codes masks alike havers mcodes mmasks) : ∀ w, w < n → codes w = nI (cd w) := W.2.2.1
theorem WR.mas {n : Nat} {cd : Nat → Nat} {codes masks alike havers mcodes mmasks : Nat → Int32} (W : WR n cd codes masks alike havers mcodes mmasks) : ∀ w, w < n → ∀ l, l < 10 → masks (w * 10 + l) = nI (mkm (cd w) l) := W.2.2.2.1
theorem WR.ali {n : Nat} {cd : Nat → Nat} {codes masks alike havers mcodes mmasks : Nat → Int32} (W : WR n cd codes masks alike havers mcodes mmasks) : ∀ w, w < n → ∀ l, l < 10 → alike (w * 10 + l) = nI (sN (fun v => mkm (cd v) l == mkm (cd w) l) n) := W.2.2.2.2.1
theorem WR.hav {n : Nat} {cd : Nat → Nat} {codes masks alike havers mcodes mmasks : Nat → Int32} (W : WR n cd codes masks alike havers mcodes mmasks) : ∀ l, l < 10 → havers l = nI (sN (fun v => mkm (cd v) l != 0) n) := W.2.2.2.2.2.1
theorem WR.mco {n : Nat} {cd : Nat → Nat} {codes masks alike havers mcodes mmasks : Nat → Int32} (W : WR n cd codes masks alike havers mcodes mmasks) : ∀ w, w < n → mcodes w = nI (cd w) := W.2.2.2.2.2.2.1
theorem WR.mma {n : Nat} {cd : Nat → Nat} {codes masks alike havers mcodes mmasks : Nat → Int32} (W : WR n cd codes masks alike havers mcodes mmasks) : ∀ w, w < n → ∀ l, l < 10 → mmasks (10 * w + l) = nI (mkm (cd w) l) := W.2.2.2.2.2.2.2.1
theorem WR.dis {n : Nat} {cd : Nat → Nat} {codes masks alike havers mcodes mmasks : Nat → Int32} (W : WR n cd codes masks alike havers mcodes mmasks) : ∀ v w, v < n → w < n → cd v = cd w → v = w := W.2.2.2.2.2.2.2.2
/-- how many of a set have a mask -/
def cM (n : Nat) (cd : Nat → Nat) (lf l m : Nat) : Nat := ct (fun w => lf.testBit w && (mkm (cd w) l == m)) n
theorem cM_le (n : Nat) (cd : Nat → Nat) (lf l m : Nat) : cM n cd lf l m ≤ n := ct_le _ _
theorem cM_pos {n : Nat} {cd : Nat → Nat} {lf l w : Nat} (hw : w < n) (h : lf.testBit w = true) : 0 < cM n cd lf l (mkm (cd w) l) := ct_pos hw (by rw [h]; simp)
theorem cM_ex {n : Nat} {cd : Nat → Nat} {lf l m : Nat} (h : 0 < cM n cd lf l m) : ∃ w, w < n ∧ lf.testBit w = true ∧ mkm (cd w) l = m := by
  obtain ⟨w, hw, e⟩ := ct_ex h
  rw [Bool.and_eq_true, beq_iff_eq] at e
  exact ⟨w, hw, e.1, e.2⟩
theorem WR.cmask {n : Nat} {cd : Nat → Nat} {codes masks alike havers mcodes mmasks : Nat → Int32} (W : WR n cd codes masks alike havers mcodes mmasks) {w l : Nat} (hw : w < n) (hl : l < 10) : f_X9_maskOf (nI n) masks (nI w) (nI l) = some (nI (mkm (cd w) l)) := by rw [maskOf_eq W.hn hw hl, W.mas w hw l hl]
theorem WR.calike {n : Nat} {cd : Nat → Nat} {codes masks alike havers mcodes mmasks : Nat → Int32} (W : WR n cd codes masks alike havers mcodes mmasks) {w l : Nat} (hw : w < n) (hl : l < 10) : f_X9_alikeTo (nI n) alike (nI w) (nI l) = some (nI (sN (fun v => mkm (cd v) l == mkm (cd w) l) n)) := by rw [alikeTo_eq W.hn hw hl, W.ali w hw l hl]
theorem WR.chav {n : Nat} {cd : Nat → Nat} {codes masks alike havers mcodes mmasks : Nat → Int32} (W : WR n cd codes masks alike havers mcodes mmasks) {l : Nat} (hl : l < 10) : f_X9_having havers (nI l) = some (nI (sN (fun v => mkm (cd v) l != 0) n)) := by rw [having_eq hl, W.hav l hl]
theorem WR.mmask {n : Nat} {cd : Nat → Nat} {codes masks alike havers mcodes mmasks : Nat → Int32} (W : WR n cd codes masks alike havers mcodes mmasks) {w l : Nat} (hw : w < n) (hl : l < 10) : f_X11_maskOf mmasks (nI w) (nI l) = some (nI (mkm (cd w) l)) := by
  have := W.hn
  rw [mmaskOf_eq (by omega) hl, W.mma w hw l hl]
theorem WR.haveMask {n : Nat} {cd : Nat → Nat} {codes masks alike havers mcodes mmasks : Nat → Int32} (W : WR n cd codes masks alike havers mcodes mmasks) {lf l m : Nat} (hlf : lf < 2 ^ n) (hl : l < 10) (hm : m < 16) : f_X11_haveMask (nI n) mmasks (nI lf) (nI l) (nI m) = some (nI (cM n cd lf l m)) := by
  have hn := W.hn
  have h2 := lt256 hn hlf
  unfold f_X11_haveMask
  refine b_some (lp_run (o := nI (cM n cd lf l m)) (fun i => (nI (ct (fun w => lf.testBit w && (mkm (cd w) l == m)) i), nI i)) n rfl (by omega) (fun i hi => ?_) ?_) rfl
  · show B_X11_haveMask_6 (nI n) mmasks (nI lf) (nI l) (nI m) (nI _) (nI i) = some (.inl (nI (_ + (if (lf.testBit i && (mkm (cd i) l == m)) then 1 else 0)), nI (i + 1)))
    unfold B_X11_haveMask_6
    refine ino (nI_ge hi (by omega)) ?_
    cases hb : lf.testBit i
    · refine b_some (has_f (by omega) (by omega) hb) (ip rfl ?_)
      rw [nI_1]
      simp
    · refine b_some (has_t (by omega) (by omega) hb) (ino i10 (b_some (W.mmask hi hl) ?_))
      have := mkm_lt (cd i) l
      by_cases e : mkm (cd i) l = m
      · refine ip (by rw [e]) ?_
        rw [nI_1, nI_1, e]
        simp
      · refine ino (fun q => e ((nI_eq (by omega) (by omega)).mp q)) ?_
        rw [nI_1]
        have : (mkm (cd i) l == m) = false := by simpa using e
        rw [this]
        simp
  · show B_X11_haveMask_6 (nI n) mmasks (nI lf) (nI l) (nI m) (nI _) (nI n) = _
    unfold B_X11_haveMask_6
    exact ip (nI_le (Nat.le_refl n) (by omega)) rfl
theorem WR.partOf {n : Nat} {cd : Nat → Nat} {codes masks alike havers mcodes mmasks : Nat → Int32} (W : WR n cd codes masks alike havers mcodes mmasks) {lf l m : Nat} (hlf : lf < 2 ^ n) (hl : l < 10) (hm : m < 16) : f_X11_partOf (nI n) mmasks (nI lf) (nI l) (nI m) = some (nI (sN (fun w => lf.testBit w && (mkm (cd w) l == m)) n)) := by
  have hn := W.hn
  have h2 := lt256 hn hlf
  unfold f_X11_partOf
  refine b_some (lp_run (o := nI (sN (fun w => lf.testBit w && (mkm (cd w) l == m)) n)) (fun i => (nI (sN (fun w => lf.testBit w && (mkm (cd w) l == m)) i), nI i)) n rfl (by omega) (fun i hi => ?_) ?_) rfl
  · show B_X11_partOf_6 (nI n) mmasks (nI lf) (nI l) (nI m) (nI _) (nI i) = some (.inl (nI (sN _ (i + 1)), nI (i + 1)))
    unfold B_X11_partOf_6
    rw [sN_or, shl1 i (by omega), show (0 : Int32) = nI 0 from rfl, fa_or, fa_or, nI_1]
    refine ino (nI_ge hi (by omega)) ?_
    cases hb : lf.testBit i
    · refine b_some (has_f (by omega) (by omega) hb) (ip rfl ?_)
      simp
    · refine b_some (has_t (by omega) (by omega) hb) (ino i10 (b_some (W.mmask hi hl) ?_))
      have := mkm_lt (cd i) l
      by_cases e : mkm (cd i) l = m
      · refine ip (by rw [e]) ?_
        rw [e]
        simp
      · refine ino (fun q => e ((nI_eq (by omega) (by omega)).mp q)) ?_
        have : (mkm (cd i) l == m) = false := by simpa using e
        rw [this]
        simp
  · show B_X11_partOf_6 (nI n) mmasks (nI lf) (nI l) (nI m) (nI _) (nI n) = _
    unfold B_X11_partOf_6
    exact ip (nI_le (Nat.le_refl n) (by omega)) rfl
theorem WR.withMask {n : Nat} {cd : Nat → Nat} {codes masks alike havers mcodes mmasks : Nat → Int32} (W : WR n cd codes masks alike havers mcodes mmasks) {lf l m : Nat} (hlf : lf < 2 ^ n) (hl : l < 10) (hm : m < 16) : f_X9_withMask (nI n) masks (nI lf) (nI l) (nI m) = some (nI (sN (fun w => lf.testBit w && (mkm (cd w) l == m)) n)) := by
  have hn := W.hn
  have h2 := lt256 hn hlf
  unfold f_X9_withMask
  refine b_some (lp_run (o := nI (sN (fun w => mkm (cd w) l == m) n)) (fun i => (nI (sN (fun w => mkm (cd w) l == m) i), nI i)) n rfl (by omega) (fun i hi => ?_) ?_) ?_
  · show B_X9_withMask_6 (nI n) masks (nI l) (nI m) (nI _) (nI i) = some (.inl (nI (sN _ (i + 1)), nI (i + 1)))
    unfold B_X9_withMask_6
    rw [sN_or, shl1 i (by omega), fa_or, nI_1]
    refine ino (nI_ge hi (by omega)) (b_some (W.cmask hi hl) ?_)
    have := mkm_lt (cd i) l
    by_cases e : mkm (cd i) l = m
    · refine ip (by rw [e]) ?_
      rw [e]
      simp
    · refine ino (fun q => e ((nI_eq (by omega) (by omega)).mp q)) ?_
      have : (mkm (cd i) l == m) = false := by simpa using e
      rw [this]
      simp
  · show B_X9_withMask_6 (nI n) masks (nI l) (nI m) (nI _) (nI n) = _
    unfold B_X9_withMask_6
    exact ip (nI_le (Nat.le_refl n) (by omega)) rfl
  · rw [fa_and]
    congr 2
    apply nat_ext (and_lt (sN_lt _ _)) (sN_lt _ _)
    intro i hi
    rw [Nat.testBit_and, sN_tb, sN_tb, decide_eq_true hi]
    cases lf.testBit i <;> cases (mkm (cd i) l == m) <;> rfl
/-- the least of the commonest masks -/
def Com (n : Nat) (cd : Nat → Nat) (lf l f : Nat) : Prop := f < 16 ∧ ∀ m, m < 16 → cM n cd lf l m < cM n cd lf l f ∨ (cM n cd lf l m = cM n cd lf l f ∧ f ≤ m)
theorem Com.uniq {n : Nat} {cd : Nat → Nat} {lf l f g : Nat} (h : Com n cd lf l f) (k : Com n cd lf l g) : f = g := by
  have a := h.2 g k.1
  have b := k.2 f h.1
  omega
theorem Com.ex {n : Nat} {cd : Nat → Nat} {lf l f : Nat} (h : Com n cd lf l f) (hlf : lf < 2 ^ n) (h0 : lf ≠ 0) : ∃ w, w < n ∧ lf.testBit w = true ∧ mkm (cd w) l = f := by
  obtain ⟨w, hw, hb, -⟩ := least_ex hlf h0
  have a := h.2 (mkm (cd w) l) (mkm_lt _ _)
  have b := cM_pos (cd := cd) (l := l) hw hb
  exact cM_ex (by omega)
theorem WR.slippery {n : Nat} {cd : Nat → Nat} {codes masks alike havers mcodes mmasks : Nat → Int32} (W : WR n cd codes masks alike havers mcodes mmasks) {lf l : Nat} (hlf : lf < 2 ^ n) (hl : l < 10) : ∃ o, f_X11_slippery (nI n) mmasks (nI lf) (nI l) = some o ∧ ∃ f, o = nI f ∧ Com n cd lf l f := by
  have hn := W.hn
  unfold f_X11_slippery
  refine b_ex (lp_inv (fun i v => ∃ f m, v = (nI f, nI m, nI i) ∧ f < 16 ∧ m ≤ 8 ∧ f ≤ i ∧ ((m = 0 ∧ f = 0) ∨ m = cM n cd lf l f) ∧ ∀ k, k < i → cM n cd lf l k < m ∨ (cM n cd lf l k = m ∧ f ≤ k)) (fun o => ∃ f, o = nI f ∧ Com n cd lf l f) 16 (by decide) ⟨0, 0, rfl, by decide, by decide, by decide, Or.inl ⟨rfl, rfl⟩, fun k hk => absurd hk (by omega)⟩ (fun i v hi hv => ?_) (fun v hv => ?_)) (fun o q => ⟨o, rfl, q⟩)
  · obtain ⟨f, m, rfl, hf, hm, hfi, hc, hk⟩ := hv
    refine Or.inl ?_
    have c8 := cM_le n cd lf l i
    by_cases h : cM n cd lf l i ≤ m
    · refine ⟨(nI f, nI m, nI (i + 1)), ?_, f, m, rfl, hf, hm, by omega, hc, fun k hk2 => ?_⟩
      · show B_X11_slippery_8 (nI n) mmasks (nI lf) (nI l) (nI f) (nI m) (nI i) = _
        unfold B_X11_slippery_8
        rw [nI_1]
        exact ino (nI_ge (b := 16) hi (by decide)) (b_some (W.haveMask hlf hl hi) (ip (nI_le h (by omega)) (ip (nI_le h (by omega)) rfl)))
      · by_cases e : k = i
        · subst e
          omega
        · exact hk k (by omega)
    · refine ⟨(nI i, nI (cM n cd lf l i), nI (i + 1)), ?_, i, cM n cd lf l i, rfl, hi, by omega, by omega, Or.inr rfl, fun k hk2 => ?_⟩
      · show B_X11_slippery_8 (nI n) mmasks (nI lf) (nI l) (nI f) (nI m) (nI i) = _
        unfold B_X11_slippery_8
        rw [nI_1]
        exact ino (nI_ge (b := 16) hi (by decide)) (b_some (W.haveMask hlf hl hi) (ino (nI_ge (by omega) (by omega)) (ino (nI_ge (by omega) (by omega)) rfl)))
      · by_cases e : k = i
        · subst e
          omega
        · have := hk k (by omega)
          omega
  · obtain ⟨f, m, rfl, hf, hm, hfi, hc, hk⟩ := hv
    refine ⟨nI f, ?_, f, rfl, hf, fun k h => ?_⟩
    · show B_X11_slippery_8 (nI n) mmasks (nI lf) (nI l) (nI f) (nI m) (nI 16) = _
      unfold B_X11_slippery_8
      exact ip (by decide) rfl
    · have a := hk k h
      have b := hk f hf
      omega
theorem WR.commonest {n : Nat} {cd : Nat → Nat} {codes masks alike havers mcodes mmasks : Nat → Int32} (W : WR n cd codes masks alike havers mcodes mmasks) {lf l : Nat} (hlf : lf < 2 ^ n) (hl : l < 10) : ∃ o, f_X9_commonestMask (nI n) masks alike (nI lf) (nI l) = some o ∧ ∃ f, o = nI f ∧ Com n cd lf l f := by
  have hn := W.hn
  have h256 := lt256 hn hlf
  unfold f_X9_commonestMask
  refine b_ex (lp_inv (fun i v => ∃ f m, v = (nI f, nI m, nI i) ∧ f < 16 ∧ m ≤ 8 ∧ ((m = 0 ∧ f = 0) ∨ (0 < m ∧ m = cM n cd lf l f)) ∧ ∀ k, k < i → lf.testBit k = true → cM n cd lf l (mkm (cd k) l) < m ∨ (cM n cd lf l (mkm (cd k) l) = m ∧ f ≤ mkm (cd k) l)) (fun o => ∃ f, o = nI f ∧ Com n cd lf l f) n (by omega) ⟨0, 0, rfl, by decide, by decide, Or.inl ⟨rfl, rfl⟩, fun k hk => absurd hk (by omega)⟩ (fun i v hi hv => ?_) (fun v hv => ?_)) (fun o q => ⟨o, rfl, q⟩)
  · obtain ⟨f, m, rfl, hf, hm, hc, hk⟩ := hv
    refine Or.inl ?_
    show ∃ u, B_X9_commonestMask_8 (nI n) masks alike (nI lf) (nI l) (nI f) (nI m) (nI i) = some (.inl u) ∧ _
    unfold B_X9_commonestMask_8
    rw [nI_1, if_neg (nI_ge hi (by omega))]
    cases hb : lf.testBit i
    · refine ⟨(nI f, nI m, nI (i + 1)), ip (bz (by omega) (by omega) hb) rfl, f, m, rfl, hf, hm, hc, fun k hk2 hk3 => ?_⟩
      by_cases e : k = i
      · subst e
        rw [hb] at hk3
        cases hk3
      · exact hk k (by omega) hk3
    · rw [if_neg (bnz (by omega) (by omega) hb)]
      have c8 := cM_le n cd lf l (mkm (cd i) l)
      have cp := cM_pos (cd := cd) (l := l) hi hb
      have m16 := mkm_lt (cd i) l
      have S : ∀ {z}, (if nI m < nI (cM n cd lf l (mkm (cd i) l)) then some (Sum.inl (nI (mkm (cd i) l), nI (cM n cd lf l (mkm (cd i) l)), nI (i + 1))) else (if nI (cM n cd lf l (mkm (cd i) l)) = nI m then (if nI f ≤ nI (mkm (cd i) l) then some (Sum.inl (nI f, nI m, nI (i + 1))) else some (Sum.inl (nI (mkm (cd i) l), nI (cM n cd lf l (mkm (cd i) l)), nI (i + 1)))) else some (Sum.inl (nI f, nI m, nI (i + 1))))) = z → ((f_X9_maskOf (nI n) masks (nI i) (nI l)).bind fun o3 => ((f_X9_alikeTo (nI n) alike (nI i) (nI l)).bind fun o5 => ((f_J6_bitCount_0f7a4 (o5 &&& (nI lf))).bind fun o7 => (if nI m < o7 then some (Sum.inl (o3, o7, nI (i + 1))) else (if o7 = nI m then (if nI f ≤ o3 then some (Sum.inl (nI f, nI m, nI (i + 1))) else some (Sum.inl (o3, o7, nI (i + 1)))) else some (Sum.inl (nI f, nI m, nI (i + 1)))))))) = (z : Option ((Int32 × Int32 × Int32) ⊕ Int32)) := fun h => b_some (W.cmask hi hl) (b_some (W.calike hi hl) (b_some (bc_and hn hlf _) h))
      by_cases h : m < cM n cd lf l (mkm (cd i) l)
      · refine ⟨_, S (ip (nI_lt h (by omega)) rfl), _, _, rfl, m16, by omega, Or.inr ⟨cp, rfl⟩, fun k hk2 hk3 => ?_⟩
        by_cases e : k = i
        · subst e
          omega
        · have := hk k (by omega) hk3
          omega
      · by_cases h2 : cM n cd lf l (mkm (cd i) l) = m
        · by_cases h3 : f ≤ mkm (cd i) l
          · refine ⟨_, S (ino (nI_nlt (by omega) (by omega)) (ip (by rw [h2]) (ip (nI_le h3 (by omega)) rfl))), _, _, rfl, hf, by omega, hc, fun k hk2 hk3 => ?_⟩
            by_cases e : k = i
            · subst e
              omega
            · exact hk k (by omega) hk3
          · refine ⟨_, S (ino (nI_nlt (by omega) (by omega)) (ip (by rw [h2]) (ino (nI_ge (by omega) (by omega)) rfl))), _, _, rfl, m16, by omega, Or.inr ⟨cp, rfl⟩, fun k hk2 hk3 => ?_⟩
            by_cases e : k = i
            · subst e
              omega
            · have := hk k (by omega) hk3
              omega
        · refine ⟨_, S (ino (nI_nlt (by omega) (by omega)) (ino (fun q => h2 ((nI_eq (by omega) (by omega)).mp q)) rfl)), _, _, rfl, hf, by omega, hc, fun k hk2 hk3 => ?_⟩
          by_cases e : k = i
          · subst e
            omega
          · exact hk k (by omega) hk3
  · obtain ⟨f, m, rfl, hf, hm, hc, hk⟩ := hv
    refine ⟨nI f, ?_, f, rfl, hf, fun k h => ?_⟩
    · show B_X9_commonestMask_8 (nI n) masks alike (nI lf) (nI l) (nI f) (nI m) (nI n) = _
      unfold B_X9_commonestMask_8
      exact ip (nI_le (Nat.le_refl n) (by omega)) rfl
    · rcases Nat.eq_zero_or_pos (cM n cd lf l k) with z | z
      · rcases hc with ⟨rfl, rfl⟩ | hc
        · rcases Nat.eq_zero_or_pos (cM n cd lf l 0) with z2 | z2
          · omega
          · omega
        · omega
      · obtain ⟨w, hw, hb, rfl⟩ := cM_ex z
        have a := hk w hw hb
        rcases hc with ⟨rfl, rfl⟩ | hc
        · omega
        · omega
