/-! for sure -/
def Sub (t s : Nat) : Prop := t &&& s = t
theorem Sub.tb {t s i : Nat} (h : Sub t s) (hi : t.testBit i = true) : s.testBit i = true := by
  have := congrArg (fun z => Nat.testBit z i) h
  simp only [Nat.testBit_and, hi] at this
  simpa using this
theorem Sub.mk {t s : Nat} (h : ∀ i, t.testBit i = true → s.testBit i = true) : Sub t s := by
  apply Nat.eq_of_testBit_eq
  intro i
  rw [Nat.testBit_and]
  cases ht : t.testBit i
  · rfl
  · rw [h i ht]; rfl
theorem Sub.le {t s : Nat} (h : Sub t s) : t ≤ s := by
  have : t &&& s ≤ s := Nat.and_le_right
  rwa [show t &&& s = t from h] at this
theorem Sub.trans {r t s : Nat} (h : Sub r t) (k : Sub t s) : Sub r s := Sub.mk fun _ hi => k.tb (h.tb hi)
theorem sub_iff {t s : Nat} (ht : t < 2 ^ 31) (hs : s < 2 ^ 31) : (nI t &&& (nI s ^^^ (-1 : Int32))) = 0 ↔ Sub t s := by
  rw [andnot, fa_and, nI_eq (Nat.lt_of_le_of_lt Nat.and_le_left ht) ht]
  exact Iff.rfl
theorem ct_ge2 {q : Nat → Bool} {a b n : Nat} (h : a < b) (hb : b < n) (qa : q a = true) (qb : q b = true) : 1 < ct q n := by
  have h1 := ct_pos h qa
  have h2 : ct q (b + 1) = ct q b + 1 := by
    show ct q b + (if q b then 1 else 0) = _
    rw [if_pos qb]
  have h3 : ct q (b + 1) ≤ ct q n := ct_mono hb
  omega
theorem ct_sub {t s n : Nat} (h : Sub t s) (ht : t < 2 ^ n) (hs : s < 2 ^ n) (ne : t ≠ s) : ct t.testBit n < ct s.testBit n := by
  have e : ct (fun w => s.testBit w && t.testBit w) n = ct t.testBit n := ct_cong fun k _ => by
    show (s.testBit k && t.testBit k) = t.testBit k
    cases hb : t.testBit k
    · simp
    · rw [h.tb hb]; rfl
  have hx : ∃ k, k < n ∧ (s.testBit k && !(t.testBit k)) = true := by
    apply Classical.byContradiction
    intro hc
    apply ne
    apply nat_ext ht hs
    intro i hi
    cases hb : t.testBit i
    · cases hb2 : s.testBit i
      · rfl
      · exact absurd ⟨i, hi, by rw [hb, hb2]; rfl⟩ hc
    · rw [h.tb hb]
  obtain ⟨k, hk, q⟩ := hx
  have := ct_split s.testBit t.testBit n
  have := ct_pos (q := fun w => s.testBit w && !(t.testBit w)) hk q
  omega
/-- a part of some words -/
def prt (n : Nat) (cd : Nat → Nat) (s l m : Nat) : Nat := sN (fun w => s.testBit w && (mkm (cd w) l == m)) n
theorem prt_lt (n : Nat) (cd : Nat → Nat) (s l m : Nat) : prt n cd s l m < 2 ^ n := sN_lt _ _
theorem prt_tb {n : Nat} {cd : Nat → Nat} {s l m w : Nat} : (prt n cd s l m).testBit w = true ↔ w < n ∧ s.testBit w = true ∧ mkm (cd w) l = m := by
  unfold prt
  rw [sN_tb, Bool.and_eq_true, Bool.and_eq_true, beq_iff_eq, decide_eq_true_eq]
theorem prt_sub (n : Nat) (cd : Nat → Nat) (s l m : Nat) : Sub (prt n cd s l m) s := Sub.mk fun _ h => (prt_tb.mp h).2.1
theorem prt_ne0 {n : Nat} {cd : Nat → Nat} {s l w : Nat} (hw : w < n) (hb : s.testBit w = true) : prt n cd s l (mkm (cd w) l) ≠ 0 := fun e => by
  have : (prt n cd s l (mkm (cd w) l)).testBit w = true := prt_tb.mpr ⟨hw, hb, rfl⟩
  rw [e, Nat.zero_testBit] at this
  cases this
/-- a letter parts some words -/
def Prt (n : Nat) (cd : Nat → Nat) (s l : Nat) : Prop := ∃ v w, v < n ∧ w < n ∧ s.testBit v = true ∧ s.testBit w = true ∧ mkm (cd v) l ≠ mkm (cd w) l
theorem Prt.ne {n : Nat} {cd : Nat → Nat} {s l : Nat} (h : Prt n cd s l) (m : Nat) : prt n cd s l m ≠ s := fun e => by
  obtain ⟨v, w, hv, hw, bv, bw, ne⟩ := h
  rw [← e] at bv bw
  exact ne ((prt_tb.mp bv).2.2.trans (prt_tb.mp bw).2.2.symm)
theorem nP_prt {n : Nat} {cd : Nat → Nat} {s l : Nat} : 1 < nP n cd s l ↔ Prt n cd s l := by
  constructor
  · intro h
    obtain ⟨a, b, hab, hb, qa, qb⟩ := ct_two h
    rw [decide_eq_true_eq] at qa qb
    obtain ⟨v, hv, bv, ev⟩ := cM_ex qa
    obtain ⟨w, hw, bw, ew⟩ := cM_ex qb
    exact ⟨v, w, hv, hw, bv, bw, by omega⟩
  · rintro ⟨v, w, hv, hw, bv, bw, ne⟩
    have pv := cM_pos (cd := cd) (l := l) hv bv
    have pw := cM_pos (cd := cd) (l := l) hw bw
    rcases Nat.lt_or_gt_of_ne ne with h | h
    · exact ct_ge2 h (mkm_lt _ _) (by simpa using pv) (by simpa using pw)
    · exact ct_ge2 h (mkm_lt _ _) (by simpa using pw) (by simpa using pv)
def Wm (n : Nat) (cd : Nat → Nat) (f : Nat → Nat) (s l : Nat) : Nat := mxN (fun m => if prt n cd s l m = 0 then 0 else f (prt n cd s l m) + (if m = 0 then 1 else 0)) 16
/-- tables that are alike below a set, and small -/
def Low (n : Nat) (su ms : Nat → Int32) (f : Nat → Nat) (s : Nat) : Prop := ∀ t, t ≠ 0 → Sub t s → t ≠ s → su t = nI (f t) ∧ ms t = nI (f t) ∧ f t + 1 ≤ ct t.testBit n
theorem Wm_lt {n : Nat} {cd : Nat → Nat} {su ms : Nat → Int32} {f : Nat → Nat} {s l : Nat} (hs : s < 2 ^ n) (H : Low n su ms f s) (hp : Prt n cd s l) : Wm n cd f s l + 1 ≤ ct s.testBit n := by
  have h0 : 1 ≤ ct s.testBit n := by
    obtain ⟨v, w, hv, hw, bv, bw, ne⟩ := hp
    exact ct_pos hv bv
  have : Wm n cd f s l ≤ ct s.testBit n - 1 := by
    apply mxN_le
    intro m hm
    show (if prt n cd s l m = 0 then 0 else f (prt n cd s l m) + (if m = 0 then 1 else 0)) ≤ _
    by_cases e : prt n cd s l m = 0
    · rw [if_pos e]; omega
    · rw [if_neg e]
      have h1 := (H _ e (prt_sub n cd s l m) (hp.ne m)).2.2
      have h2 := ct_sub (prt_sub n cd s l m) (prt_lt n cd s l m) hs (hp.ne m)
      split <;> omega
  omega
theorem WR.prtM {n : Nat} {cd : Nat → Nat} {codes masks alike havers mcodes mmasks : Nat → Int32} (W : WR n cd codes masks alike havers mcodes mmasks) {s l m : Nat} (hs : s < 2 ^ n) (hl : l < 10) (hm : m < 16) : f_X11_partOf (nI n) mmasks (nI s) (nI l) (nI m) = some (nI (prt n cd s l m)) := W.partOf hs hl hm
theorem WR.ispart_y {n : Nat} {cd : Nat → Nat} {codes masks alike havers mcodes mmasks : Nat → Int32} (W : WR n cd codes masks alike havers mcodes mmasks) {s l : Nat} (hs : s < 2 ^ n) (hl : l < 10) (h : Prt n cd s l) : f_X6_isParting (nI n) alike (nI s) (nI l) = some 1 := by
  have hn := W.hn
  have h256 := lt256 hn hs
  obtain ⟨v, w, hv, hw, bv, bw, ne⟩ := h
  have h0 : s ≠ 0 := fun e => by rw [e, Nat.zero_testBit] at bv; cases bv
  obtain ⟨u, hu, hb, hmin⟩ := least_ex hs h0
  unfold f_X6_isParting
  have a256 := lt256 hn (sN_lt (fun v => mkm (cd v) l == mkm (cd u) l) n)
  refine b_some (least_c hn hs hu hb hmin) (b_some (W.calike hu hl) (ino (fun e => ?_) rfl))
  have e := (sub_iff (by omega) (by omega)).mp e
  have e1 := e.tb bv
  have e2 := e.tb bw
  rw [sN_tb, Bool.and_eq_true, beq_iff_eq] at e1 e2
  exact ne (e1.2.trans e2.2.symm)
theorem WR.ispart_n {n : Nat} {cd : Nat → Nat} {codes masks alike havers mcodes mmasks : Nat → Int32} (W : WR n cd codes masks alike havers mcodes mmasks) {s l : Nat} (hs : s < 2 ^ n) (h0 : s ≠ 0) (hl : l < 10) (h : ¬ Prt n cd s l) : f_X6_isParting (nI n) alike (nI s) (nI l) = some 0 := by
  have hn := W.hn
  have h256 := lt256 hn hs
  obtain ⟨u, hu, hb, hmin⟩ := least_ex hs h0
  unfold f_X6_isParting
  have a256 := lt256 hn (sN_lt (fun v => mkm (cd v) l == mkm (cd u) l) n)
  refine b_some (least_c hn hs hu hb hmin) (b_some (W.calike hu hl) (ip ((sub_iff (by omega) (by omega)).mpr (Sub.mk fun i hi => ?_)) rfl))
  have hin := tb_lt hs hi
  rw [sN_tb, Bool.and_eq_true, beq_iff_eq, decide_eq_true_eq]
  exact ⟨hin, Classical.byContradiction fun ne => h ⟨i, u, hin, hu, hi, hb, ne⟩⟩
theorem WR.sureBy {n : Nat} {cd : Nat → Nat} {codes masks alike havers mcodes mmasks : Nat → Int32} (W : WR n cd codes masks alike havers mcodes mmasks) {su ms : Nat → Int32} {f : Nat → Nat} {s l : Nat} (hs : s < 2 ^ n) (hl : l < 10) (H : Low n su ms f s) (hp : Prt n cd s l) : f_X11_sureBy (nI n) mmasks ms (nI s) (nI l) = some (nI (Wm n cd f s l)) := by
  have hn := W.hn
  have ch := ct_le s.testBit n
  unfold f_X11_sureBy
  refine b_some (lp_run (o := nI (Wm n cd f s l)) (fun i => (nI (mxN (fun m => if prt n cd s l m = 0 then 0 else f (prt n cd s l m) + (if m = 0 then 1 else 0)) i), nI i)) 16 rfl (by decide) (fun i hi => ?_) ?_) rfl
  · show B_X11_sureBy_5 (nI n) mmasks ms (nI s) (nI l) (nI (mxN (fun m => if prt n cd s l m = 0 then 0 else f (prt n cd s l m) + (if m = 0 then 1 else 0)) i)) (nI i) = some (.inl (nI (if mxN (fun m => if prt n cd s l m = 0 then 0 else f (prt n cd s l m) + (if m = 0 then 1 else 0)) i < (if prt n cd s l i = 0 then 0 else f (prt n cd s l i) + (if i = 0 then 1 else 0)) then (if prt n cd s l i = 0 then 0 else f (prt n cd s l i) + (if i = 0 then 1 else 0)) else mxN (fun m => if prt n cd s l m = 0 then 0 else f (prt n cd s l m) + (if m = 0 then 1 else 0)) i), nI (i + 1)))
    have m8 : mxN (fun m => if prt n cd s l m = 0 then 0 else f (prt n cd s l m) + (if m = 0 then 1 else 0)) i ≤ 10 := mxN_le fun m _ => by
      show (if prt n cd s l m = 0 then 0 else f (prt n cd s l m) + (if m = 0 then 1 else 0)) ≤ 10
      by_cases e : prt n cd s l m = 0
      · rw [if_pos e]; omega
      · rw [if_neg e]
        have h1 := (H _ e (prt_sub n cd s l m) (hp.ne m)).2.2
        have h2 := ct_sub (prt_sub n cd s l m) (prt_lt n cd s l m) hs (hp.ne m)
        split <;> omega
    generalize mxN (fun m => if prt n cd s l m = 0 then 0 else f (prt n cd s l m) + (if m = 0 then 1 else 0)) i = M at m8
    unfold B_X11_sureBy_5
    rw [nI_1]
    refine ino (nI_ge (b := 16) hi (by decide)) (b_some (W.prtM hs hl hi) ?_)
    have p256 := lt256 hn (prt_lt n cd s l i)
    by_cases e : prt n cd s l i = 0
    · rw [if_pos e, e]
      refine ip rfl (ip (nI_pos' (by omega)) ?_)
      rw [if_neg (by omega)]
    · rw [if_neg e]
      obtain ⟨-, hm, hf⟩ := H _ e (prt_sub n cd s l i) (hp.ne i)
      have h2 := ct_sub (prt_sub n cd s l i) (prt_lt n cd s l i) hs (hp.ne i)
      refine ino (nI_ne0 (by omega) (by omega)) (ino (vp_in_nI p256 (by decide)) ?_)
      rw [nI_clamp (by omega), hm, nI_1, Int32.add_zero]
      by_cases z : i = 0
      · subst z
        refine ip rfl ?_
        rw [if_pos rfl]
        by_cases h : M < f (prt n cd s l 0) + 1
        · rw [if_pos h]; exact ino (nI_ge h (by omega)) rfl
        · rw [if_neg h]; exact ip (nI_le (by omega) (by omega)) rfl
      · refine ino (nI_ne0 (by omega) (by omega)) ?_
        rw [if_neg z]
        by_cases h : M < f (prt n cd s l i) + 0
        · rw [if_pos h]; exact ino (nI_ge h (by omega)) rfl
        · rw [if_neg h]; exact ip (nI_le (by omega) (by omega)) rfl
  · show B_X11_sureBy_5 (nI n) mmasks ms (nI s) (nI l) (nI _) (nI 16) = _
    unfold B_X11_sureBy_5
    exact ip (by decide) rfl
theorem WR.worstBy {n : Nat} {cd : Nat → Nat} {codes masks alike havers mcodes mmasks : Nat → Int32} (W : WR n cd codes masks alike havers mcodes mmasks) {su ms : Nat → Int32} {f : Nat → Nat} {s l : Nat} (hs : s < 2 ^ n) (hl : l < 10) (H : Low n su ms f s) (hp : Prt n cd s l) : f_X6_worstBy su (nI n) masks alike (nI s) (nI l) = some (nI (Wm n cd f s l)) := by
  have hn := W.hn
  have h256 := lt256 hn hs
  have ch := ct_le s.testBit n
  have B : ∀ w, w < n → s.testBit w = true → (if mkm (cd w) l = 0 then 1 else 0) + f (prt n cd s l (mkm (cd w) l)) ≤ 10 := by
    intro w hw hb
    have h1 := (H _ (prt_ne0 (cd := cd) (l := l) hw hb) (prt_sub n cd s l _) (hp.ne _)).2.2
    have h2 := ct_sub (prt_sub n cd s l (mkm (cd w) l)) (prt_lt n cd s l _) hs (hp.ne _)
    split <;> omega
  have e : mxN (fun w => if s.testBit w then (if mkm (cd w) l = 0 then 1 else 0) + f (prt n cd s l (mkm (cd w) l)) else 0) n = Wm n cd f s l := by
    apply Nat.le_antisymm
    · apply mxN_le
      intro w hw
      show (if s.testBit w then (if mkm (cd w) l = 0 then 1 else 0) + f (prt n cd s l (mkm (cd w) l)) else 0) ≤ _
      by_cases hb : s.testBit w = true
      · rw [if_pos hb]
        have := le_mxN (f := fun m => if prt n cd s l m = 0 then 0 else f (prt n cd s l m) + (if m = 0 then 1 else 0)) (mkm_lt (cd w) l)
        rw [if_neg (prt_ne0 hw hb), Nat.add_comm] at this
        exact this
      · rw [if_neg hb]; exact Nat.zero_le _
    · apply mxN_le
      intro m hm
      show (if prt n cd s l m = 0 then 0 else f (prt n cd s l m) + (if m = 0 then 1 else 0)) ≤ _
      by_cases e : prt n cd s l m = 0
      · rw [if_pos e]; exact Nat.zero_le _
      · rw [if_neg e]
        obtain ⟨w, hw0⟩ := Nat.exists_testBit_of_ne_zero e
        obtain ⟨hw, hb, rfl⟩ := prt_tb.mp hw0
        have := le_mxN (f := fun w => if s.testBit w then (if mkm (cd w) l = 0 then 1 else 0) + f (prt n cd s l (mkm (cd w) l)) else 0) hw
        rw [if_pos hb, Nat.add_comm] at this
        exact this
  unfold f_X6_worstBy
  rw [← e]
  refine b_some (lp_run (o := nI (mxN (fun w => if s.testBit w then (if mkm (cd w) l = 0 then 1 else 0) + f (prt n cd s l (mkm (cd w) l)) else 0) n)) (fun i => (nI (mxN (fun w => if s.testBit w then (if mkm (cd w) l = 0 then 1 else 0) + f (prt n cd s l (mkm (cd w) l)) else 0) i), nI i)) n rfl (by omega) (fun i hi => ?_) ?_) rfl
  · show B_X6_worstBy_6 su (nI n) masks alike (nI s) (nI l) (nI (mxN (fun w => if s.testBit w then (if mkm (cd w) l = 0 then 1 else 0) + f (prt n cd s l (mkm (cd w) l)) else 0) i)) (nI i) = some (.inl (nI (if mxN (fun w => if s.testBit w then (if mkm (cd w) l = 0 then 1 else 0) + f (prt n cd s l (mkm (cd w) l)) else 0) i < (if s.testBit i then (if mkm (cd i) l = 0 then 1 else 0) + f (prt n cd s l (mkm (cd i) l)) else 0) then (if s.testBit i then (if mkm (cd i) l = 0 then 1 else 0) + f (prt n cd s l (mkm (cd i) l)) else 0) else mxN (fun w => if s.testBit w then (if mkm (cd w) l = 0 then 1 else 0) + f (prt n cd s l (mkm (cd w) l)) else 0) i), nI (i + 1)))
    have m8 : mxN (fun w => if s.testBit w then (if mkm (cd w) l = 0 then 1 else 0) + f (prt n cd s l (mkm (cd w) l)) else 0) i ≤ 10 := mxN_le fun w hw => by
      show (if s.testBit w then (if mkm (cd w) l = 0 then 1 else 0) + f (prt n cd s l (mkm (cd w) l)) else 0) ≤ 10
      by_cases hb : s.testBit w = true
      · rw [if_pos hb]; exact B w (by omega) hb
      · rw [if_neg hb]; omega
    generalize mxN (fun w => if s.testBit w then (if mkm (cd w) l = 0 then 1 else 0) + f (prt n cd s l (mkm (cd w) l)) else 0) i = M at m8
    unfold B_X6_worstBy_6
    refine ino (nI_ge hi (by omega)) ?_
    cases hb : s.testBit i
    · refine ip (bz (by omega) (by omega) hb) ?_
      rw [if_neg (by simp), nI_1]
    · refine ino (bnz (by omega) (by omega) hb) (b_some (W.cmask hi hl) ?_)
      have m16 := mkm_lt (cd i) l
      have b10 := B i hi hb
      have p256 := lt256 hn (prt_lt n cd s l (mkm (cd i) l))
      have hne := prt_ne0 (cd := cd) (l := l) hi hb
      have hsu := (H _ hne (prt_sub n cd s l _) (hp.ne _)).1
      have ea : nI s &&& nI (sN (fun v => mkm (cd v) l == mkm (cd i) l) n) = nI (prt n cd s l (mkm (cd i) l)) := by
        rw [fa_and]
        congr 1
        apply nat_ext (Nat.lt_of_le_of_lt Nat.and_le_left hs) (prt_lt _ _ _ _ _)
        intro k hk
        unfold prt
        rw [Nat.testBit_and, sN_tb, sN_tb, decide_eq_true hk]
        simp
      have ef : f_X6_fewestOf su (nI (prt n cd s l (mkm (cd i) l))) = some (nI (f (prt n cd s l (mkm (cd i) l)))) := by
        unfold f_X6_fewestOf
        have hbw : f_X10_isBelow (nI (prt n cd s l (mkm (cd i) l))) (Int32.ofNat 256) = some 1 := by
          unfold f_X10_isBelow
          exact ino (nI_pos (by omega)) (ino (nI_ge (b := 256) p256 (by decide)) rfl)
        refine ino (nI_ne0 (by omega) (by omega)) (b_some hbw (ino i10 (ino (vp_in_nI p256 (by decide)) ?_)))
        rw [nI_clamp (by omega), hsu]
      have J : ∀ y, y + f (prt n cd s l (mkm (cd i) l)) ≤ 10 → J_X6_worstBy_39 su (nI n) alike (nI s) (nI l) (nI M) (nI i) (nI y) = some (.inl (nI (if M < y + f (prt n cd s l (mkm (cd i) l)) then y + f (prt n cd s l (mkm (cd i) l)) else M), nI (i + 1))) := by
        intro y hy
        unfold J_X6_worstBy_39
        refine b_some (W.calike hi hl) ?_
        rw [ea]
        refine b_some ef ?_
        rw [nI_add, nI_1]
        by_cases h : M < y + f (prt n cd s l (mkm (cd i) l))
        · rw [if_pos h, if_pos (nI_lt h (by omega))]
        · rw [if_neg h, if_neg (nI_nlt (by omega) (by omega))]
      by_cases z : mkm (cd i) l = 0
      · refine ip (by rw [z]; rfl) ?_
        rw [if_pos z] at b10 ⊢
        exact J 1 b10
      · refine ino (nI_ne0 (by omega) (by omega)) ?_
        rw [if_neg z] at b10 ⊢
        exact J 0 b10
  · show B_X6_worstBy_6 su (nI n) masks alike (nI s) (nI l) (nI _) (nI n) = _
    unfold B_X6_worstBy_6
    exact ip (nI_le (Nat.le_refl n) (by omega)) rfl
theorem WR.somePart {n : Nat} {cd : Nat → Nat} {codes masks alike havers mcodes mmasks : Nat → Int32} (W : WR n cd codes masks alike havers mcodes mmasks) {s : Nat} (h2 : 1 < ct s.testBit n) : ∃ l, l < 10 ∧ Prt n cd s l := by
  obtain ⟨v, w, hv, hw, bv, bw⟩ := ct_two h2
  apply Classical.byContradiction
  intro hc
  have : cd v = cd w := mkm_inj (W.cd4 v (by omega)) (W.cd4 w hw) fun l hl => Classical.byContradiction fun ne => hc ⟨l, hl, v, w, by omega, hw, bv, bw, ne⟩
  have := W.dis v w (by omega) hw this
  omega
/-- one set's value, on both sides -/
theorem WR.oneSet {n : Nat} {cd : Nat → Nat} {codes masks alike havers mcodes mmasks : Nat → Int32} (W : WR n cd codes masks alike havers mcodes mmasks) {su ms : Nat → Int32} {f : Nat → Nat} {s : Nat} (hs : s < 2 ^ n) (H : Low n su ms f s) (h2 : 1 < ct s.testBit n) : ∃ v, v + 1 ≤ ct s.testBit n ∧ f_X6_reckonSet su (nI n) masks alike (nI s) = some (nI v) ∧ f_X11_sureOf (nI n) mmasks ms (nI s) = some (nI v) := by
  have hn := W.hn
  have s256 := lt256 hn hs
  have ch := ct_le s.testBit n
  have h0 : s ≠ 0 := fun e => by
    obtain ⟨v, w, hv, hw, bv, bw⟩ := ct_two h2
    rw [e, Nat.zero_testBit] at bv
    cases bv
  obtain ⟨l0, hl0, hp0⟩ := W.somePart h2
  have hw0 := Wm_lt hs H hp0
  have C : ∃ o, f_X6_reckonSet su (nI n) masks alike (nI s) = some o ∧ ∃ v, o = nI v ∧ (∃ l, l < 10 ∧ Prt n cd s l ∧ Wm n cd f s l = v) ∧ ∀ l, l < 10 → Prt n cd s l → v ≤ Wm n cd f s l := by
    unfold f_X6_reckonSet
    refine b_ex (lp_inv (fun i v => ∃ x, v = (nI x, nI i) ∧ x ≤ 10 ∧ (x = 10 ∨ ∃ l, l < 10 ∧ Prt n cd s l ∧ Wm n cd f s l = x) ∧ ∀ l, l < i → Prt n cd s l → x ≤ Wm n cd f s l) (fun o => ∃ v, o = nI v ∧ (∃ l, l < 10 ∧ Prt n cd s l ∧ Wm n cd f s l = v) ∧ ∀ l, l < 10 → Prt n cd s l → v ≤ Wm n cd f s l) 10 (by decide) ⟨10, rfl, by decide, Or.inl rfl, fun l hl => absurd hl (by omega)⟩ (fun i v hi hv => ?_) (fun v hv => ?_)) (fun o q => ⟨o, rfl, q⟩)
    · obtain ⟨x, rfl, hx, hx2, hx3⟩ := hv
      refine Or.inl ?_
      show ∃ u, B_X6_reckonSet_6 su (nI n) masks alike (nI s) (nI x) (nI i) = some (.inl u) ∧ _
      unfold B_X6_reckonSet_6
      rw [nI_1, if_neg (show ¬ (10 : Int32) ≤ nI i from nI_ge (b := 10) hi (by decide))]
      by_cases hp : Prt n cd s i
      · have hw := Wm_lt hs H hp
        rw [W.ispart_y hs hi hp, Option.bind_some, if_neg i10, W.worstBy hs hi H hp, Option.bind_some]
        by_cases h : Wm n cd f s i < x
        · rw [if_pos (nI_lt h (by omega))]
          refine ⟨_, rfl, _, rfl, by omega, Or.inr ⟨i, hi, hp, rfl⟩, fun l hl q => ?_⟩
          by_cases e : l = i
          · subst e; omega
          · have := hx3 l (by omega) q
            omega
        · rw [if_neg (nI_nlt (by omega) (by omega))]
          refine ⟨_, rfl, _, rfl, hx, hx2, fun l hl q => ?_⟩
          by_cases e : l = i
          · subst e; omega
          · exact hx3 l (by omega) q
      · rw [W.ispart_n hs h0 hi hp, Option.bind_some, if_pos rfl]
        refine ⟨_, rfl, _, rfl, hx, hx2, fun l hl q => ?_⟩
        by_cases e : l = i
        · subst e; exact absurd q hp
        · exact hx3 l (by omega) q
    · obtain ⟨x, rfl, hx, hx2, hx3⟩ := hv
      refine ⟨nI x, ip (show (10 : Int32) ≤ nI 10 from by decide) rfl, x, rfl, ?_, hx3⟩
      rcases hx2 with rfl | hx2
      · have := hx3 l0 hl0 hp0
        omega
      · exact hx2
  have M : ∃ o, f_X11_sureOf (nI n) mmasks ms (nI s) = some o ∧ ∃ v, o = nI v ∧ (∃ l, l < 10 ∧ Prt n cd s l ∧ Wm n cd f s l = v) ∧ ∀ l, l < 10 → Prt n cd s l → v ≤ Wm n cd f s l := by
    have hone : f_X11_isOneAtMost (nI s) = some 0 := one_n (by omega) (by rw [pc_n (by omega) hs]; omega)
    unfold f_X11_sureOf
    rw [hone, Option.bind_some, if_pos rfl]
    unfold J_X11_sureOf_13
    refine b_ex (lp_inv (fun i v => (v = ((1048576 : Int32), nI i) ∧ ∀ l, l < i → ¬ Prt n cd s l) ∨ ∃ x, v = (nI x, nI i) ∧ x ≤ 10 ∧ (∃ l, l < 10 ∧ Prt n cd s l ∧ Wm n cd f s l = x) ∧ ∀ l, l < i → Prt n cd s l → x ≤ Wm n cd f s l) (fun o => ∃ v, o = nI v ∧ (∃ l, l < 10 ∧ Prt n cd s l ∧ Wm n cd f s l = v) ∧ ∀ l, l < 10 → Prt n cd s l → v ≤ Wm n cd f s l) 10 (by decide) (Or.inl ⟨rfl, fun l hl => absurd hl (by omega)⟩) (fun i v hi hv => ?_) (fun v hv => ?_)) (fun o q => ⟨o, rfl, q⟩)
    · refine Or.inl ?_
      show ∃ u, B_X11_sureOf_16 (nI n) mmasks ms (nI s) v.1 v.2 = some (.inl u) ∧ _
      have hv2 : v.2 = nI i := by rcases hv with ⟨rfl, -⟩ | ⟨x, rfl, -⟩ <;> rfl
      unfold B_X11_sureOf_16
      have p16 : nP n cd s i ≤ 16 := ct_le _ _
      rw [hv2, nI_1, if_neg (show ¬ (10 : Int32) ≤ nI i from nI_ge (b := 10) hi (by decide)), hone, Option.bind_some, if_pos rfl, W.parts0 hs hi, Option.bind_some]
      by_cases hp : Prt n cd s i
      · have hw := Wm_lt hs H hp
        have hnp := nP_prt.mpr hp
        rw [if_neg (show ¬ nI (nP n cd s i) ≤ (1 : Int32) from nI_ge (a := 1) hnp (by omega)), W.sureBy hs hi H hp, Option.bind_some]
        rcases hv with ⟨rfl, hk⟩ | ⟨x, rfl, hx, hx2, hx3⟩
        · refine ⟨_, ino (show ¬ (1048576 : Int32) ≤ nI _ from nI_ge (b := 1048576) (by omega) (by decide)) rfl, Or.inr ⟨_, rfl, by omega, ⟨i, hi, hp, rfl⟩, fun l hl q => ?_⟩⟩
          by_cases e : l = i
          · subst e; omega
          · exact absurd q (hk l (by omega))
        · by_cases h : x ≤ Wm n cd f s i
          · refine ⟨_, ip (nI_le h (by omega)) rfl, Or.inr ⟨_, rfl, hx, hx2, fun l hl q => ?_⟩⟩
            by_cases e : l = i
            · subst e; omega
            · exact hx3 l (by omega) q
          · refine ⟨_, ino (nI_ge (by omega) (by omega)) rfl, Or.inr ⟨_, rfl, by omega, ⟨i, hi, hp, rfl⟩, fun l hl q => ?_⟩⟩
            by_cases e : l = i
            · subst e; omega
            · have := hx3 l (by omega) q
              omega
      · have hnp : ¬ 1 < nP n cd s i := fun q => hp (nP_prt.mp q)
        rw [if_pos (show nI (nP n cd s i) ≤ (1 : Int32) from nI_le (b := 1) (by omega) (by decide))]
        rcases hv with ⟨rfl, hk⟩ | ⟨x, rfl, hx, hx2, hx3⟩
        · refine ⟨_, ip (show (1048576 : Int32) ≤ (1048576 : Int32) from by decide) rfl, Or.inl ⟨rfl, fun l hl q => ?_⟩⟩
          by_cases e : l = i
          · subst e; exact hp q
          · exact hk l (by omega) q
        · refine ⟨_, ip (show nI x ≤ (1048576 : Int32) from nI_le (b := 1048576) (by omega) (by decide)) rfl, Or.inr ⟨_, rfl, hx, hx2, fun l hl q => ?_⟩⟩
          by_cases e : l = i
          · subst e; exact absurd q hp
          · exact hx3 l (by omega) q
    · rcases hv with ⟨rfl, hk⟩ | ⟨x, rfl, hx, hx2, hx3⟩
      · exact absurd hp0 (hk l0 hl0)
      · exact ⟨nI x, ip (show (10 : Int32) ≤ nI 10 from by decide) rfl, x, rfl, hx2, hx3⟩
  obtain ⟨o, e1, v, rfl, ⟨l1, hl1, hp1, rfl⟩, m1⟩ := C
  obtain ⟨o2, e2, v2, rfl, ⟨l2, hl2, hp2, rfl⟩, m2⟩ := M
  have a := m1 l2 hl2 hp2
  have b := m2 l1 hl1 hp1
  have e : Wm n cd f s l2 = Wm n cd f s l1 := by omega
  exact ⟨_, Wm_lt hs H hp1, e1, by rw [← e]; exact e2⟩
