/-! the tables of what is sure, and the first letter -/
theorem lp_one {V O : Type} {B : V → Option (V ⊕ O)} {v u : V} {n : Nat} (h : B v = some (.inl u)) : lp B (n + 1) v = lp B n u := by
  show (B v).bind _ = _
  rw [h]
  rfl
theorem lp_out {V O : Type} {B : V → Option (V ⊕ O)} {v : V} {o : O} {n : Nat} (hn : 0 < n) (h : B v = some (.inr o)) : lp B n v = some o := by
  obtain ⟨n, rfl⟩ : ∃ k, n = k + 1 := ⟨n - 1, by omega⟩
  show (B v).bind _ = _
  rw [h]
  rfl
theorem lp_cut {V O V2 O2 : Type} {B : V → Option (V ⊕ O)} {B2 : V2 → Option (V2 ⊕ O2)} (R : Nat → V → V2 → Prop) (M : Nat) (h1 : ∀ i v w, i < M → R i v w → ∃ u x, B v = some (.inl u) ∧ B2 w = some (.inl x) ∧ R (i + 1) u x) : ∀ (N i k k2 : Nat) (v : V) (w : V2), i + N ≤ M → R i v w → ∃ u x, R (i + N) u x ∧ lp B (N + k) v = lp B k u ∧ lp B2 (N + k2) w = lp B2 k2 x := by
  intro N
  induction N with
  | zero =>
    intro i k k2 v w _ h
    exact ⟨v, w, h, by rw [Nat.zero_add], by rw [Nat.zero_add]⟩
  | succ N ih =>
    intro i k k2 v w hM h
    obtain ⟨u, x, e1, e2, r⟩ := h1 i v w (by omega) h
    obtain ⟨u2, x2, r2, f1, f2⟩ := ih (i + 1) k k2 u x (by omega) r
    refine ⟨u2, x2, by rw [show i + (N + 1) = i + 1 + N by omega]; exact r2, ?_, ?_⟩
    · rw [show N + 1 + k = (N + k) + 1 by omega, lp_one e1]
      exact f1
    · rw [show N + 1 + k2 = (N + k2) + 1 by omega, lp_one e2]
      exact f2
/-- tables alike at all that is of a set, below a number -/
def Alk (n : Nat) (su ms : Nat → Int32) (lf k : Nat) : Prop := ∀ t, t ≠ 0 → t < k → Sub t lf → ∃ v, v + 1 ≤ ct t.testBit n ∧ su t = nI v ∧ ms t = nI v
theorem Alk.low {n : Nat} {su ms : Nat → Int32} {lf s k : Nat} (hn : n ≤ 8) (h : Alk n su ms lf k) (hk : s ≤ k) (hs : Sub s lf) : Low n su ms (fun t => (ms t).toNatClampNeg) s := by
  intro t h0 ht ne
  have hlt : t < s := Nat.lt_of_le_of_ne ht.le ne
  obtain ⟨v, h1, h2, h3⟩ := h t h0 (by omega) (ht.trans hs)
  have := ct_le t.testBit n
  have hv : (ms t).toNatClampNeg = v := by rw [h3, nI_clamp (by omega)]
  show su t = nI (ms t).toNatClampNeg ∧ ms t = nI (ms t).toNatClampNeg ∧ (ms t).toNatClampNeg + 1 ≤ _
  rw [hv]
  exact ⟨h2, h3, h1⟩
theorem sureOf_one {p : Nat} (h : p < 1024) (h1 : pcN p 10 ≤ 1) (w : Int32) (m s : Nat → Int32) : f_X11_sureOf w m s (nI p) = some 0 := by
  unfold f_X11_sureOf
  refine b_some (one_y h h1) (ino i10 ?_)
  unfold J_X11_sureOf_13
  refine b_some (lp_out (o := (0 : Int32)) (show 0 < KN by decide) ?_) rfl
  show B_X11_sureOf_16 w m s (nI p) 0 0 = _
  unfold B_X11_sureOf_16
  exact ino (by decide) (b_some (one_y h h1) (ino i10 rfl))
theorem WR.sureStep {n : Nat} {cd : Nat → Nat} {codes masks alike havers mcodes mmasks : Nat → Int32} (W : WR n cd codes masks alike havers mcodes mmasks) {su ms : Nat → Int32} {lf i : Nat} (hlf : lf < 2 ^ n) (hi : i < lf) (h : Alk n su ms lf (i + 1)) : ∃ su2 ms2, B_X6_reckon_2 (nI n) masks alike (nI lf) (nI (i + 1)) su = some (.inl (nI (i + 1 + 1), su2)) ∧ B_X11_setSure_2 (nI n) (nI lf) mmasks (nI (i + 1)) ms = some (.inl (nI (i + 1 + 1), ms2)) ∧ Alk n su2 ms2 lf (i + 1 + 1) := by
  have hn := W.hn
  have h256 := lt256 hn hlf
  have p2 := p28 hn
  have hs : i + 1 < 2 ^ n := by omega
  have g1 : ¬ nI lf < nI (i + 1) := nI_nlt (by omega) (by omega)
  have g2 : ¬ (Int32.ofNat 256) ≤ nI (i + 1) := nI_ge (b := 256) (by omega) (by decide)
  have g3 : ¬ ((1 : Int32) <<< (nI n &&& 31)) ≤ nI (i + 1) := by
    rw [shl1 n (by omega)]
    exact nI_ge (by omega) (by omega)
  unfold B_X6_reckon_2 B_X11_setSure_2
  rw [if_neg g1, if_neg g2, if_neg g3, nI_1]
  by_cases hsub : Sub (i + 1) lf
  · have z := (sub_iff (t := i + 1) (s := lf) (by omega) (by omega)).mpr hsub
    rw [if_pos z, if_pos z, bc_n hn hs, Option.bind_some]
    have ch := ct_le (i + 1).testBit n
    have c1 : 0 < ct (i + 1).testBit n := by
      obtain ⟨w, hw, hb, -⟩ := least_ex hs (by omega)
      exact ct_pos hw hb
    have fin : ∀ v, v + 1 ≤ ct (i + 1).testBit n → Alk n (upd su (i + 1) (nI v)) (upd ms (i + 1) (nI v)) lf (i + 1 + 1) := fun v hv t h0 ht hts => by
      by_cases e : t = i + 1
      · subst e; exact ⟨v, hv, pk_us, pk_us⟩
      · rw [pk_un e, pk_un e]; exact h t h0 (by omega) hts
    have o1 : ¬ oob (nI (i + 1)) 256 := vp_in_nI (by omega) (by decide)
    by_cases h2 : 1 < ct (i + 1).testBit n
    · obtain ⟨v, hv, e1, e2⟩ := W.oneSet hs (h.low hn (Nat.le_refl _) hsub) h2
      refine ⟨upd su (i + 1) (nI v), upd ms (i + 1) (nI v), ip (show (1 : Int32) < nI _ from nI_lt (a := 1) h2 (by omega)) (b_some e1 (ino o1 ?_)), b_some e2 (ino o1 ?_), fin v hv⟩
      · rw [nI_clamp (by omega)]
      · rw [nI_clamp (by omega)]
    · have e2 : f_X11_sureOf (nI n) mmasks ms (nI (i + 1)) = some (nI 0) := sureOf_one (by omega) (by rw [pc_n (by omega) hs]; omega) _ _ _
      refine ⟨upd su (i + 1) (nI 0), upd ms (i + 1) (nI 0), ino (show ¬ (1 : Int32) < nI _ from nI_nlt (a := 1) (by omega) (by decide)) (ino o1 ?_), b_some e2 (ino o1 ?_), fin 0 (by omega)⟩
      · rw [nI_clamp (by omega)]
        rfl
      · rw [nI_clamp (by omega)]
  · have z : ¬ (nI (i + 1) &&& (nI lf ^^^ (-1 : Int32))) = 0 := fun e => hsub ((sub_iff (by omega) (by omega)).mp e)
    rw [if_neg z, if_neg z]
    refine ⟨_, _, rfl, rfl, fun t h0 ht hts => ?_⟩
    by_cases e : t = i + 1
    · subst e; exact absurd hts hsub
    · exact h t h0 (by omega) hts
theorem WR.sureRun {n : Nat} {cd : Nat → Nat} {codes masks alike havers mcodes mmasks : Nat → Int32} (W : WR n cd codes masks alike havers mcodes mmasks) {lf : Nat} (hlf : lf < 2 ^ n) (su ms : Nat → Int32) : ∃ su2 ms2, f_X6_reckon su (nI n) masks alike (nI lf) = some su2 ∧ f_X11_setSure (nI n) (nI lf) mmasks ms = some ms2 ∧ Alk n su2 ms2 lf (lf + 1) := by
  have hn := W.hn
  have h256 := lt256 hn hlf
  have p2 := p28 hn
  obtain ⟨u, x, ⟨su2, ms2, rfl, rfl, hA⟩, f1, f2⟩ := lp_cut (B := fun v => B_X6_reckon_2 (nI n) masks alike (nI lf) v.1 v.2) (B2 := fun v => B_X11_setSure_2 (nI n) (nI lf) mmasks v.1 v.2) (fun i v w => ∃ su2 ms2, v = (nI (i + 1), su2) ∧ w = (nI (i + 1), ms2) ∧ Alk n su2 ms2 lf (i + 1)) lf (fun i v w hi hr => by
    obtain ⟨su2, ms2, rfl, rfl, hA⟩ := hr
    obtain ⟨a, b, q1, q2, q3⟩ := W.sureStep hlf hi hA
    exact ⟨_, _, q1, q2, a, b, rfl, rfl, q3⟩) lf 0 (2000 - lf) (1999 - lf) (nI 1, su) (nI 1, upd ms 0 0) (by omega) ⟨su, upd ms 0 0, rfl, rfl, fun t h0 ht => absurd ht (by omega)⟩
  have k1 : KN = lf + (2000 - lf) := by show 2000 = _; omega
  have k2 : KN = (lf + (1999 - lf)) + 1 := by show 2000 = _; omega
  rw [Nat.zero_add] at f1 f2 hA
  refine ⟨su2, ms2, b_some (x := su2) ?_ rfl, b_some (x := ms2) ?_ rfl, hA⟩
  · rw [k1]
    refine f1.trans (lp_out (by omega) ?_)
    show B_X6_reckon_2 (nI n) masks alike (nI lf) (nI (lf + 1)) su2 = _
    unfold B_X6_reckon_2
    exact ip (nI_lt (by omega) (by omega)) rfl
  · have s1 : (fun v : Int32 × (Nat → Int32) => B_X11_setSure_2 (nI n) (nI lf) mmasks v.1 v.2) ((0 : Int32), ms) = some (.inl (nI 1, upd ms 0 0)) := by
      show B_X11_setSure_2 (nI n) (nI lf) mmasks (nI 0) ms = _
      unfold B_X11_setSure_2
      have g3 : ¬ ((1 : Int32) <<< (nI n &&& 31)) ≤ nI 0 := by
        rw [shl1 n (by omega)]
        exact nI_ge (Nat.two_pow_pos n) (by omega)
      refine ino g3 (ip ((sub_iff (t := 0) (by decide) (by omega)).mpr (Nat.zero_and lf)) (b_some (sureOf_one (p := 0) (by decide) (by decide) _ _ _) (ino (by decide) ?_)))
      rfl
    rw [k2, lp_one s1]
    refine f2.trans ?_
    refine lp_seq (fun j => (nI (lf + 1 + j), ms2)) (2 ^ n - (lf + 1)) (fun j hj => ?_) ?_ (2 ^ n - (lf + 1)) 0 _ (by omega) (by omega)
    · show B_X11_setSure_2 (nI n) (nI lf) mmasks (nI (lf + 1 + j)) ms2 = _
      unfold B_X11_setSure_2
      have g3 : ¬ ((1 : Int32) <<< (nI n &&& 31)) ≤ nI (lf + 1 + j) := by
        rw [shl1 n (by omega)]
        exact nI_ge (by omega) (by omega)
      refine ino g3 (ino (fun e => ?_) (by rw [nI_1]; rfl))
      have := ((sub_iff (by omega) (by omega)).mp e).le
      omega
    · show B_X11_setSure_2 (nI n) (nI lf) mmasks (nI (lf + 1 + (2 ^ n - (lf + 1)))) ms2 = _
      unfold B_X11_setSure_2
      refine ip ?_ rfl
      rw [shl1 n (by omega), show lf + 1 + (2 ^ n - (lf + 1)) = 2 ^ n by omega]
      exact nI_le (Nat.le_refl _) (by omega)
/-- the least letter of those that hold, or none -/
def Fst (P : Nat → Prop) (r : Int32) : Prop := (r = -1 ∧ ∀ k, k < 10 → ¬ P k) ∨ ∃ l, l < 10 ∧ r = nI l ∧ P l ∧ ∀ k, k < l → ¬ P k
theorem Fst.uniq {P : Nat → Prop} {r s : Int32} (h : Fst P r) (k : Fst P s) : r = s := by
  rcases h with ⟨rfl, h⟩ | ⟨l, hl, rfl, p, h⟩ <;> rcases k with ⟨rfl, k⟩ | ⟨m, hm, rfl, q, k⟩
  · rfl
  · exact absurd q (h m hm)
  · exact absurd p (k l hl)
  · rcases Nat.lt_trichotomy l m with e | e | e
    · exact absurd p (k l e)
    · rw [e]
    · exact absurd q (h m e)
theorem fewestOf_eq {su : Nat → Int32} {s : Nat} (h0 : s ≠ 0) (h : s < 256) : f_X6_fewestOf su (nI s) = some (su s) := by
  unfold f_X6_fewestOf
  have hbw : f_X10_isBelow (nI s) (Int32.ofNat 256) = some 1 := by
    unfold f_X10_isBelow
    exact ino (nI_pos (by omega)) (ino (nI_ge (b := 256) h (by decide)) rfl)
  refine ino (nI_ne0 (by omega) (by omega)) (b_some hbw (ino i10 (ino (vp_in_nI h (by decide)) ?_)))
  rw [nI_clamp (by omega)]
theorem WR.firstC {n : Nat} {cd : Nat → Nat} {codes masks alike havers mcodes mmasks : Nat → Int32} (W : WR n cd codes masks alike havers mcodes mmasks) {su ms : Nat → Int32} {f : Nat → Nat} {s v : Nat} (hs : s < 2 ^ n) (h0 : s ≠ 0) (H : Low n su ms f s) (hv : v ≤ 8) (e : su s = nI v) : ∃ r, f_X6_firstLetter su (nI n) masks alike (nI s) = some r ∧ Fst (fun l => Prt n cd s l ∧ Wm n cd f s l = v) r := by
  have hn := W.hn
  have h256 := lt256 hn hs
  have c8 := ct_le s.testBit n
  unfold f_X6_firstLetter
  refine b_ex (lp_inv (fun i x => x = nI i ∧ ∀ k, k < i → ¬ (Prt n cd s k ∧ Wm n cd f s k = v)) (fun o => (o.1 = 0 ∧ ∃ l, l < 10 ∧ o.2 = nI l ∧ (Prt n cd s l ∧ Wm n cd f s l = v) ∧ ∀ k, k < l → ¬ (Prt n cd s k ∧ Wm n cd f s k = v)) ∨ (o.1 = 1 ∧ ∀ k, k < 10 → ¬ (Prt n cd s k ∧ Wm n cd f s k = v))) 10 (by decide) ⟨rfl, fun k hk => absurd hk (by omega)⟩ (fun i x hi hx => ?_) (fun x hx => ?_)) (fun o q => ?_)
  · obtain ⟨rfl, hk⟩ := hx
    show (∃ u, B_X6_firstLetter_2 su (nI n) masks alike (nI s) (nI i) = some (.inl u) ∧ _) ∨ (∃ o, B_X6_firstLetter_2 su (nI n) masks alike (nI s) (nI i) = some (.inr o) ∧ _)
    unfold B_X6_firstLetter_2
    rw [nI_1, if_neg (show ¬ (10 : Int32) ≤ nI i from nI_ge (b := 10) hi (by decide)), if_neg (nI_ne0 (by omega) (by omega))]
    have next : ¬ (Prt n cd s i ∧ Wm n cd f s i = v) → ∀ k, k < i + 1 → ¬ (Prt n cd s k ∧ Wm n cd f s k = v) := fun q k hk2 => by
      by_cases e : k = i
      · subst e; exact q
      · exact hk k (by omega)
    by_cases hp : Prt n cd s i
    · have hw := Wm_lt hs H hp
      rw [W.ispart_y hs hi hp, Option.bind_some, if_neg i10, W.worstBy hs hi H hp, Option.bind_some, fewestOf_eq h0 h256, Option.bind_some, e]
      by_cases q : Wm n cd f s i = v
      · exact Or.inr ⟨_, ip (by rw [q]) rfl, Or.inl ⟨rfl, i, hi, rfl, ⟨hp, q⟩, hk⟩⟩
      · exact Or.inl ⟨_, ino (fun z => q ((nI_eq (by omega) (by omega)).mp z)) rfl, rfl, next (fun z => q z.2)⟩
    · rw [W.ispart_n hs h0 hi hp, Option.bind_some, if_pos rfl]
      exact Or.inl ⟨_, rfl, rfl, next (fun z => hp z.1)⟩
  · obtain ⟨rfl, hk⟩ := hx
    exact ⟨_, ip (show (10 : Int32) ≤ nI 10 from by decide) rfl, Or.inr ⟨rfl, hk⟩⟩
  · rcases q with ⟨q, l, hl, e, p, k⟩ | ⟨q, k⟩
    · exact ⟨o.2, ip q rfl, Or.inr ⟨l, hl, e, p, k⟩⟩
    · exact ⟨_, ino (by rw [q]; decide) rfl, Or.inl ⟨rfl, k⟩⟩
theorem dn_all : ∀ i : Fin 10, nI (9 - i.val) + (-1 : Int32) = (if i.val = 9 then (-1 : Int32) else nI (9 - (i.val + 1))) := by decide
theorem WR.firstM {n : Nat} {cd : Nat → Nat} {codes masks alike havers mcodes mmasks : Nat → Int32} (W : WR n cd codes masks alike havers mcodes mmasks) {su ms : Nat → Int32} {f : Nat → Nat} {s v : Nat} (hs : s < 2 ^ n) (H : Low n su ms f s) (hv : v ≤ 8) (e : ms s = nI v) : ∃ r, lp (fun v => B_X11_surely_57 (nI n) (nI s) mmasks ms v.1 v.2) KN ((-1 : Int32), (9 : Int32)) = some r ∧ Fst (fun l => Prt n cd s l ∧ Wm n cd f s l = v) r := by
  have hn := W.hn
  have h256 := lt256 hn hs
  have c8 := ct_le s.testBit n
  refine lp_inv (fun i x => x.2 = (if i = 10 then (-1 : Int32) else nI (9 - i)) ∧ ((x.1 = -1 ∧ ∀ k, 10 ≤ k + i → k < 10 → ¬ (Prt n cd s k ∧ Wm n cd f s k = v)) ∨ ∃ l, l < 10 ∧ x.1 = nI l ∧ (Prt n cd s l ∧ Wm n cd f s l = v) ∧ ∀ k, 10 ≤ k + i → k < l → ¬ (Prt n cd s k ∧ Wm n cd f s k = v))) _ 10 (by decide) ⟨rfl, Or.inl ⟨rfl, fun k hk h2 => absurd hk (by omega)⟩⟩ (fun i x hi hx => ?_) (fun x hx => ?_)
  · obtain ⟨x1, x2⟩ := x
    obtain ⟨q2, hx⟩ := hx
    have q2 : x2 = nI (9 - i) := by rw [if_neg (by omega)] at q2; exact q2
    subst q2
    refine Or.inl ?_
    show ∃ u, B_X11_surely_57 (nI n) (nI s) mmasks ms x1 (nI (9 - i)) = some (.inl u) ∧ _
    have d := dn_all ⟨i, hi⟩
    dsimp only at d
    have d2 : nI (9 - i) + (-1 : Int32) = (if i + 1 = 10 then (-1 : Int32) else nI (9 - (i + 1))) := by
      rw [d]
      by_cases z : i = 9
      · subst z; rfl
      · rw [if_neg z, if_neg (by omega)]
    have hx : (x1 = -1 ∧ ∀ k, 10 ≤ k + i → k < 10 → ¬ (Prt n cd s k ∧ Wm n cd f s k = v)) ∨ ∃ l, l < 10 ∧ x1 = nI l ∧ (Prt n cd s l ∧ Wm n cd f s l = v) ∧ ∀ k, 10 ≤ k + i → k < l → ¬ (Prt n cd s k ∧ Wm n cd f s k = v) := hx
    have next : ¬ (Prt n cd s (9 - i) ∧ Wm n cd f s (9 - i) = v) → ((x1 = -1 ∧ ∀ k, 10 ≤ k + (i + 1) → k < 10 → ¬ (Prt n cd s k ∧ Wm n cd f s k = v)) ∨ ∃ l, l < 10 ∧ x1 = nI l ∧ (Prt n cd s l ∧ Wm n cd f s l = v) ∧ ∀ k, 10 ≤ k + (i + 1) → k < l → ¬ (Prt n cd s k ∧ Wm n cd f s k = v)) := fun q => by
      rcases hx with ⟨hx, hk⟩ | ⟨l, hl, hx, hp, hk⟩
      · refine Or.inl ⟨hx, fun k h1 h2 => ?_⟩
        by_cases z : k = 9 - i
        · subst z; exact q
        · exact hk k (by omega) h2
      · refine Or.inr ⟨l, hl, hx, hp, fun k h1 h2 => ?_⟩
        by_cases z : k = 9 - i
        · subst z; exact q
        · exact hk k (by omega) h2
    unfold B_X11_surely_57
    have p16 : nP n cd s (9 - i) ≤ 16 := ct_le _ _
    rw [if_neg (nI_pos (by omega)), W.parts0 hs (show 9 - i < 10 by omega), Option.bind_some]
    unfold J_X11_surely_80
    rw [d2]
    by_cases hp : Prt n cd s (9 - i)
    · have hw := Wm_lt hs H hp
      have hnp := nP_prt.mpr hp
      rw [if_neg (show ¬ nI (nP n cd s (9 - i)) ≤ (1 : Int32) from nI_ge (a := 1) hnp (by omega)), if_neg i10, W.sureBy hs (by omega) H hp, Option.bind_some, if_neg (show ¬ oob (nI s) 256 from vp_in_nI h256 (by decide)), nI_clamp (by omega), e]
      by_cases q : Wm n cd f s (9 - i) = v
      · refine ⟨_, ip (by rw [q]) rfl, rfl, Or.inr ⟨9 - i, by omega, rfl, ⟨hp, q⟩, fun k h1 h2 => absurd h1 (by omega)⟩⟩
      · exact ⟨_, ino (fun z => q ((nI_eq (by omega) (by omega)).mp z)) rfl, rfl, next (fun z => q z.2)⟩
    · have hnp : ¬ 1 < nP n cd s (9 - i) := fun q => hp (nP_prt.mp q)
      rw [if_pos (show nI (nP n cd s (9 - i)) ≤ (1 : Int32) from nI_le (b := 1) (by omega) (by decide)), if_pos rfl]
      exact ⟨_, rfl, rfl, next (fun z => hp z.1)⟩
  · obtain ⟨x1, x2⟩ := x
    obtain ⟨q2, hx⟩ := hx
    have q2 : x2 = -1 := q2
    subst q2
    refine ⟨x1, ip (show (-1 : Int32) < 0 from by decide) rfl, ?_⟩
    rcases hx with ⟨hx, hk⟩ | ⟨l, hl, hx, hp, hk⟩
    · exact Or.inl ⟨hx, fun k h => hk k (by omega) h⟩
    · exact Or.inr ⟨l, hl, hx, hp, fun k h => hk k (by omega) h⟩
/-- what is sure, on both sides -/
theorem WR.surely0 {n : Nat} {cd : Nat → Nat} {codes masks alike havers mcodes mmasks : Nat → Int32} (W : WR n cd codes masks alike havers mcodes mmasks) {lf : Nat} (hlf : lf < 2 ^ n) (su ms : Nat → Int32) : ∃ r su2 ms2, f_X6_reckon su (nI n) masks alike (nI lf) = some su2 ∧ f_X6_fewestOf su2 (nI lf) = some r ∧ ((f_X11_isOneAtMost (nI lf) = some 1 ∧ r = 0) ∨ (f_X11_isOneAtMost (nI lf) = some 0 ∧ f_X11_setSure (nI n) (nI lf) mmasks ms = some ms2 ∧ ms2 lf = r)) ∧ ∃ t, f_X6_firstLetter su2 (nI n) masks alike (nI lf) = some t ∧ ((f_X11_isOneAtMost (nI lf) = some 1 ∧ t = -1) ∨ (f_X11_isOneAtMost (nI lf) = some 0 ∧ f_X11_setSure (nI n) (nI lf) mmasks ms = some ms2 ∧ lp (fun v => B_X11_surely_57 (nI n) (nI lf) mmasks ms2 v.1 v.2) KN ((-1 : Int32), (9 : Int32)) = some t)) := by
  have hn := W.hn
  have h256 := lt256 hn hlf
  obtain ⟨su2, ms2, e1, e2, hA⟩ := W.sureRun hlf su ms
  by_cases h0 : lf = 0
  · subst h0
    have one := one_y (p := 0) (by decide) (by decide)
    refine ⟨0, su2, ms2, e1, ip rfl rfl, Or.inl ⟨one, rfl⟩, -1, ?_, Or.inl ⟨one, rfl⟩⟩
    unfold f_X6_firstLetter
    refine b_some (lp_out (o := (1, (0 : Int32))) (show 0 < KN by decide) ?_) (ino (by decide) rfl)
    exact ino (by decide) (ip rfl rfl)
  · obtain ⟨v, hv, q1, q2⟩ := hA lf h0 (by omega) (Nat.and_self lf)
    have c8 := ct_le lf.testBit n
    have H := hA.low hn (show lf ≤ lf + 1 by omega) (Nat.and_self lf)
    obtain ⟨r, f1, f2⟩ := W.firstC hlf h0 H (show v ≤ 8 by omega) q1
    have fe : f_X6_fewestOf su2 (nI lf) = some (nI v) := by rw [fewestOf_eq h0 h256, q1]
    by_cases h1 : pcN lf 10 ≤ 1
    · have one := one_y (p := lf) (by omega) h1
      rw [pc_n (by omega) hlf] at h1
      have v0 : v = 0 := by omega
      subst v0
      refine ⟨_, su2, ms2, e1, fe, Or.inl ⟨one, rfl⟩, r, f1, Or.inl ⟨one, ?_⟩⟩
      rcases f2 with ⟨rfl, -⟩ | ⟨l, hl, rfl, ⟨⟨a, b, ha, hb, ba, bb, ne⟩, -⟩, -⟩
      · rfl
      · rcases Nat.lt_trichotomy a b with z | z | z
        · have := ct_ge2 z hb ba bb; omega
        · subst z; exact absurd rfl ne
        · have := ct_ge2 z ha bb ba; omega
    · have one := one_n (p := lf) (by omega) h1
      obtain ⟨r2, g1, g2⟩ := W.firstM hlf H (show v ≤ 8 by omega) q2
      have := f2.uniq g2
      subst this
      exact ⟨_, su2, ms2, e1, fe, Or.inr ⟨one, e2, q2⟩, r, f1, Or.inr ⟨one, e2, g1⟩⟩
