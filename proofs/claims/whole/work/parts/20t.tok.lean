/-! the text, and what stands in it: runs, numbers, tokens -/
def TX (tn : Nat) (tx : Nat → Nat) (kb mt : Nat → Int32) : Prop := tn ≤ 150 ∧ ∀ j, j < tn → tx j < 128 ∧ kb j = nI (tx j) ∧ mt j = nI (tx j)
/-- of a sort -/
def qR (tn : Nat) (tx : Nat → Nat) (lo hi j : Nat) : Bool := decide (j < tn) && (decide (lo ≤ tx j) && decide (tx j ≤ hi))
theorem qR_t {tn : Nat} {tx : Nat → Nat} {lo hi j : Nat} : qR tn tx lo hi j = true ↔ j < tn ∧ lo ≤ tx j ∧ tx j ≤ hi := by
  unfold qR
  rw [Bool.and_eq_true, Bool.and_eq_true, decide_eq_true_eq, decide_eq_true_eq, decide_eq_true_eq]
/-- where a run ends -/
def rE (q : Nat → Bool) : Nat → Nat → Nat
  | 0, s => s
  | d + 1, s => if q s then rE q d (s + 1) else s
theorem rE_t {q : Nat → Bool} {d s : Nat} (h : q s = true) : rE q (d + 1) s = rE q d (s + 1) := by
  show (if q s then rE q d (s + 1) else s) = _
  rw [if_pos h]
theorem rE_f {q : Nat → Bool} {d s : Nat} (h : ¬ q s = true) : rE q (d + 1) s = s := by
  show (if q s then rE q d (s + 1) else s) = _
  rw [if_neg h]
theorem rE_le (q : Nat → Bool) : ∀ d s, s ≤ rE q d s ∧ rE q d s ≤ s + d
  | 0, s => ⟨Nat.le_refl _, Nat.le_refl _⟩
  | d + 1, s => by
    by_cases h : q s = true
    · rw [rE_t h]
      have := rE_le q d (s + 1)
      omega
    · rw [rE_f h]
      omega
theorem rE_in (q : Nat → Bool) : ∀ d s j, s ≤ j → j < rE q d s → q j = true
  | 0, s, j, h1, h2 => absurd h2 (by show ¬ j < s; omega)
  | d + 1, s, j, h1, h2 => by
    by_cases h : q s = true
    · rw [rE_t h] at h2
      by_cases e : j = s
      · rw [e]; exact h
      · exact rE_in q d (s + 1) j (by omega) h2
    · rw [rE_f h] at h2
      omega
theorem rE_end (q : Nat → Bool) : ∀ d s, rE q d s = s + d ∨ ¬ q (rE q d s) = true
  | 0, s => Or.inl rfl
  | d + 1, s => by
    by_cases h : q s = true
    · rw [rE_t h]
      rcases rE_end q d (s + 1) with e | e
      · exact Or.inl (by omega)
      · exact Or.inr e
    · rw [rE_f h]
      exact Or.inr h
def eR (tn : Nat) (tx : Nat → Nat) (lo hi s : Nat) : Nat := rE (qR tn tx lo hi) (tn - s) s
theorem eR_le {tn : Nat} (tx : Nat → Nat) (lo hi : Nat) {s : Nat} (h : s ≤ tn) : s ≤ eR tn tx lo hi s ∧ eR tn tx lo hi s ≤ tn := by
  have := rE_le (qR tn tx lo hi) (tn - s) s
  unfold eR
  omega
theorem eR_in {tn : Nat} {tx : Nat → Nat} {lo hi s j : Nat} (h1 : s ≤ j) (h2 : j < eR tn tx lo hi s) : j < tn ∧ lo ≤ tx j ∧ tx j ≤ hi := qR_t.mp (rE_in _ _ s j h1 h2)
theorem eR_end {tn : Nat} {tx : Nat → Nat} {lo hi s : Nat} (h : s ≤ tn) : eR tn tx lo hi s = tn ∨ ¬ (lo ≤ tx (eR tn tx lo hi s) ∧ tx (eR tn tx lo hi s) ≤ hi) := by
  have hl := (eR_le tx lo hi h).2
  rcases rE_end (qR tn tx lo hi) (tn - s) s with e | e
  · exact Or.inl (by unfold eR; omega)
  · by_cases z : eR tn tx lo hi s = tn
    · exact Or.inl z
    · exact Or.inr fun q => e (qR_t.mpr ⟨show eR tn tx lo hi s < tn by omega, q⟩)
theorem eR_stop {tn : Nat} {tx : Nat → Nat} {lo hi s : Nat} (h : ¬ qR tn tx lo hi s = true) : eR tn tx lo hi s = s := by
  unfold eR
  cases hd : tn - s with
  | zero => rfl
  | succ d => exact rE_f h
theorem eR_go {tn : Nat} {tx : Nat → Nat} {lo hi s : Nat} (h : qR tn tx lo hi s = true) : s + 1 ≤ eR tn tx lo hi s := by
  have := (qR_t.mp h).1
  unfold eR
  obtain ⟨d, hd⟩ : ∃ d, tn - s = d + 1 := ⟨tn - s - 1, by omega⟩
  rw [hd, rE_t h]
  exact (rE_le _ _ _).1
theorem eR_idem {tn : Nat} {tx : Nat → Nat} {lo hi s : Nat} (h : s ≤ tn) : eR tn tx lo hi (eR tn tx lo hi s) = eR tn tx lo hi s := by
  apply eR_stop
  intro q
  have q := qR_t.mp q
  rcases eR_end (tx := tx) (lo := lo) (hi := hi) h with e | e
  · omega
  · exact e q.2
/-- blanks are gone over -/
def sk (tn : Nat) (tx : Nat → Nat) (s : Nat) : Nat := eR tn tx 32 32 s
theorem sk_le {tn : Nat} (tx : Nat → Nat) {s : Nat} (h : s ≤ tn) : s ≤ sk tn tx s ∧ sk tn tx s ≤ tn := eR_le tx 32 32 h
theorem sk_idem {tn : Nat} {tx : Nat → Nat} {s : Nat} (h : s ≤ tn) : sk tn tx (sk tn tx s) = sk tn tx s := eR_idem h
theorem sk_ne {tn : Nat} {tx : Nat → Nat} {s : Nat} (h : s ≤ tn) (h2 : sk tn tx s < tn) : tx (sk tn tx s) ≠ 32 := fun e => by
  rcases eR_end (tx := tx) (lo := 32) (hi := 32) h with q | q
  · exact absurd h2 (by show ¬ eR tn tx 32 32 s < tn; omega)
  · exact q ⟨Nat.le_of_eq e.symm, Nat.le_of_eq e⟩
theorem endOfRun_eq {tn : Nat} {tx : Nat → Nat} {kb mt : Nat → Int32} (T : TX tn tx kb mt) {lo hi s : Nat} (hs : s ≤ tn) (hlo : lo < 1000) (hhi : hi < 1000) : f_X8_endOfRun (nI tn) kb (nI s) (nI lo) (nI hi) = some (nI (eR tn tx lo hi s)) := by
  have h150 := T.1
  have L : ∀ d s F, s + d = tn → d < F → lp (fun v => B_X8_endOfRun_3 (nI tn) kb (nI lo) (nI hi) v) F (nI s) = some (nI (rE (qR tn tx lo hi) d s)) := by
    intro d
    induction d with
    | zero =>
      intro s F h hF
      exact lp_out hF (ip (nI_le (by omega) (by omega)) rfl)
    | succ d ih =>
      intro s F h hF
      obtain ⟨F, rfl⟩ : ∃ G, F = G + 1 := ⟨F - 1, by omega⟩
      obtain ⟨t1, t2, -⟩ := T.2 s (by omega)
      have o1 : ¬ oob (nI s) 150 := vp_in_nI (by omega) (by decide)
      have g1 : ¬ nI tn ≤ nI s := nI_ge (by omega) (by omega)
      have g2 : ¬ (150 : Int32) ≤ nI s := nI_ge (b := 150) (by omega) (by decide)
      have cl : (nI s).toNatClampNeg = s := nI_clamp (by omega)
      by_cases q : qR tn tx lo hi s = true
      · rw [rE_t q, ← ih (s + 1) F (by omega) (by omega)]
        have q := qR_t.mp q
        apply lp_one
        show B_X8_endOfRun_3 (nI tn) kb (nI lo) (nI hi) (nI s) = _
        unfold B_X8_endOfRun_3
        refine ino g1 (ino g2 (ino o1 (ino ?_ (ino o1 (ino ?_ ?_)))))
        · rw [cl, t2]; exact nI_nlt q.2.1 (by omega)
        · rw [cl, t2]; exact nI_nlt q.2.2 (by omega)
        · rw [nI_1]
      · rw [rE_f q]
        apply lp_out (by omega)
        show B_X8_endOfRun_3 (nI tn) kb (nI lo) (nI hi) (nI s) = _
        unfold B_X8_endOfRun_3
        by_cases c : lo ≤ tx s
        · by_cases c2 : tx s ≤ hi
          · exact absurd (qR_t.mpr ⟨by omega, c, c2⟩) q
          · refine ino g1 (ino g2 (ino o1 (ino ?_ (ino o1 (ip ?_ rfl)))))
            · rw [cl, t2]; exact nI_nlt c (by omega)
            · rw [cl, t2]; exact nI_lt (by omega) (by omega)
        · refine ino g1 (ino g2 (ino o1 (ip ?_ rfl)))
          rw [cl, t2]
          exact nI_lt (by omega) (by omega)
  exact b_some (L (tn - s) s KN (by omega) (by show tn - s < 2000; omega)) rfl
theorem here_eq {tn : Nat} {tx : Nat → Nat} {kb mt : Nat → Int32} (T : TX tn tx kb mt) {s : Nat} (h : s < tn) : f_X11_here (nI tn) (nI s) mt = some (nI (tx s)) := by
  have h150 := T.1
  obtain ⟨t1, -, t2⟩ := T.2 s h
  unfold f_X11_here
  refine ino (nI_ge h (by omega)) (ino (vp_in_nI (by omega) (by decide)) ?_)
  rw [nI_clamp (by omega), t2]
theorem here_end {tn : Nat} (mt : Nat → Int32) (h : tn < 1000) : f_X11_here (nI tn) (nI tn) mt = some (-1) := ip (nI_le (Nat.le_refl _) (by omega)) rfl
theorem skip_eq {tn : Nat} {tx : Nat → Nat} {kb mt : Nat → Int32} (T : TX tn tx kb mt) {s : Nat} (hs : s ≤ tn) : f_X11_skip (nI tn) (nI s) mt = some (nI (sk tn tx s)) := by
  have h150 := T.1
  have L : ∀ d s F, s + d = tn → d < F → lp (fun v => B_X11_skip_0 (nI tn) mt v) F (nI s) = some (nI (rE (qR tn tx 32 32) d s)) := by
    intro d
    induction d with
    | zero =>
      intro s F h hF
      have : s = tn := by omega
      subst this
      exact lp_out hF (b_some (here_end mt (by omega)) (ino (by decide) rfl))
    | succ d ih =>
      intro s F h hF
      obtain ⟨F, rfl⟩ : ∃ G, F = G + 1 := ⟨F - 1, by omega⟩
      obtain ⟨t1, -, -⟩ := T.2 s (by omega)
      have hh := here_eq T (show s < tn by omega)
      by_cases q : qR tn tx 32 32 s = true
      · rw [rE_t q, ← ih (s + 1) F (by omega) (by omega)]
        have q := qR_t.mp q
        have e : tx s = 32 := by omega
        apply lp_one
        show B_X11_skip_0 (nI tn) mt (nI s) = _
        unfold B_X11_skip_0
        refine b_some hh (ip (by rw [e]; rfl) ?_)
        rw [nI_1]
      · rw [rE_f q]
        apply lp_out (by omega)
        show B_X11_skip_0 (nI tn) mt (nI s) = _
        unfold B_X11_skip_0
        refine b_some hh (ino (fun e => ?_) rfl)
        have e := (nI_eq (b := 32) (by omega) (by decide)).mp e
        exact q (qR_t.mpr ⟨by omega, by omega, by omega⟩)
  exact b_some (L (tn - s) s KN (by omega) (by show tn - s < 2000; omega)) rfl
theorem in_t {v lo hi : Nat} (h1 : lo ≤ v) (h2 : v ≤ hi) (hb : hi < 2 ^ 31) : f_X11_in (nI v) (nI lo) (nI hi) = some 1 := by
  unfold f_X11_in
  exact ino (nI_nlt h1 (by omega)) (ino (nI_nlt h2 hb) rfl)
theorem in_f {v lo hi : Nat} (h : ¬ (lo ≤ v ∧ v ≤ hi)) (hv : v < 2 ^ 31) (hl : lo < 2 ^ 31) : f_X11_in (nI v) (nI lo) (nI hi) = some 0 := by
  unfold f_X11_in
  by_cases c : v < lo
  · exact ip (nI_lt c hl) rfl
  · exact ino (nI_nlt (by omega) hv) (ip (nI_lt (by omega) hv) rfl)
theorem isLetter_eq {v : Nat} (hv : v < 128) : f_X11_isLetter (nI v) = some (if 97 ≤ v ∧ v ≤ 122 then 1 else 0) := by
  unfold f_X11_isLetter
  by_cases c : 97 ≤ v ∧ v ≤ 122
  · rw [if_pos c]
    exact b_some (in_t (lo := 97) (hi := 122) c.1 c.2 (by decide)) (ip (Or.inr rfl) rfl)
  · rw [if_neg c]
    exact b_some (in_f (lo := 97) (hi := 122) c (by omega) (by decide)) (ip (Or.inl rfl) rfl)
theorem isFigure_eq {v : Nat} (hv : v < 128) : f_X11_isFigure (nI v) = some (if 48 ≤ v ∧ v ≤ 57 then 1 else 0) := by
  unfold f_X11_isFigure
  by_cases c : 48 ≤ v ∧ v ≤ 57
  · rw [if_pos c]
    exact b_some (in_t (lo := 48) (hi := 57) c.1 c.2 (by decide)) (ip (Or.inr rfl) rfl)
  · rw [if_neg c]
    exact b_some (in_f (lo := 48) (hi := 57) c (by omega) (by decide)) (ip (Or.inl rfl) rfl)
/-- where a word ends -/
def wE (tn : Nat) (tx : Nat → Nat) (s : Nat) : Nat := eR tn tx 97 122 s
/-- where a number ends -/
def nE (tn : Nat) (tx : Nat → Nat) (s : Nat) : Nat := eR tn tx 48 57 s
theorem wordSize_eq {tn : Nat} {tx : Nat → Nat} {kb mt : Nat → Int32} (T : TX tn tx kb mt) {p : Nat} (hp : p ≤ tn) : f_X11_wordSize (nI tn) (nI p) mt = some (nI (wE tn tx p - p)) := by
  have h150 := T.1
  have L : ∀ d x F, p + x + d = tn → d < F → lp (fun v => B_X11_wordSize_2 (nI tn) (nI p) mt v) F (nI x) = some (nI (rE (qR tn tx 97 122) d (p + x) - p)) := by
    intro d
    induction d with
    | zero =>
      intro x F h hF
      apply lp_out hF
      show B_X11_wordSize_2 (nI tn) (nI p) mt (nI x) = _
      unfold B_X11_wordSize_2
      rw [nI_add]
      refine ip (nI_le (by omega) (by omega)) ?_
      show _ = some (Sum.inr (nI (p + x - p)))
      rw [Nat.add_sub_cancel_left]
    | succ d ih =>
      intro x F h hF
      obtain ⟨F, rfl⟩ : ∃ G, F = G + 1 := ⟨F - 1, by omega⟩
      obtain ⟨t1, -, t2⟩ := T.2 (p + x) (by omega)
      have hl := isLetter_eq t1
      by_cases q : qR tn tx 97 122 (p + x) = true
      · rw [rE_t q, show p + x + 1 = p + (x + 1) by omega, ← ih (x + 1) F (by omega) (by omega)]
        have q := qR_t.mp q
        rw [if_pos q.2] at hl
        apply lp_one
        show B_X11_wordSize_2 (nI tn) (nI p) mt (nI x) = _
        unfold B_X11_wordSize_2
        rw [nI_add, nI_1]
        refine ino (nI_ge (by omega) (by omega)) (ino (vp_in_nI (by omega) (by decide)) ?_)
        rw [nI_clamp (by omega), t2]
        exact b_some hl (ino i10 rfl)
      · rw [rE_f q]
        rw [if_neg (fun z => q (qR_t.mpr ⟨by omega, z⟩))] at hl
        apply lp_out (by omega)
        show B_X11_wordSize_2 (nI tn) (nI p) mt (nI x) = _
        unfold B_X11_wordSize_2
        rw [nI_add, Nat.add_sub_cancel_left]
        refine ino (nI_ge (by omega) (by omega)) (ino (vp_in_nI (by omega) (by decide)) ?_)
        rw [nI_clamp (by omega), t2]
        exact b_some hl (ip rfl rfl)
  exact b_some (L (tn - p) 0 KN (by omega) (by show tn - p < 2000; omega)) rfl
/-- a number, by its figures -/
def nV (tx : Nat → Nat) (p : Nat) : Nat → Nat
  | 0 => 0
  | 1 => tx p - 48
  | _ + 2 => 10 * (tx p - 48) + (tx (p + 1) - 48)
theorem dig_eq {a b : Nat} (h : 48 ≤ b) : (10 : Int32) * nI a + nI b - (48 : Int32) = nI (10 * a + (b - 48)) := by
  rw [show (10 : Int32) = nI 10 from rfl, show (48 : Int32) = nI 48 from rfl, pk_mul, nI_add, pk_sub (by omega)]
  congr 1
  omega
theorem nV_s {tx : Nat → Nat} {p x : Nat} (h : x < 2) : nV tx p (x + 1) = 10 * nV tx p x + (tx (p + x) - 48) := by
  rcases (show x = 0 ∨ x = 1 by omega) with rfl | rfl
  · show tx p - 48 = 10 * 0 + (tx (p + 0) - 48)
    rw [Nat.add_zero]
    omega
  · rfl
theorem nV_2 {tx : Nat → Nat} {p x : Nat} (h : 2 ≤ x) : nV tx p (x + 1) = nV tx p x := by
  obtain ⟨y, rfl⟩ : ∃ y, x = y + 2 := ⟨x - 2, by omega⟩
  rfl
theorem numL_eq {tn : Nat} {tx : Nat → Nat} {kb mt : Nat → Int32} (T : TX tn tx kb mt) {p : Nat} (hp : p ≤ tn) : lp (fun v => B_X11_number_9 (nI tn) (nI p) mt v.1 v.2) KN ((0 : Int32), (0 : Int32)) = some (nI (nE tn tx p - p), nI (nV tx p (nE tn tx p - p))) := by
  have h150 := T.1
  have L : ∀ d x F, p + x + d = tn → d < F → lp (fun v => B_X11_number_9 (nI tn) (nI p) mt v.1 v.2) F (nI x, nI (nV tx p x)) = some (nI (rE (qR tn tx 48 57) d (p + x) - p), nI (nV tx p (rE (qR tn tx 48 57) d (p + x) - p))) := by
    intro d
    induction d with
    | zero =>
      intro x F h hF
      apply lp_out hF
      show B_X11_number_9 (nI tn) (nI p) mt (nI x) (nI (nV tx p x)) = _
      unfold B_X11_number_9
      rw [nI_add]
      refine ip (nI_le (by omega) (by omega)) ?_
      show _ = some (Sum.inr (nI (p + x - p), nI (nV tx p (p + x - p))))
      rw [Nat.add_sub_cancel_left]
    | succ d ih =>
      intro x F h hF
      obtain ⟨F, rfl⟩ : ∃ G, F = G + 1 := ⟨F - 1, by omega⟩
      obtain ⟨t1, -, t2⟩ := T.2 (p + x) (by omega)
      have hl := isFigure_eq t1
      have o1 : ¬ oob (nI (p + x)) 150 := vp_in_nI (by omega) (by decide)
      by_cases q : qR tn tx 48 57 (p + x) = true
      · rw [rE_t q, show p + x + 1 = p + (x + 1) by omega, ← ih (x + 1) F (by omega) (by omega)]
        have q := qR_t.mp q
        rw [if_pos q.2] at hl
        apply lp_one
        show B_X11_number_9 (nI tn) (nI p) mt (nI x) (nI (nV tx p x)) = _
        unfold B_X11_number_9
        rw [nI_add, nI_1]
        refine ino (nI_ge (by omega) (by omega)) (ino o1 ?_)
        rw [if_neg o1, nI_clamp (by omega), t2]
        refine b_some hl (ino i10 ?_)
        by_cases c : 2 ≤ x
        · rw [nV_2 c]
          exact ip (nI_le (a := 2) c (by omega)) rfl
        · rw [nV_s (by omega), dig_eq q.2.1]
          exact ino (nI_ge (b := 2) (by omega) (by decide)) (b_some rfl rfl)
      · rw [rE_f q]
        rw [if_neg (fun z => q (qR_t.mpr ⟨by omega, z⟩))] at hl
        apply lp_out (by omega)
        show B_X11_number_9 (nI tn) (nI p) mt (nI x) (nI (nV tx p x)) = _
        unfold B_X11_number_9
        rw [nI_add, Nat.add_sub_cancel_left]
        refine ino (nI_ge (by omega) (by omega)) (ino o1 ?_)
        rw [if_neg o1, nI_clamp (by omega), t2]
        exact b_some hl (ip rfl rfl)
  exact L (tn - p) 0 KN (by omega) (by show tn - p < 2000; omega)
theorem takeNumber_lo {tn : Nat} {tx : Nat → Nat} {kb mt : Nat → Int32} (T : TX tn tx kb mt) {p : Nat} (hp : p ≤ tn) (h : nE tn tx p - p ≤ 2) : f_X8_takeNumber (nI p) (nI (nE tn tx p)) kb = some (2, nI (nV tx p (nE tn tx p - p))) := by
  have h150 := T.1
  have hl : p ≤ nE tn tx p ∧ nE tn tx p ≤ tn := eR_le tx 48 57 hp
  unfold f_X8_takeNumber
  rw [pk_sub hl.1]
  refine ino (show ¬ (2 : Int32) < nI _ from nI_nlt (a := 2) h (by decide)) ?_
  unfold J_X8_takeNumber_19
  refine b_some (lp_run (o := nI (nV tx p (nE tn tx p - p))) (fun i => (nI (p + i), nI (nV tx p i))) (nE tn tx p - p) rfl (by omega) (fun i hi => ?_) ?_) rfl
  · show B_X8_takeNumber_32 2 (nI (nE tn tx p)) kb (nI (p + i)) (nI (nV tx p i)) = some (.inl (nI (p + (i + 1)), nI (nV tx p (i + 1))))
    unfold B_X8_takeNumber_32
    have q : p + i < tn ∧ 48 ≤ tx (p + i) ∧ tx (p + i) ≤ 57 := eR_in (by omega) (show p + i < eR tn tx 48 57 p from by show p + i < nE tn tx p; omega)
    obtain ⟨t1, t2, -⟩ := T.2 (p + i) q.1
    refine ino (nI_ge (by omega) (by omega)) (ip rfl (ino (vp_in_nI (by omega) (by decide)) ?_))
    rw [nI_clamp (by omega), t2, dig_eq q.2.1, nI_1, ← nV_s (by omega)]
    rfl
  · show B_X8_takeNumber_32 2 (nI (nE tn tx p)) kb (nI (p + (nE tn tx p - p))) _ = _
    unfold B_X8_takeNumber_32
    exact ip (nI_le (by omega) (by omega)) rfl
theorem takeNumber_hi {tn : Nat} {tx : Nat → Nat} {kb mt : Nat → Int32} (T : TX tn tx kb mt) {p : Nat} (hp : p ≤ tn) (h : ¬ nE tn tx p - p ≤ 2) : f_X8_takeNumber (nI p) (nI (nE tn tx p)) kb = some (4, 0) := by
  have h150 := T.1
  have hl : p ≤ nE tn tx p ∧ nE tn tx p ≤ tn := eR_le tx 48 57 hp
  unfold f_X8_takeNumber
  rw [pk_sub hl.1]
  refine ip (show (2 : Int32) < nI _ from nI_lt (a := 2) (by omega) (by omega)) ?_
  unfold J_X8_takeNumber_19
  refine b_some (lp_out (o := (0 : Int32)) (by decide) ?_) rfl
  show B_X8_takeNumber_32 4 (nI (nE tn tx p)) kb (nI p) 0 = _
  unfold B_X8_takeNumber_32
  exact ino (nI_ge (by omega) (by omega)) (ino (by decide) rfl)
/-- what stands at a place: its sort, where it ends -/
def Tok (tn : Nat) (tx : Nat → Nat) (p : Nat) (so be : Int32) : Prop := (p = tn ∧ so = 0) ∨ (p < tn ∧ ((97 ≤ tx p ∧ tx p ≤ 122 ∧ so = 1 ∧ be = nI (wE tn tx p)) ∨ (¬ (97 ≤ tx p ∧ tx p ≤ 122) ∧ (so = 2 ∨ so = 3 ∨ so = 4))))
theorem step_all {tn : Nat} {tx : Nat → Nat} {kb mt : Nat → Int32} (T : TX tn tx kb mt) {b : Nat} (hb : b ≤ tn) (num : Int32) : ∃ so nu be, f_X8_step (nI tn) num (nI b) kb = some (nI (sk tn tx b), so, nu, be) ∧ Tok tn tx (sk tn tx b) so be ∧ ((so = 2 ∧ sk tn tx b < tn ∧ 48 ≤ tx (sk tn tx b) ∧ tx (sk tn tx b) ≤ 57 ∧ nE tn tx (sk tn tx b) - sk tn tx b ≤ 2 ∧ nu = nI (nV tx (sk tn tx b) (nE tn tx (sk tn tx b) - sk tn tx b)) ∧ be = nI (nE tn tx (sk tn tx b))) ∨ (so ≠ 2 ∧ (sk tn tx b = tn ∨ ¬ (48 ≤ tx (sk tn tx b) ∧ tx (sk tn tx b) ≤ 57) ∨ ¬ nE tn tx (sk tn tx b) - sk tn tx b ≤ 2))) ∧ ((so = 3 ∧ sk tn tx b < tn ∧ tx (sk tn tx b) = 59 ∧ be = nI (sk tn tx b + 1)) ∨ (so ≠ 3 ∧ (sk tn tx b = tn ∨ tx (sk tn tx b) ≠ 59))) := by
  have h150 := T.1
  have hp := sk_le tx hb
  obtain ⟨p, hpe⟩ : ∃ p, p = sk tn tx b := ⟨_, rfl⟩
  unfold f_X8_step
  have he : f_X8_endOfRun (nI tn) kb (nI b) (32 : Int32) (32 : Int32) = some (nI (sk tn tx b)) := endOfRun_eq T hb (lo := 32) (hi := 32) (by decide) (by decide)
  rw [he, Option.bind_some]
  rw [← hpe] at hp ⊢
  by_cases c : p = tn
  · rw [if_pos (show nI tn ≤ nI p from nI_le (by omega) (by omega))]
    unfold J_X8_step_40
    exact ⟨0, num, nI p, ino (by decide) rfl, Or.inl ⟨c, rfl⟩, Or.inr ⟨by decide, Or.inl c⟩, Or.inr ⟨by decide, Or.inl c⟩⟩
  · have hlt : p < tn := by omega
    obtain ⟨t1, t2, -⟩ := T.2 p hlt
    rw [if_neg (show ¬ nI tn ≤ nI p from nI_ge hlt (by omega)), if_neg (show ¬ oob (nI p) 150 from vp_in_nI (by omega) (by decide)), nI_clamp (by omega), t2]
    unfold J_X8_step_40
    rw [if_pos (nI_pos' (by omega))]
    by_cases l : 97 ≤ tx p ∧ tx p ≤ 122
    · rw [if_neg (show ¬ nI (tx p) < (97 : Int32) from nI_nlt (b := 97) l.1 (by omega)), if_neg (show ¬ (122 : Int32) < nI (tx p) from nI_nlt (a := 122) l.2 (by decide))]
      have hw : f_X8_endOfRun (nI tn) kb (nI p) (97 : Int32) (122 : Int32) = some (nI (wE tn tx p)) := endOfRun_eq T (by omega) (lo := 97) (hi := 122) (by decide) (by decide)
      exact ⟨1, num, nI (wE tn tx p), b_some hw rfl, Or.inr ⟨hlt, Or.inl ⟨l.1, l.2, rfl, rfl⟩⟩, Or.inr ⟨by decide, Or.inr (Or.inl (by omega))⟩, Or.inr ⟨by decide, Or.inr (by omega)⟩⟩
    · have J97 : ∀ z, J_X8_step_97 (nI tn) (nI p) num kb (nI (tx p)) = z → (if nI (tx p) < (97 : Int32) then J_X8_step_97 (nI tn) (nI p) num kb (nI (tx p)) else (if (122 : Int32) < nI (tx p) then J_X8_step_97 (nI tn) (nI p) num kb (nI (tx p)) else ((f_X8_endOfRun (nI tn) kb (nI p) (97 : Int32) (122 : Int32)).bind fun o14 => some (nI p, (1 : Int32), num, o14)))) = z := by
        intro z hz
        by_cases a : tx p < 97
        · exact ip (nI_lt (b := 97) a (by decide)) hz
        · exact ino (nI_nlt (b := 97) (by omega) (by omega)) (ip (nI_lt (a := 122) (by omega) (by omega)) hz)
      have J132 : ∃ so be, J_X8_step_132 (nI p) num (nI (tx p)) = some (nI p, so, num, be) ∧ (so = 3 ∨ so = 4) ∧ ((so = 3 ∧ tx p = 59 ∧ be = nI (p + 1)) ∨ (so ≠ 3 ∧ tx p ≠ 59)) := by
        unfold J_X8_step_132
        rw [nI_1]
        by_cases s : tx p = 59
        · exact ⟨3, nI (p + 1), ip (by rw [s]; rfl) rfl, Or.inl rfl, Or.inl ⟨rfl, s, rfl⟩⟩
        · exact ⟨4, nI (p + 1), ino (fun e => s ((nI_eq (b := 59) (by omega) (by decide)).mp e)) rfl, Or.inr rfl, Or.inr ⟨by decide, s⟩⟩
      by_cases f : 48 ≤ tx p ∧ tx p ≤ 57
      · have hn : f_X8_endOfRun (nI tn) kb (nI p) (48 : Int32) (57 : Int32) = some (nI (nE tn tx p)) := endOfRun_eq T (by omega) (lo := 48) (hi := 57) (by decide) (by decide)
        have g1 : ¬ nI (tx p) < (48 : Int32) := nI_nlt (b := 48) f.1 (by omega)
        have g2 : ¬ (57 : Int32) < nI (tx p) := nI_nlt (a := 57) f.2 (by decide)
        by_cases s2 : nE tn tx p - p ≤ 2
        · exact ⟨2, nI (nV tx p (nE tn tx p - p)), nI (nE tn tx p), J97 _ (ino g1 (ino g2 (b_some hn (b_some (takeNumber_lo T (by omega) s2) rfl)))), Or.inr ⟨hlt, Or.inr ⟨l, Or.inl rfl⟩⟩, Or.inl ⟨rfl, hlt, f.1, f.2, s2, rfl, rfl⟩, Or.inr ⟨by decide, Or.inr (by omega)⟩⟩
        · exact ⟨4, 0, nI (nE tn tx p), J97 _ (ino g1 (ino g2 (b_some hn (b_some (takeNumber_hi T (by omega) s2) rfl)))), Or.inr ⟨hlt, Or.inr ⟨l, Or.inr (Or.inr rfl)⟩⟩, Or.inr ⟨by decide, Or.inr (Or.inr s2)⟩, Or.inr ⟨by decide, Or.inr (by omega)⟩⟩
      · obtain ⟨so, be, e, so34, q⟩ := J132
        have J : J_X8_step_97 (nI tn) (nI p) num kb (nI (tx p)) = some (nI p, so, num, be) := by
          unfold J_X8_step_97
          by_cases a : tx p < 48
          · exact ip (nI_lt (b := 48) a (by decide)) e
          · exact ino (nI_nlt (b := 48) (by omega) (by omega)) (ip (nI_lt (a := 57) (by omega) (by omega)) e)
        refine ⟨so, num, be, J97 _ J, Or.inr ⟨hlt, Or.inr ⟨l, Or.inr so34⟩⟩, Or.inr ⟨by rcases so34 with rfl | rfl <;> decide, Or.inr (Or.inl f)⟩, ?_⟩
        rcases q with ⟨q1, q2, q3⟩ | ⟨q1, q2⟩
        · exact Or.inl ⟨q1, hlt, q2, q3⟩
        · exact Or.inr ⟨q1, Or.inr q2⟩
