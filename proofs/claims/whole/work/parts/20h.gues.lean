/-! what guessers guess -/
theorem ct_split (p q : Nat → Bool) : ∀ n, ct p n = ct (fun w => p w && q w) n + ct (fun w => p w && !(q w)) n
  | 0 => rfl
  | n + 1 => by
    show ct p n + (if p n then 1 else 0) = (ct (fun w => p w && q w) n + (if (p n && q n) then 1 else 0)) + (ct (fun w => p w && !(q w)) n + (if (p n && !(q n)) then 1 else 0))
    have := ct_split p q n
    cases hp : p n <;> cases hq : q n <;> simp <;> omega
theorem half_y {x3 x4 y : Int32} {i : Nat} (h : x4 ≤ y) : J_X11_halving_59 x3 x4 (nI i) y = some (.inl (x3, x4, nI (i + 1))) := by
  unfold J_X11_halving_59
  rw [if_pos h, if_pos h, nI_1]
theorem half_n {x3 x4 y : Int32} {i : Nat} (h : ¬ x4 ≤ y) : J_X11_halving_59 x3 x4 (nI i) y = some (.inl (nI i, y, nI (i + 1))) := by
  unfold J_X11_halving_59
  rw [if_neg h, if_neg h, nI_1]
/-- how many of a set have a letter -/
def hL (n : Nat) (cd : Nat → Nat) (lf l : Nat) : Nat := ct (fun w => lf.testBit w && (mkm (cd w) l != 0)) n
theorem hL_sum (n : Nat) (cd : Nat → Nat) (lf l : Nat) : ct lf.testBit n = cM n cd lf l 0 + hL n cd lf l := ct_split lf.testBit (fun w => mkm (cd w) l == 0) n
theorem abs1 : ∀ a : Fin 17, ∀ b : Fin 9, (if 0 ≤ nI a.val - nI b.val then nI a.val - nI b.val else 0 - (nI a.val - nI b.val)) = nI (if b.val ≤ a.val then a.val - b.val else b.val - a.val) := by decide +kernel
theorem abs2 : ∀ a : Fin 17, ∀ b : Fin 9, (b.val ≤ a.val → (0 ≤ nI a.val - nI b.val ∧ nI a.val - nI b.val = nI (a.val - b.val))) ∧ (a.val < b.val → (¬ 0 ≤ nI a.val - nI b.val ∧ -(nI a.val - nI b.val) = nI (b.val - a.val))) := by decide +kernel
theorem row_all : ∀ g : Fin 1024, f_X2_row (nI g.val) = f_X11_letterNotOf (nI g.val) 0 ∧ ((f_X2_row (nI g.val) = some (-1) ∧ g.val = 1023) ∨ ∃ l : Fin 10, f_X2_row (nI g.val) = some (nI l.val) ∧ g.val.testBit l.val = false) := by decide +kernel
theorem last_all : ∀ g : Fin 1024, f_X2_last (nI g.val) = f_X11_letterNotOf (nI g.val) 1 ∧ ((f_X2_last (nI g.val) = some (-1) ∧ g.val = 1023) ∨ ∃ l : Fin 10, f_X2_last (nI g.val) = some (nI l.val) ∧ g.val.testBit l.val = false) := by decide +kernel
theorem all10 : ∀ l, l < 10 → (1023 : Nat).testBit l = true := by decide
/-- a letter not guessed, or none if all are -/
def Free (gs : Nat) (r : Int32) : Prop := (r = -1 ∧ ∀ l, l < 10 → gs.testBit l = true) ∨ ∃ l, l < 10 ∧ r = nI l ∧ gs.testBit l = false
theorem row_sim {gs : Nat} (h : gs < 1024) : ∃ r, f_X2_row (nI gs) = some r ∧ f_X11_letterNotOf (nI gs) 0 = some r ∧ Free gs r := by
  obtain ⟨e, q⟩ := row_all ⟨gs, h⟩
  have e : f_X2_row (nI gs) = f_X11_letterNotOf (nI gs) 0 := e
  rcases q with ⟨q, z⟩ | ⟨l, q, z⟩
  · exact ⟨-1, q, e.symm.trans q, Or.inl ⟨rfl, fun l hl => by rw [show gs = 1023 from z]; exact all10 l hl⟩⟩
  · exact ⟨nI l.val, q, e.symm.trans q, Or.inr ⟨l.val, l.isLt, rfl, z⟩⟩
theorem last_sim {gs : Nat} (h : gs < 1024) : ∃ r, f_X2_last (nI gs) = some r ∧ f_X11_letterNotOf (nI gs) 1 = some r ∧ Free gs r := by
  obtain ⟨e, q⟩ := last_all ⟨gs, h⟩
  have e : f_X2_last (nI gs) = f_X11_letterNotOf (nI gs) 1 := e
  rcases q with ⟨q, z⟩ | ⟨l, q, z⟩
  · exact ⟨-1, q, e.symm.trans q, Or.inl ⟨rfl, fun l hl => by rw [show gs = 1023 from z]; exact all10 l hl⟩⟩
  · exact ⟨nI l.val, q, e.symm.trans q, Or.inr ⟨l.val, l.isLt, rfl, z⟩⟩
theorem b_ex2 {α β γ δ : Type} {a : Option α} {b : Option β} {f : α → Option γ} {g : β → Option δ} {Q : α → β → Prop} {P : γ → δ → Prop} (h : ∃ o p, a = some o ∧ b = some p ∧ Q o p) (k : ∀ o p, Q o p → ∃ z y, f o = some z ∧ g p = some y ∧ P z y) : ∃ z y, a.bind f = some z ∧ b.bind g = some y ∧ P z y := by
  obtain ⟨o, p, e, e2, q⟩ := h
  obtain ⟨z, y, f1, f2, r⟩ := k o p q
  exact ⟨z, y, b_some e f1, b_some e2 f2, r⟩
theorem free_step {gs i : Nat} {P : Prop} (hg : ∀ l, l < i → gs.testBit l = true) (h : gs.testBit i = true) : ∀ l, l < i + 1 → gs.testBit l = true := fun l hl => by
  by_cases e : l = i
  · rw [e]; exact h
  · exact hg l (by omega)
theorem WR.hLc {n : Nat} {cd : Nat → Nat} {codes masks alike havers mcodes mmasks : Nat → Int32} (W : WR n cd codes masks alike havers mcodes mmasks) {lf l : Nat} (hlf : lf < 2 ^ n) (hl : l < 10) : ((f_X9_having havers (nI l)).bind fun o2 => f_J6_bitCount_0f7a4 (nI lf &&& o2)) = some (nI (hL n cd lf l)) := b_some (W.chav hl) (bc_and2 W.hn hlf _)
theorem WR.haveLetter {n : Nat} {cd : Nat → Nat} {codes masks alike havers mcodes mmasks : Nat → Int32} (W : WR n cd codes masks alike havers mcodes mmasks) {lf l : Nat} (hlf : lf < 2 ^ n) (hl : l < 10) : f_X11_haveLetter (nI n) mmasks (nI lf) (nI l) = some (nI (hL n cd lf l)) := by
  unfold f_X11_haveLetter
  refine b_some (bits_n W.hn hlf) (b_some (W.haveMask hlf hl (m := 0) (by decide)) ?_)
  have := hL_sum n cd lf l
  rw [pk_sub (by omega)]
  congr 2
  omega
theorem WR.often {n : Nat} {cd : Nat → Nat} {codes masks alike havers mcodes mmasks : Nat → Int32} (W : WR n cd codes masks alike havers mcodes mmasks) {lf gs : Nat} (hlf : lf < 2 ^ n) (hgs : gs < 1024) : ∃ r s, f_X2_often havers (nI lf) (nI gs) = some r ∧ f_X11_often (nI n) mmasks (nI lf) (nI gs) = some s ∧ r = s ∧ Free gs r := by
  have hn := W.hn
  unfold f_X2_often f_X11_often
  refine b_ex2 (Q := fun o p => o = p ∧ Free gs o) (lp_sim (fun i v w => v = w ∧ ((v = ((-1 : Int32), (-1 : Int32), nI i) ∧ ∀ l, l < i → gs.testBit l = true) ∨ ∃ l c, v = (nI l, nI c, nI i) ∧ l < 10 ∧ c ≤ 8 ∧ gs.testBit l = false)) _ 10 (by decide) ⟨rfl, Or.inl ⟨rfl, fun l hl => absurd hl (by omega)⟩⟩ (fun i v w hi hv => ?_) (fun v w hv => ?_)) (fun o p q => ⟨o, p, rfl, rfl, q⟩)
  · obtain ⟨rfl, hv⟩ := hv
    refine Or.inl ?_
    show ∃ u x, B_X2_often_8 havers (nI lf) (nI gs) v.1 v.2.1 v.2.2 = some (.inl u) ∧ B_X11_often_8 (nI n) mmasks (nI lf) (nI gs) v.1 v.2.1 v.2.2 = some (.inl x) ∧ _
    have hv2 : v.2.2 = nI i := by rcases hv with ⟨rfl, -⟩ | ⟨f, c, rfl, -⟩ <;> rfl
    unfold B_X2_often_8 B_X11_often_8
    have ge : ¬ (10 : Int32) ≤ nI i := nI_ge (b := 10) hi (by decide)
    rw [hv2, if_neg ge, if_neg ge, W.chav hi, Option.bind_some, bc_and2 hn hlf, Option.bind_some, nI_1]
    have h8 : hL n cd lf i ≤ 8 := Nat.le_trans (ct_le _ _) hn
    cases hb : gs.testBit i
    · rw [if_pos (bz (by omega) (by omega) hb), has_f (by omega) (by omega) hb, Option.bind_some, if_pos rfl, W.haveLetter hlf hi, Option.bind_some]
      unfold J_X11_often_35
      rw [nI_1]
      show ∃ u x, (if nI (hL n cd lf i) ≤ v.2.1 then _ else _) = _ ∧ (if nI (hL n cd lf i) ≤ v.2.1 then _ else _) = _ ∧ _
      by_cases h : nI (hL n cd lf i) ≤ v.2.1
      · rw [if_pos h, if_pos h]
        rcases hv with ⟨rfl, hk⟩ | ⟨l, c, rfl, hl, hc, hf⟩
        · exact absurd h (m1_lt _ (by omega))
        · exact ⟨_, _, rfl, ip h rfl, rfl, Or.inr ⟨l, c, rfl, hl, hc, hf⟩⟩
      · rw [if_neg h, if_neg h]
        exact ⟨_, _, rfl, ino h rfl, rfl, Or.inr ⟨i, _, rfl, hi, h8, hb⟩⟩
    · rw [if_neg (bnz (by omega) (by omega) hb), has_t (by omega) (by omega) hb, Option.bind_some, if_neg i10]
      unfold J_X11_often_35
      rw [nI_1]
      rcases hv with ⟨rfl, hk⟩ | ⟨l, c, rfl, hl, hc, hf⟩
      · have z : (-1 : Int32) ≤ (-1 : Int32) := by decide
        exact ⟨_, _, rfl, ip z (ip z rfl), rfl, Or.inl ⟨rfl, free_step (P := True) hk hb⟩⟩
      · have z := m1_le c (by omega)
        exact ⟨_, _, rfl, ip z (ip z rfl), rfl, Or.inr ⟨l, c, rfl, hl, hc, hf⟩⟩
  · obtain ⟨rfl, hv⟩ := hv
    have z : (10 : Int32) ≤ nI 10 := by decide
    rcases hv with ⟨rfl, hk⟩ | ⟨l, c, rfl, hl, hc, hf⟩
    · exact ⟨_, _, ip z rfl, ip z rfl, rfl, Or.inl ⟨rfl, hk⟩⟩
    · exact ⟨_, _, ip z rfl, ip z rfl, rfl, Or.inr ⟨l, hl, rfl, hf⟩⟩
theorem WR.sure {n : Nat} {cd : Nat → Nat} {codes masks alike havers mcodes mmasks : Nat → Int32} (W : WR n cd codes masks alike havers mcodes mmasks) {lf gs : Nat} (hlf : lf < 2 ^ n) (hgs : gs < 1024) : ∃ r s, f_X2_sure havers (nI lf) (nI gs) = some r ∧ f_X11_surest (nI n) mmasks (nI lf) (nI gs) = some s ∧ r = s ∧ Free gs r := by
  have hn := W.hn
  unfold f_X2_sure f_X11_surest
  refine b_ex2 (Q := fun o p => o = p ∧ (o.1 = 1 ∨ (o.1 = 0 ∧ Free gs o.2))) (lp_sim (fun i v w => v = nI i ∧ w = nI i) _ 10 (by decide) ⟨rfl, rfl⟩ (fun i v w hi hv => ?_) (fun v w hv => ?_)) (fun o p q => ?_)
  · obtain ⟨rfl, rfl⟩ := hv
    show (∃ u x, B_X2_sure_2 havers (nI lf) (nI gs) (nI i) = some (.inl u) ∧ B_X11_surest_2 (nI n) mmasks (nI lf) (nI gs) (nI i) = some (.inl x) ∧ _) ∨ (∃ o p, B_X2_sure_2 havers (nI lf) (nI gs) (nI i) = some (.inr o) ∧ B_X11_surest_2 (nI n) mmasks (nI lf) (nI gs) (nI i) = some (.inr p) ∧ _)
    unfold B_X2_sure_2 B_X11_surest_2
    have ge : ¬ (10 : Int32) ≤ nI i := nI_ge (b := 10) hi (by decide)
    rw [if_neg ge, if_neg ge, nI_1]
    have h8 : hL n cd lf i ≤ 8 := Nat.le_trans (ct_le _ _) hn
    have l8 : ct lf.testBit n ≤ 8 := Nat.le_trans (ct_le _ _) hn
    have hs := hL_sum n cd lf i
    cases hb : gs.testBit i
    · rw [if_pos (bz (by omega) (by omega) hb), has_f (by omega) (by omega) hb, Option.bind_some, if_pos rfl, W.haveLetter hlf hi, Option.bind_some, bits_n hn hlf, Option.bind_some]
      rcases Nat.eq_zero_or_pos (cM n cd lf i 0) with z | z
      · rw [W.lack0 hlf hi z]
        have e : hL n cd lf i = ct lf.testBit n := by omega
        exact Or.inr ⟨_, _, b_some rfl (ip rfl rfl), ip (by rw [e]) rfl, rfl, Or.inr ⟨rfl, Or.inr ⟨i, hi, rfl, hb⟩⟩⟩
      · rw [W.lack1 hlf hi z]
        exact Or.inl ⟨_, _, b_some rfl (ino i10 rfl), ino (fun q => by have := (nI_eq (by omega) (by omega)).mp q; omega) rfl, rfl, rfl⟩
    · rw [if_neg (bnz (by omega) (by omega) hb), has_t (by omega) (by omega) hb, Option.bind_some, if_neg i10]
      exact Or.inl ⟨_, _, rfl, rfl, rfl, rfl⟩
  · obtain ⟨rfl, rfl⟩ := hv
    have z : (10 : Int32) ≤ nI 10 := by decide
    exact ⟨_, _, ip z rfl, ip z rfl, rfl, Or.inl rfl⟩
  · obtain ⟨rfl, q⟩ := q
    rcases q with q | ⟨q, f⟩
    · obtain ⟨r, s, e1, e2, rfl, f⟩ := W.often hlf hgs
      exact ⟨r, r, ino (by rw [q]; decide) (b_some e1 rfl), ino (by rw [q]; decide) (b_some e2 rfl), rfl, f⟩
    · exact ⟨_, _, ip q rfl, ip q rfl, rfl, f⟩
theorem WR.half {n : Nat} {cd : Nat → Nat} {codes masks alike havers mcodes mmasks : Nat → Int32} (W : WR n cd codes masks alike havers mcodes mmasks) {lf gs : Nat} (hlf : lf < 2 ^ n) (hgs : gs < 1024) : ∃ r s, f_X2_half havers (nI lf) (nI gs) = some r ∧ f_X11_halving (nI n) mmasks (nI lf) (nI gs) = some s ∧ r = s ∧ Free gs r := by
  have hn := W.hn
  unfold f_X2_half f_X11_halving
  refine b_ex2 (Q := fun o p => o = p ∧ Free gs o) (lp_sim (fun i v w => ((v = ((-1 : Int32), (9 : Int32), nI i) ∧ w = ((-1 : Int32), (1048576 : Int32), nI i)) ∧ ∀ l, l < i → gs.testBit l = true) ∨ ∃ l c, v = (nI l, nI c, nI i) ∧ w = (nI l, nI c, nI i) ∧ l < 10 ∧ c ≤ 8 ∧ gs.testBit l = false) _ 10 (by decide) (Or.inl ⟨⟨rfl, rfl⟩, fun l hl => absurd hl (by omega)⟩) (fun i v w hi hv => ?_) (fun v w hv => ?_)) (fun o p q => ⟨o, p, rfl, rfl, q⟩)
  · refine Or.inl ?_
    show ∃ u x, B_X2_half_9 havers (nI lf) (nI gs) v.1 v.2.1 v.2.2 = some (.inl u) ∧ B_X11_halving_9 (nI n) mmasks (nI lf) (nI gs) w.1 w.2.1 w.2.2 = some (.inl x) ∧ _
    have hv2 : v.2.2 = nI i ∧ w.2.2 = nI i := by rcases hv with ⟨⟨rfl, rfl⟩, -⟩ | ⟨f, c, rfl, rfl, -⟩ <;> exact ⟨rfl, rfl⟩
    unfold B_X2_half_9 B_X11_halving_9
    have ge : ¬ (10 : Int32) ≤ nI i := nI_ge (b := 10) hi (by decide)
    have h8 : hL n cd lf i ≤ 8 := Nat.le_trans (ct_le _ _) hn
    have l8 : ct lf.testBit n ≤ 8 := Nat.le_trans (ct_le _ _) hn
    have hs := hL_sum n cd lf i
    rw [hv2.1, hv2.2, if_neg ge, if_neg ge, W.chav hi, Option.bind_some, bc_and2 hn hlf, Option.bind_some, bc_n hn hlf, Option.bind_some, W.haveLetter hlf hi, Option.bind_some, bits_n hn hlf, Option.bind_some, nI_1, show (2 : Int32) = nI 2 from rfl, pk_mul]
    have A1 := abs1 ⟨2 * hL n cd lf i, by omega⟩ ⟨ct lf.testBit n, by omega⟩
    have A2 := abs2 ⟨2 * hL n cd lf i, by omega⟩ ⟨ct lf.testBit n, by omega⟩
    dsimp only at A1 A2
    have hLe : ct (fun w => lf.testBit w && (mkm (cd w) i != 0)) n = hL n cd lf i := rfl
    rw [hLe, pk_mul, A1, Option.bind_some]
    generalize hoff : (if ct lf.testBit n ≤ 2 * hL n cd lf i then 2 * hL n cd lf i - ct lf.testBit n else ct lf.testBit n - 2 * hL n cd lf i) = off
    have o8 : off ≤ 8 := by rw [← hoff]; split <;> omega
    cases hb : gs.testBit i
    · rw [if_pos (bz (by omega) (by omega) hb), has_f (by omega) (by omega) hb, Option.bind_some, if_pos rfl]
      have M : ∀ z, J_X11_halving_59 w.1 w.2.1 (nI i) (nI off) = z → (if 0 ≤ nI (2 * hL n cd lf i) - nI (ct lf.testBit n) then J_X11_halving_59 w.1 w.2.1 (nI i) (nI (2 * hL n cd lf i) - nI (ct lf.testBit n)) else J_X11_halving_59 w.1 w.2.1 (nI i) (-(nI (2 * hL n cd lf i) - nI (ct lf.testBit n)))) = z := by
        intro z hz
        by_cases q : ct lf.testBit n ≤ 2 * hL n cd lf i
        · rw [if_pos q] at hoff
          obtain ⟨c1, c2⟩ := A2.1 q
          rw [if_pos c1, c2, hoff]
          exact hz
        · rw [if_neg q] at hoff
          obtain ⟨c1, c2⟩ := A2.2 (by omega)
          rw [if_neg c1, c2, hoff]
          exact hz
      rcases hv with ⟨⟨rfl, rfl⟩, hk⟩ | ⟨l, c, rfl, rfl, hl, hc, hf⟩
      · have q1 : ¬ (9 : Int32) ≤ nI off := nI_ge (b := 9) (by omega) (by decide)
        have q2 : ¬ (1048576 : Int32) ≤ nI off := nI_ge (b := 1048576) (by omega) (by decide)
        exact ⟨_, _, ino q1 rfl, M _ (half_n q2), Or.inr ⟨i, off, rfl, rfl, hi, o8, hb⟩⟩
      · by_cases h : c ≤ off
        · have q := nI_le (a := c) (b := off) h (by omega)
          exact ⟨_, _, ip q rfl, M _ (half_y q), Or.inr ⟨l, c, rfl, rfl, hl, hc, hf⟩⟩
        · have q := nI_ge (a := off) (b := c) (by omega) (by omega)
          exact ⟨_, _, ino q rfl, M _ (half_n q), Or.inr ⟨i, off, rfl, rfl, hi, o8, hb⟩⟩
    · rw [if_neg (bnz (by omega) (by omega) hb), has_t (by omega) (by omega) hb, Option.bind_some, if_neg i10]
      unfold J_X11_halving_59
      rw [nI_1]
      rcases hv with ⟨⟨rfl, rfl⟩, hk⟩ | ⟨l, c, rfl, rfl, hl, hc, hf⟩
      · have z : (1048576 : Int32) ≤ (1048576 : Int32) := by decide
        exact ⟨_, _, rfl, ip z (ip z rfl), Or.inl ⟨⟨rfl, rfl⟩, free_step (P := True) hk hb⟩⟩
      · have z : nI c ≤ (1048576 : Int32) := nI_le (b := 1048576) (by omega) (by decide)
        exact ⟨_, _, rfl, ip z (ip z rfl), Or.inr ⟨l, c, rfl, rfl, hl, hc, hf⟩⟩
  · have z : (10 : Int32) ≤ nI 10 := by decide
    rcases hv with ⟨⟨rfl, rfl⟩, hk⟩ | ⟨l, c, rfl, rfl, hl, hc, hf⟩
    · exact ⟨_, _, ip z rfl, ip z rfl, rfl, Or.inl ⟨rfl, hk⟩⟩
    · exact ⟨_, _, ip z rfl, ip z rfl, rfl, Or.inr ⟨l, hl, rfl, hf⟩⟩
theorem WR.first {n : Nat} {cd : Nat → Nat} {codes masks alike havers mcodes mmasks : Nat → Int32} (W : WR n cd codes masks alike havers mcodes mmasks) {lf gs : Nat} (hlf : lf < 2 ^ n) (hgs : gs < 1024) : ∃ r s, f_X2_first (nI n) codes havers (nI lf) (nI gs) = some r ∧ f_X11_firstOf (nI n) mcodes mmasks (nI lf) (nI gs) = some s ∧ r = s ∧ Free gs r := by
  have hn := W.hn
  have h256 := lt256 hn hlf
  obtain ⟨r, s, e1, e2, rfl, f⟩ := W.often hlf hgs
  unfold f_X2_first f_X11_firstOf
  by_cases h0 : lf = 0
  · subst h0
    exact ⟨r, r, ip rfl (b_some e1 rfl), ip rfl (b_some e2 rfl), rfl, f⟩
  · obtain ⟨w, hw, hb, hv⟩ := least_ex hlf h0
    have hz : ¬ nI lf = 0 := nI_ne0 (by omega) (by omega)
    have c4 := W.cd4 w hw
    have hl : lp (fun v => B_X11_firstOf_13 (nI lf) v) KN (0 : Int32) = some (nI w) := by
      refine lp_run (fun i => nI i) w rfl (by omega) (fun i hi => ?_) ?_
      · show B_X11_firstOf_13 (nI lf) (nI i) = _
        unfold B_X11_firstOf_13
        rw [nI_1]
        exact b_some (has_f (by omega) (by omega) (hv i hi)) (ip rfl rfl)
      · show B_X11_firstOf_13 (nI lf) (nI w) = _
        unfold B_X11_firstOf_13
        exact b_some (has_t (by omega) (by omega) hb) (ino i10 rfl)
    have d1 : nI (cd w) / (1000 : Int32) = nI (cd w / 1000) := pk_div (d := 1000) (by omega) (by decide) (by decide)
    have d2 : f_X11_letterAt (mcodes (nI w).toNatClampNeg) 0 = some (nI (cd w / 1000)) := by
      unfold f_X11_letterAt
      rw [nI_clamp (by omega), W.mco w hw, d1, if_pos rfl, show (10 : Int32) = nI 10 from rfl, pk_rem (by omega) (by decide) (by decide), Nat.mod_eq_of_lt (by omega)]
    have d3 : f_X9_codeOf (nI n) codes (nI w) = some (nI (cd w)) := by rw [codeOf_eq hn hw, W.cod w hw]
    rw [if_neg hz, if_neg hz, least_c hn hlf hw hb hv, Option.bind_some, d3, Option.bind_some, hl, Option.bind_some, if_neg (vp_in_nI (by omega) (by decide)), d2, Option.bind_some, d1]
    cases hg : gs.testBit (cd w / 1000)
    · exact ⟨_, _, ip (bz (by omega) (by omega) hg) rfl, b_some (has_f (by omega) (by omega) hg) (ip rfl rfl), rfl, Or.inr ⟨_, by omega, rfl, hg⟩⟩
    · exact ⟨r, r, ino (bnz (by omega) (by omega) hg) (b_some e1 rfl), b_some (has_t (by omega) (by omega) hg) (ino i10 (b_some e2 rfl)), rfl, f⟩
/-- what a guesser guesses -/
theorem WR.choice {n : Nat} {cd : Nat → Nat} {codes masks alike havers mcodes mmasks : Nat → Int32} (W : WR n cd codes masks alike havers mcodes mmasks) {kd lf gs : Nat} (hkd : kd < 6) (hlf : lf < 2 ^ n) (hgs : gs < 1024) : ∃ r, f_X2_choice (nI n) codes havers (nI kd) (nI lf) (nI gs) = some r ∧ f_X11_nextBy (nI n) mcodes mmasks (nI kd) (nI lf) (nI gs) = some r ∧ Free gs r := by
  unfold f_X2_choice f_X11_nextBy
  rcases (show kd = 0 ∨ kd = 1 ∨ kd = 2 ∨ kd = 3 ∨ kd = 4 ∨ kd = 5 by omega) with rfl | rfl | rfl | rfl | rfl | rfl
  · obtain ⟨r, e1, e2, f⟩ := row_sim hgs
    exact ⟨r, ino (by decide) (ino (by decide) (ino (by decide) (ino (by decide) (ino (by decide) (b_some e1 rfl))))), ino (by decide) (ino (by decide) (ino (by decide) (ino (by decide) (ino (by decide) (b_some e2 rfl))))), f⟩
  · obtain ⟨r, s, e1, e2, rfl, f⟩ := W.often hlf hgs
    exact ⟨r, ip (by decide) (b_some e1 rfl), ip (by decide) (b_some e2 rfl), f⟩
  · obtain ⟨r, s, e1, e2, rfl, f⟩ := W.sure hlf hgs
    exact ⟨r, ino (by decide) (ip (by decide) (b_some e1 rfl)), ino (by decide) (ip (by decide) (b_some e2 rfl)), f⟩
  · obtain ⟨r, s, e1, e2, rfl, f⟩ := W.half hlf hgs
    exact ⟨r, ino (by decide) (ino (by decide) (ip (by decide) (b_some e1 rfl))), ino (by decide) (ino (by decide) (ip (by decide) (b_some e2 rfl))), f⟩
  · obtain ⟨r, e1, e2, f⟩ := last_sim hgs
    exact ⟨r, ino (by decide) (ino (by decide) (ino (by decide) (ip (by decide) (b_some e1 rfl)))), ino (by decide) (ino (by decide) (ino (by decide) (ip (by decide) (b_some e2 rfl)))), f⟩
  · obtain ⟨r, s, e1, e2, rfl, f⟩ := W.first hlf hgs
    exact ⟨r, ino (by decide) (ino (by decide) (ino (by decide) (ino (by decide) (ip (by decide) (b_some e1 rfl))))), ino (by decide) (ino (by decide) (ino (by decide) (ino (by decide) (ip (by decide) (b_some e2 rfl))))), f⟩
