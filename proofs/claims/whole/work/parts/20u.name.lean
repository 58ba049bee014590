/-! numbers, closings and names, on both sides -/
theorem nV_lt {tx : Nat → Nat} {p k : Nat} (hk : k ≤ 2) (h : ∀ i, i < k → tx (p + i) ≤ 57) : nV tx p k < 100 := by
  rcases (show k = 0 ∨ k = 1 ∨ k = 2 by omega) with rfl | rfl | rfl
  · show 0 < 100
    omega
  · have := h 0 (by omega)
    rw [Nat.add_zero] at this
    show tx p - 48 < 100
    omega
  · have h0 := h 0 (by omega)
    rw [Nat.add_zero] at h0
    have h1 := h 1 (by omega)
    show 10 * (tx p - 48) + (tx (p + 1) - 48) < 100
    omega
theorem num_sim {tn : Nat} {tx : Nat → Nat} {kb mt : Nat → Int32} (T : TX tn tx kb mt) {b a L : Nat} (hb : b ≤ tn) (ha : a ≤ tn) (hab : sk tn tx a = sk tn tx b) (hL : L ≤ 10) (num rn : Int32) : (∃ v e, v < L ∧ sk tn tx b < e ∧ e ≤ tn ∧ f_X4_stepToNumber (nI tn) num (nI b) kb (nI L) = some (1, nI (sk tn tx b), 2, nI v, nI e) ∧ f_X11_number (nI tn) (nI a) rn mt 0 (nI L - 1) = some (1, nI e, nI v)) ∨ (∃ so nu be, f_X4_stepToNumber (nI tn) num (nI b) kb (nI L) = some (0, nI (sk tn tx b), so, nu, be) ∧ f_X11_number (nI tn) (nI a) rn mt 0 (nI L - 1) = some (0, nI (sk tn tx b), rn)) := by
  have h150 := T.1
  have hp := sk_le tx hb
  obtain ⟨so, nu, be, e, -, hn, -⟩ := step_all T hb num
  have e1 := skip_eq T ha
  rw [hab] at e1
  obtain ⟨p, hpe⟩ : ∃ p, p = sk tn tx b := ⟨_, rfl⟩
  rw [← hpe] at hp e hn e1 ⊢
  have e2 := numL_eq T hp.2
  have hnl : p ≤ nE tn tx p ∧ nE tn tx p ≤ tn := eR_le tx 48 57 hp.2
  have bad : ¬ (1 ≤ nE tn tx p - p ∧ nE tn tx p - p ≤ 2) → f_X11_number (nI tn) (nI a) rn mt 0 (nI L - 1) = some (0, nI p, rn) := fun h => by
    unfold f_X11_number
    refine b_some e1 (b_some e2 ?_)
    unfold J_X11_number_77
    exact b_some (in_f (lo := 1) (hi := 2) h (by omega) (by decide)) (ip rfl rfl)
  rcases hn with ⟨rfl, q1, q2, q3, q4, rfl, rfl⟩ | ⟨q0, q⟩
  · have hg : p + 1 ≤ nE tn tx p := eR_go (qR_t.mpr ⟨q1, q2, q3⟩)
    have vb := nV_lt (tx := tx) (p := p) q4 (fun i hi => (eR_in (lo := 48) (hi := 57) (s := p) (by omega) (show p + i < eR tn tx 48 57 p from by show p + i < nE tn tx p; omega)).2.2)
    have inn := in_t (v := nE tn tx p - p) (lo := 1) (hi := 2) (by omega) q4 (by decide)
    by_cases c : nV tx p (nE tn tx p - p) < L
    · refine Or.inl ⟨nV tx p (nE tn tx p - p), nE tn tx p, c, by omega, hnl.2, b_some e (ip rfl (ino (nI_ge c (by omega)) rfl)), ?_⟩
      unfold f_X11_number
      refine b_some e1 (b_some e2 ?_)
      unfold J_X11_number_77
      refine b_some inn (ino i10 (b_some (x := 1) ?_ (ino i10 ?_)))
      · rw [show nI L - 1 = nI (L - 1) from pk_sub (a := L) (b := 1) (by omega)]
        exact in_t (lo := 0) (by omega) (by omega) (by omega)
      · rw [nI_add, show p + (nE tn tx p - p) = nE tn tx p by omega]
    · refine Or.inr ⟨2, _, _, b_some e (ip rfl (ip (nI_le (by omega) (by omega)) rfl)), ?_⟩
      unfold f_X11_number
      refine b_some e1 (b_some e2 ?_)
      unfold J_X11_number_77
      refine b_some inn (ino i10 (b_some (x := 0) ?_ (ip rfl rfl)))
      rcases Nat.eq_zero_or_pos L with z | z
      · subst z
        unfold f_X11_in
        refine ino (nI_pos (by omega)) (ip ?_ rfl)
        show (-1 : Int32) < nI _
        rw [i_lt, nI_toInt (by omega)]
        have : (-1 : Int32).toInt = -1 := by decide
        omega
      · rw [show nI L - 1 = nI (L - 1) from pk_sub (a := L) (b := 1) z]
        exact in_f (lo := 0) (by omega) (by omega) (by decide)
  · refine Or.inr ⟨so, nu, be, b_some e (ino q0 rfl), bad ?_⟩
    rcases q with q | q | q
    · omega
    · have : nE tn tx p = p := eR_stop (fun z => q (qR_t.mp z).2)
      omega
    · omega
theorem close_sim {tn : Nat} {tx : Nat → Nat} {kb mt : Nat → Int32} (T : TX tn tx kb mt) {b : Nat} (hb : b ≤ tn) (num : Int32) : (∃ nu, sk tn tx b < tn ∧ f_X4_stepToClose (nI tn) num (nI b) kb = some (1, nI (sk tn tx b), 3, nu, nI (sk tn tx b + 1)) ∧ f_X11_ends (nI tn) (nI b) mt = some (1, nI (sk tn tx b + 1))) ∨ (∃ so nu be, f_X4_stepToClose (nI tn) num (nI b) kb = some (0, nI (sk tn tx b), so, nu, be) ∧ f_X11_ends (nI tn) (nI b) mt = some (0, nI (sk tn tx b))) := by
  have h150 := T.1
  have hp := sk_le tx hb
  obtain ⟨so, nu, be, e, -, -, hc⟩ := step_all T hb num
  have e1 := skip_eq T hb
  rcases hc with ⟨rfl, q1, q2, rfl⟩ | ⟨q0, q⟩
  · refine Or.inl ⟨nu, q1, b_some e (ip rfl rfl), b_some e1 (b_some (here_eq T q1) (ip (by rw [q2]; rfl) ?_))⟩
    rw [nI_1]
  · refine Or.inr ⟨so, nu, be, b_some e (ino q0 rfl), b_some e1 ?_⟩
    by_cases c : sk tn tx b = tn
    · rw [c]
      exact b_some (here_end mt (by omega)) (ino (by decide) rfl)
    · have hlt : sk tn tx b < tn := by omega
      have := (T.2 _ hlt).1
      rcases q with q | q
      · exact absurd q c
      · exact b_some (here_eq T hlt) (ino (fun z => q ((nI_eq (b := 59) (by omega) (by decide)).mp z)) rfl)
/-- the names' letters -/
def wc (k i : Nat) : Nat := ([[103, 97, 109, 101], [119, 111, 114, 100], [115, 101, 99, 114, 101, 116], [103, 117, 101, 115, 115]].getD k []).getD i 0
def Mat (tx : Nat → Nat) (p k n : Nat) : Prop := ∀ i, i < n → tx (p + i) = wc k i
theorem spells_0 {tn : Nat} {tx : Nat → Nat} {kb mt : Nat → Int32} (T : TX tn tx kb mt) {p : Nat} (hp : p < tn) {so be : Int32} (ht : Tok tn tx p so be) : (f_X8_spells_s0 (nI p) so be kb = some 1 ∧ be = nI (wE tn tx p) ∧ wE tn tx p = p + 4 ∧ Mat tx p 0 4) ∨ (f_X8_spells_s0 (nI p) so be kb = some 0 ∧ ¬ (wE tn tx p = p + 4 ∧ Mat tx p 0 4)) := by
  have h150 := T.1
  have hb : ∀ i, i < 4 → ((stB.getD 0 []).getD i 0 &&& 255) = nI (wc 0 i) := by decide
  have hc : ∀ i, i < 4 → wc 0 i < 128 := by decide
  have hw : p ≤ wE tn tx p ∧ wE tn tx p ≤ tn := eR_le tx 97 122 (show p ≤ tn by omega)
  unfold f_X8_spells_s0
  rcases ht with ⟨c, -⟩ | ⟨-, ⟨l1, l2, rfl, rfl⟩ | ⟨l, so3⟩⟩
  · omega
  · rw [if_pos rfl, pk_sub hw.1]
    by_cases c : wE tn tx p = p + 4
    · rw [if_pos (show nI (wE tn tx p - p) = Int32.ofNat (stL.getD 0 0) from by rw [c, Nat.add_sub_cancel_left]; rfl)]
      have L : ∃ o, lp (fun v => B_X8_spells_s0_28 (nI p) kb v) KN (0 : Int32) = some o ∧ ((o = 1 ∧ Mat tx p 0 4) ∨ (o = 0 ∧ ¬ Mat tx p 0 4)) := by
        refine lp_inv (fun i v => v = nI i ∧ ∀ j, j < i → tx (p + j) = wc 0 j) _ 4 (by decide) ⟨rfl, fun j hj => absurd hj (by omega)⟩ (fun i v hi hv => ?_) (fun v hv => ?_)
        · obtain ⟨rfl, hv⟩ := hv
          show (∃ u, B_X8_spells_s0_28 (nI p) kb (nI i) = some (.inl u) ∧ _) ∨ (∃ o, B_X8_spells_s0_28 (nI p) kb (nI i) = some (.inr o) ∧ _)
          unfold B_X8_spells_s0_28
          obtain ⟨t1, t2, -⟩ := T.2 (p + i) (by omega)
          have c1 := hc i hi
          rw [nI_add, nI_1, if_neg (show ¬ Int32.ofNat (stL.getD 0 0) ≤ nI i from nI_ge (b := 4) hi (by decide)), if_neg (show ¬ oob (nI (p + i)) 150 from vp_in_nI (by omega) (by decide)), if_neg (show ¬ oob (nI i) (stL.getD 0 0) from vp_in_nI (N := 4) hi (by decide)), nI_clamp (show p + i < 2 ^ 31 by omega), nI_clamp (show i < 2 ^ 31 by omega), hb i hi, t2]
          by_cases z : tx (p + i) = wc 0 i
          · refine Or.inl ⟨_, ip (by rw [z]) rfl, rfl, fun j hj => ?_⟩
            by_cases y : j = i
            · subst y; exact z
            · exact hv j (by omega)
          · exact Or.inr ⟨_, ino (fun y => z ((nI_eq (by omega) (by omega)).mp y)) rfl, Or.inr ⟨rfl, fun m => z (m i hi)⟩⟩
        · obtain ⟨rfl, hv⟩ := hv
          exact ⟨_, ip (show Int32.ofNat (stL.getD 0 0) ≤ nI 4 from by decide) rfl, Or.inl ⟨rfl, hv⟩⟩
      obtain ⟨o, e, q⟩ := L
      rw [e, Option.bind_some]
      rcases q with ⟨rfl, m⟩ | ⟨rfl, m⟩
      · exact Or.inl ⟨ino (by decide) rfl, rfl, c, m⟩
      · exact Or.inr ⟨ip rfl rfl, fun z => m z.2⟩
    · refine Or.inr ⟨ino (fun z => c ?_) rfl, fun z => c z.1⟩
      have z : nI (wE tn tx p - p) = nI 4 := z
      have z := (nI_eq (by omega) (by decide)).mp z
      omega
  · refine Or.inr ⟨ino (by rcases so3 with rfl | rfl | rfl <;> decide) rfl, fun z => ?_⟩
    have : wE tn tx p = p := eR_stop (fun z => l (qR_t.mp z).2)
    omega
theorem spells_1 {tn : Nat} {tx : Nat → Nat} {kb mt : Nat → Int32} (T : TX tn tx kb mt) {p : Nat} (hp : p < tn) {so be : Int32} (ht : Tok tn tx p so be) : (f_X8_spells_s1 (nI p) so be kb = some 1 ∧ be = nI (wE tn tx p) ∧ wE tn tx p = p + 4 ∧ Mat tx p 1 4) ∨ (f_X8_spells_s1 (nI p) so be kb = some 0 ∧ ¬ (wE tn tx p = p + 4 ∧ Mat tx p 1 4)) := by
  have h150 := T.1
  have hb : ∀ i, i < 4 → ((stB.getD 1 []).getD i 0 &&& 255) = nI (wc 1 i) := by decide
  have hc : ∀ i, i < 4 → wc 1 i < 128 := by decide
  have hw : p ≤ wE tn tx p ∧ wE tn tx p ≤ tn := eR_le tx 97 122 (show p ≤ tn by omega)
  unfold f_X8_spells_s1
  rcases ht with ⟨c, -⟩ | ⟨-, ⟨l1, l2, rfl, rfl⟩ | ⟨l, so3⟩⟩
  · omega
  · rw [if_pos rfl, pk_sub hw.1]
    by_cases c : wE tn tx p = p + 4
    · rw [if_pos (show nI (wE tn tx p - p) = Int32.ofNat (stL.getD 1 0) from by rw [c, Nat.add_sub_cancel_left]; rfl)]
      have L : ∃ o, lp (fun v => B_X8_spells_s1_28 (nI p) kb v) KN (0 : Int32) = some o ∧ ((o = 1 ∧ Mat tx p 1 4) ∨ (o = 0 ∧ ¬ Mat tx p 1 4)) := by
        refine lp_inv (fun i v => v = nI i ∧ ∀ j, j < i → tx (p + j) = wc 1 j) _ 4 (by decide) ⟨rfl, fun j hj => absurd hj (by omega)⟩ (fun i v hi hv => ?_) (fun v hv => ?_)
        · obtain ⟨rfl, hv⟩ := hv
          show (∃ u, B_X8_spells_s1_28 (nI p) kb (nI i) = some (.inl u) ∧ _) ∨ (∃ o, B_X8_spells_s1_28 (nI p) kb (nI i) = some (.inr o) ∧ _)
          unfold B_X8_spells_s1_28
          obtain ⟨t1, t2, -⟩ := T.2 (p + i) (by omega)
          have c1 := hc i hi
          rw [nI_add, nI_1, if_neg (show ¬ Int32.ofNat (stL.getD 1 0) ≤ nI i from nI_ge (b := 4) hi (by decide)), if_neg (show ¬ oob (nI (p + i)) 150 from vp_in_nI (by omega) (by decide)), if_neg (show ¬ oob (nI i) (stL.getD 1 0) from vp_in_nI (N := 4) hi (by decide)), nI_clamp (show p + i < 2 ^ 31 by omega), nI_clamp (show i < 2 ^ 31 by omega), hb i hi, t2]
          by_cases z : tx (p + i) = wc 1 i
          · refine Or.inl ⟨_, ip (by rw [z]) rfl, rfl, fun j hj => ?_⟩
            by_cases y : j = i
            · subst y; exact z
            · exact hv j (by omega)
          · exact Or.inr ⟨_, ino (fun y => z ((nI_eq (by omega) (by omega)).mp y)) rfl, Or.inr ⟨rfl, fun m => z (m i hi)⟩⟩
        · obtain ⟨rfl, hv⟩ := hv
          exact ⟨_, ip (show Int32.ofNat (stL.getD 1 0) ≤ nI 4 from by decide) rfl, Or.inl ⟨rfl, hv⟩⟩
      obtain ⟨o, e, q⟩ := L
      rw [e, Option.bind_some]
      rcases q with ⟨rfl, m⟩ | ⟨rfl, m⟩
      · exact Or.inl ⟨ino (by decide) rfl, rfl, c, m⟩
      · exact Or.inr ⟨ip rfl rfl, fun z => m z.2⟩
    · refine Or.inr ⟨ino (fun z => c ?_) rfl, fun z => c z.1⟩
      have z : nI (wE tn tx p - p) = nI 4 := z
      have z := (nI_eq (by omega) (by decide)).mp z
      omega
  · refine Or.inr ⟨ino (by rcases so3 with rfl | rfl | rfl <;> decide) rfl, fun z => ?_⟩
    have : wE tn tx p = p := eR_stop (fun z => l (qR_t.mp z).2)
    omega
theorem spells_2 {tn : Nat} {tx : Nat → Nat} {kb mt : Nat → Int32} (T : TX tn tx kb mt) {p : Nat} (hp : p < tn) {so be : Int32} (ht : Tok tn tx p so be) : (f_X8_spells_s2 (nI p) so be kb = some 1 ∧ be = nI (wE tn tx p) ∧ wE tn tx p = p + 6 ∧ Mat tx p 2 6) ∨ (f_X8_spells_s2 (nI p) so be kb = some 0 ∧ ¬ (wE tn tx p = p + 6 ∧ Mat tx p 2 6)) := by
  have h150 := T.1
  have hb : ∀ i, i < 6 → ((stB.getD 2 []).getD i 0 &&& 255) = nI (wc 2 i) := by decide
  have hc : ∀ i, i < 6 → wc 2 i < 128 := by decide
  have hw : p ≤ wE tn tx p ∧ wE tn tx p ≤ tn := eR_le tx 97 122 (show p ≤ tn by omega)
  unfold f_X8_spells_s2
  rcases ht with ⟨c, -⟩ | ⟨-, ⟨l1, l2, rfl, rfl⟩ | ⟨l, so3⟩⟩
  · omega
  · rw [if_pos rfl, pk_sub hw.1]
    by_cases c : wE tn tx p = p + 6
    · rw [if_pos (show nI (wE tn tx p - p) = Int32.ofNat (stL.getD 2 0) from by rw [c, Nat.add_sub_cancel_left]; rfl)]
      have L : ∃ o, lp (fun v => B_X8_spells_s2_28 (nI p) kb v) KN (0 : Int32) = some o ∧ ((o = 1 ∧ Mat tx p 2 6) ∨ (o = 0 ∧ ¬ Mat tx p 2 6)) := by
        refine lp_inv (fun i v => v = nI i ∧ ∀ j, j < i → tx (p + j) = wc 2 j) _ 6 (by decide) ⟨rfl, fun j hj => absurd hj (by omega)⟩ (fun i v hi hv => ?_) (fun v hv => ?_)
        · obtain ⟨rfl, hv⟩ := hv
          show (∃ u, B_X8_spells_s2_28 (nI p) kb (nI i) = some (.inl u) ∧ _) ∨ (∃ o, B_X8_spells_s2_28 (nI p) kb (nI i) = some (.inr o) ∧ _)
          unfold B_X8_spells_s2_28
          obtain ⟨t1, t2, -⟩ := T.2 (p + i) (by omega)
          have c1 := hc i hi
          rw [nI_add, nI_1, if_neg (show ¬ Int32.ofNat (stL.getD 2 0) ≤ nI i from nI_ge (b := 6) hi (by decide)), if_neg (show ¬ oob (nI (p + i)) 150 from vp_in_nI (by omega) (by decide)), if_neg (show ¬ oob (nI i) (stL.getD 2 0) from vp_in_nI (N := 6) hi (by decide)), nI_clamp (show p + i < 2 ^ 31 by omega), nI_clamp (show i < 2 ^ 31 by omega), hb i hi, t2]
          by_cases z : tx (p + i) = wc 2 i
          · refine Or.inl ⟨_, ip (by rw [z]) rfl, rfl, fun j hj => ?_⟩
            by_cases y : j = i
            · subst y; exact z
            · exact hv j (by omega)
          · exact Or.inr ⟨_, ino (fun y => z ((nI_eq (by omega) (by omega)).mp y)) rfl, Or.inr ⟨rfl, fun m => z (m i hi)⟩⟩
        · obtain ⟨rfl, hv⟩ := hv
          exact ⟨_, ip (show Int32.ofNat (stL.getD 2 0) ≤ nI 6 from by decide) rfl, Or.inl ⟨rfl, hv⟩⟩
      obtain ⟨o, e, q⟩ := L
      rw [e, Option.bind_some]
      rcases q with ⟨rfl, m⟩ | ⟨rfl, m⟩
      · exact Or.inl ⟨ino (by decide) rfl, rfl, c, m⟩
      · exact Or.inr ⟨ip rfl rfl, fun z => m z.2⟩
    · refine Or.inr ⟨ino (fun z => c ?_) rfl, fun z => c z.1⟩
      have z : nI (wE tn tx p - p) = nI 6 := z
      have z := (nI_eq (by omega) (by decide)).mp z
      omega
  · refine Or.inr ⟨ino (by rcases so3 with rfl | rfl | rfl <;> decide) rfl, fun z => ?_⟩
    have : wE tn tx p = p := eR_stop (fun z => l (qR_t.mp z).2)
    omega
theorem spells_3 {tn : Nat} {tx : Nat → Nat} {kb mt : Nat → Int32} (T : TX tn tx kb mt) {p : Nat} (hp : p < tn) {so be : Int32} (ht : Tok tn tx p so be) : (f_X8_spells_s3 (nI p) so be kb = some 1 ∧ be = nI (wE tn tx p) ∧ wE tn tx p = p + 5 ∧ Mat tx p 3 5) ∨ (f_X8_spells_s3 (nI p) so be kb = some 0 ∧ ¬ (wE tn tx p = p + 5 ∧ Mat tx p 3 5)) := by
  have h150 := T.1
  have hb : ∀ i, i < 5 → ((stB.getD 3 []).getD i 0 &&& 255) = nI (wc 3 i) := by decide
  have hc : ∀ i, i < 5 → wc 3 i < 128 := by decide
  have hw : p ≤ wE tn tx p ∧ wE tn tx p ≤ tn := eR_le tx 97 122 (show p ≤ tn by omega)
  unfold f_X8_spells_s3
  rcases ht with ⟨c, -⟩ | ⟨-, ⟨l1, l2, rfl, rfl⟩ | ⟨l, so3⟩⟩
  · omega
  · rw [if_pos rfl, pk_sub hw.1]
    by_cases c : wE tn tx p = p + 5
    · rw [if_pos (show nI (wE tn tx p - p) = Int32.ofNat (stL.getD 3 0) from by rw [c, Nat.add_sub_cancel_left]; rfl)]
      have L : ∃ o, lp (fun v => B_X8_spells_s3_28 (nI p) kb v) KN (0 : Int32) = some o ∧ ((o = 1 ∧ Mat tx p 3 5) ∨ (o = 0 ∧ ¬ Mat tx p 3 5)) := by
        refine lp_inv (fun i v => v = nI i ∧ ∀ j, j < i → tx (p + j) = wc 3 j) _ 5 (by decide) ⟨rfl, fun j hj => absurd hj (by omega)⟩ (fun i v hi hv => ?_) (fun v hv => ?_)
        · obtain ⟨rfl, hv⟩ := hv
          show (∃ u, B_X8_spells_s3_28 (nI p) kb (nI i) = some (.inl u) ∧ _) ∨ (∃ o, B_X8_spells_s3_28 (nI p) kb (nI i) = some (.inr o) ∧ _)
          unfold B_X8_spells_s3_28
          obtain ⟨t1, t2, -⟩ := T.2 (p + i) (by omega)
          have c1 := hc i hi
          rw [nI_add, nI_1, if_neg (show ¬ Int32.ofNat (stL.getD 3 0) ≤ nI i from nI_ge (b := 5) hi (by decide)), if_neg (show ¬ oob (nI (p + i)) 150 from vp_in_nI (by omega) (by decide)), if_neg (show ¬ oob (nI i) (stL.getD 3 0) from vp_in_nI (N := 5) hi (by decide)), nI_clamp (show p + i < 2 ^ 31 by omega), nI_clamp (show i < 2 ^ 31 by omega), hb i hi, t2]
          by_cases z : tx (p + i) = wc 3 i
          · refine Or.inl ⟨_, ip (by rw [z]) rfl, rfl, fun j hj => ?_⟩
            by_cases y : j = i
            · subst y; exact z
            · exact hv j (by omega)
          · exact Or.inr ⟨_, ino (fun y => z ((nI_eq (by omega) (by omega)).mp y)) rfl, Or.inr ⟨rfl, fun m => z (m i hi)⟩⟩
        · obtain ⟨rfl, hv⟩ := hv
          exact ⟨_, ip (show Int32.ofNat (stL.getD 3 0) ≤ nI 5 from by decide) rfl, Or.inl ⟨rfl, hv⟩⟩
      obtain ⟨o, e, q⟩ := L
      rw [e, Option.bind_some]
      rcases q with ⟨rfl, m⟩ | ⟨rfl, m⟩
      · exact Or.inl ⟨ino (by decide) rfl, rfl, c, m⟩
      · exact Or.inr ⟨ip rfl rfl, fun z => m z.2⟩
    · refine Or.inr ⟨ino (fun z => c ?_) rfl, fun z => c z.1⟩
      have z : nI (wE tn tx p - p) = nI 5 := z
      have z := (nI_eq (by omega) (by decide)).mp z
      omega
  · refine Or.inr ⟨ino (by rcases so3 with rfl | rfl | rfl <;> decide) rfl, fun z => ?_⟩
    have : wE tn tx p = p := eR_stop (fun z => l (qR_t.mp z).2)
    omega
theorem letter_eq {tn : Nat} {tx : Nat → Nat} {kb mt : Nat → Int32} (T : TX tn tx kb mt) {p i : Nat} (h : p + i < tn) : f_X11_letter (nI p) mt (nI i) = some (nI (tx (p + i))) := by
  have h150 := T.1
  unfold f_X11_letter
  rw [nI_add]
  refine ino (vp_in_nI (by omega) (by decide)) ?_
  rw [nI_clamp (by omega), (T.2 (p + i) h).2.2]
theorem wordHere_eq {tn : Nat} {tx : Nat → Nat} {kb mt : Nat → Int32} (T : TX tn tx kb mt) {p : Nat} (hp : p ≤ tn) : ∃ r, f_X11_wordHere (nI tn) (nI p) mt = some r ∧ ((r = 0 ∧ wE tn tx p = p + 4 ∧ Mat tx p 0 4) ∨ (r = 1 ∧ wE tn tx p = p + 4 ∧ Mat tx p 1 4) ∨ (r = 2 ∧ wE tn tx p = p + 6 ∧ Mat tx p 2 6) ∨ (r = 3 ∧ wE tn tx p = p + 5 ∧ Mat tx p 3 5) ∨ (r = -1 ∧ ¬ (wE tn tx p = p + 4 ∧ Mat tx p 0 4) ∧ ¬ (wE tn tx p = p + 4 ∧ Mat tx p 1 4) ∧ ¬ (wE tn tx p = p + 6 ∧ Mat tx p 2 6) ∧ ¬ (wE tn tx p = p + 5 ∧ Mat tx p 3 5))) := by
  have h150 := T.1
  have hw : p ≤ wE tn tx p ∧ wE tn tx p ≤ tn := eR_le tx 97 122 hp
  unfold f_X11_wordHere
  rw [wordSize_eq T hp, Option.bind_some]
  by_cases n4 : wE tn tx p = p + 4
  · rw [if_pos (show nI (wE tn tx p - p) = (4 : Int32) from by rw [n4, Nat.add_sub_cancel_left]; rfl)]
    have l0 : f_X11_letter (nI p) mt (0 : Int32) = some (nI (tx (p + 0))) := letter_eq T (i := 0) (by omega)
    have t0 := (T.2 (p + 0) (by omega)).1
    have l1 : f_X11_letter (nI p) mt (1 : Int32) = some (nI (tx (p + 1))) := letter_eq T (i := 1) (by omega)
    have t1 := (T.2 (p + 1) (by omega)).1
    have l2 : f_X11_letter (nI p) mt (2 : Int32) = some (nI (tx (p + 2))) := letter_eq T (i := 2) (by omega)
    have t2 := (T.2 (p + 2) (by omega)).1
    have l3 : f_X11_letter (nI p) mt (3 : Int32) = some (nI (tx (p + 3))) := letter_eq T (i := 3) (by omega)
    have t3 := (T.2 (p + 3) (by omega)).1
    have E : ¬ Mat tx p 0 4 → ∃ r, J_X11_wordHere_52 (nI p) mt = some r ∧ ((r = 0 ∧ wE tn tx p = p + 4 ∧ Mat tx p 0 4) ∨ (r = 1 ∧ wE tn tx p = p + 4 ∧ Mat tx p 1 4) ∨ (r = 2 ∧ wE tn tx p = p + 6 ∧ Mat tx p 2 6) ∨ (r = 3 ∧ wE tn tx p = p + 5 ∧ Mat tx p 3 5) ∨ (r = -1 ∧ ¬ (wE tn tx p = p + 4 ∧ Mat tx p 0 4) ∧ ¬ (wE tn tx p = p + 4 ∧ Mat tx p 1 4) ∧ ¬ (wE tn tx p = p + 6 ∧ Mat tx p 2 6) ∧ ¬ (wE tn tx p = p + 5 ∧ Mat tx p 3 5))) := fun m0 => by
      unfold J_X11_wordHere_52
      rw [l0, Option.bind_some]
      by_cases h0 : tx (p + 0) = 119
      · rw [if_pos (show nI (tx (p + 0)) = (119 : Int32) from by rw [h0]; rfl)]
        rw [l1, Option.bind_some]
        by_cases h1 : tx (p + 1) = 111
        · rw [if_pos (show nI (tx (p + 1)) = (111 : Int32) from by rw [h1]; rfl)]
          rw [l2, Option.bind_some]
          by_cases h2 : tx (p + 2) = 114
          · rw [if_pos (show nI (tx (p + 2)) = (114 : Int32) from by rw [h2]; rfl)]
            rw [l3, Option.bind_some]
            by_cases h3 : tx (p + 3) = 100
            · rw [if_pos (show nI (tx (p + 3)) = (100 : Int32) from by rw [h3]; rfl)]
              exact ⟨_, rfl, Or.inr (Or.inl ⟨rfl, n4, fun i hi => by rcases (show i = 0 ∨ i = 1 ∨ i = 2 ∨ i = 3 by omega) with rfl | rfl | rfl | rfl <;> assumption⟩)⟩
            · rw [if_neg (show ¬ nI (tx (p + 3)) = (100 : Int32) from fun z => h3 ((nI_eq (b := 100) (by omega) (by decide)).mp z))]
              exact ⟨_, rfl, Or.inr (Or.inr (Or.inr (Or.inr ⟨rfl, fun z => m0 z.2, fun z => h3 (z.2 3 (by decide)), fun z => by omega, fun z => by omega⟩)))⟩
          · rw [if_neg (show ¬ nI (tx (p + 2)) = (114 : Int32) from fun z => h2 ((nI_eq (b := 114) (by omega) (by decide)).mp z))]
            exact ⟨_, rfl, Or.inr (Or.inr (Or.inr (Or.inr ⟨rfl, fun z => m0 z.2, fun z => h2 (z.2 2 (by decide)), fun z => by omega, fun z => by omega⟩)))⟩
        · rw [if_neg (show ¬ nI (tx (p + 1)) = (111 : Int32) from fun z => h1 ((nI_eq (b := 111) (by omega) (by decide)).mp z))]
          exact ⟨_, rfl, Or.inr (Or.inr (Or.inr (Or.inr ⟨rfl, fun z => m0 z.2, fun z => h1 (z.2 1 (by decide)), fun z => by omega, fun z => by omega⟩)))⟩
      · rw [if_neg (show ¬ nI (tx (p + 0)) = (119 : Int32) from fun z => h0 ((nI_eq (b := 119) (by omega) (by decide)).mp z))]
        exact ⟨_, rfl, Or.inr (Or.inr (Or.inr (Or.inr ⟨rfl, fun z => m0 z.2, fun z => h0 (z.2 0 (by decide)), fun z => by omega, fun z => by omega⟩)))⟩
    rw [l0, Option.bind_some]
    by_cases h0 : tx (p + 0) = 103
    · rw [if_pos (show nI (tx (p + 0)) = (103 : Int32) from by rw [h0]; rfl)]
      rw [l1, Option.bind_some]
      by_cases h1 : tx (p + 1) = 97
      · rw [if_pos (show nI (tx (p + 1)) = (97 : Int32) from by rw [h1]; rfl)]
        rw [l2, Option.bind_some]
        by_cases h2 : tx (p + 2) = 109
        · rw [if_pos (show nI (tx (p + 2)) = (109 : Int32) from by rw [h2]; rfl)]
          rw [l3, Option.bind_some]
          by_cases h3 : tx (p + 3) = 101
          · rw [if_pos (show nI (tx (p + 3)) = (101 : Int32) from by rw [h3]; rfl)]
            exact ⟨_, rfl, Or.inl ⟨rfl, n4, fun i hi => by rcases (show i = 0 ∨ i = 1 ∨ i = 2 ∨ i = 3 by omega) with rfl | rfl | rfl | rfl <;> assumption⟩⟩
          · rw [if_neg (show ¬ nI (tx (p + 3)) = (101 : Int32) from fun z => h3 ((nI_eq (b := 101) (by omega) (by decide)).mp z))]
            exact E (fun z => h3 (z 3 (by decide)))
        · rw [if_neg (show ¬ nI (tx (p + 2)) = (109 : Int32) from fun z => h2 ((nI_eq (b := 109) (by omega) (by decide)).mp z))]
          exact E (fun z => h2 (z 2 (by decide)))
      · rw [if_neg (show ¬ nI (tx (p + 1)) = (97 : Int32) from fun z => h1 ((nI_eq (b := 97) (by omega) (by decide)).mp z))]
        exact E (fun z => h1 (z 1 (by decide)))
    · rw [if_neg (show ¬ nI (tx (p + 0)) = (103 : Int32) from fun z => h0 ((nI_eq (b := 103) (by omega) (by decide)).mp z))]
      exact E (fun z => h0 (z 0 (by decide)))
  · rw [if_neg (show ¬ nI (wE tn tx p - p) = (4 : Int32) from fun z => n4 (by have z := (nI_eq (b := 4) (by omega) (by decide)).mp z; omega))]
    by_cases n5 : wE tn tx p = p + 5
    · rw [if_pos (show nI (wE tn tx p - p) = (5 : Int32) from by rw [n5, Nat.add_sub_cancel_left]; rfl)]
      have l0 : f_X11_letter (nI p) mt (0 : Int32) = some (nI (tx (p + 0))) := letter_eq T (i := 0) (by omega)
      have t0 := (T.2 (p + 0) (by omega)).1
      have l1 : f_X11_letter (nI p) mt (1 : Int32) = some (nI (tx (p + 1))) := letter_eq T (i := 1) (by omega)
      have t1 := (T.2 (p + 1) (by omega)).1
      have l2 : f_X11_letter (nI p) mt (2 : Int32) = some (nI (tx (p + 2))) := letter_eq T (i := 2) (by omega)
      have t2 := (T.2 (p + 2) (by omega)).1
      have l3 : f_X11_letter (nI p) mt (3 : Int32) = some (nI (tx (p + 3))) := letter_eq T (i := 3) (by omega)
      have t3 := (T.2 (p + 3) (by omega)).1
      have l4 : f_X11_letter (nI p) mt (4 : Int32) = some (nI (tx (p + 4))) := letter_eq T (i := 4) (by omega)
      have t4 := (T.2 (p + 4) (by omega)).1
      rw [l0, Option.bind_some]
      by_cases h0 : tx (p + 0) = 103
      · rw [if_pos (show nI (tx (p + 0)) = (103 : Int32) from by rw [h0]; rfl)]
        rw [l1, Option.bind_some]
        by_cases h1 : tx (p + 1) = 117
        · rw [if_pos (show nI (tx (p + 1)) = (117 : Int32) from by rw [h1]; rfl)]
          rw [l2, Option.bind_some]
          by_cases h2 : tx (p + 2) = 101
          · rw [if_pos (show nI (tx (p + 2)) = (101 : Int32) from by rw [h2]; rfl)]
            unfold J_X11_wordHere_138
            rw [if_neg i10]
            rw [l3, Option.bind_some]
            by_cases h3 : tx (p + 3) = 115
            · rw [if_pos (show nI (tx (p + 3)) = (115 : Int32) from by rw [h3]; rfl)]
              rw [l4, Option.bind_some]
              by_cases h4 : tx (p + 4) = 115
              · rw [if_pos (show nI (tx (p + 4)) = (115 : Int32) from by rw [h4]; rfl)]
                exact ⟨_, rfl, Or.inr (Or.inr (Or.inr (Or.inl ⟨rfl, n5, fun i hi => by rcases (show i = 0 ∨ i = 1 ∨ i = 2 ∨ i = 3 ∨ i = 4 by omega) with rfl | rfl | rfl | rfl | rfl <;> assumption⟩)))⟩
              · rw [if_neg (show ¬ nI (tx (p + 4)) = (115 : Int32) from fun z => h4 ((nI_eq (b := 115) (by omega) (by decide)).mp z))]
                exact ⟨_, rfl, Or.inr (Or.inr (Or.inr (Or.inr ⟨rfl, fun z => by omega, fun z => by omega, fun z => by omega, fun z => h4 (z.2 4 (by decide))⟩)))⟩
            · rw [if_neg (show ¬ nI (tx (p + 3)) = (115 : Int32) from fun z => h3 ((nI_eq (b := 115) (by omega) (by decide)).mp z))]
              exact ⟨_, rfl, Or.inr (Or.inr (Or.inr (Or.inr ⟨rfl, fun z => by omega, fun z => by omega, fun z => by omega, fun z => h3 (z.2 3 (by decide))⟩)))⟩
          · rw [if_neg (show ¬ nI (tx (p + 2)) = (101 : Int32) from fun z => h2 ((nI_eq (b := 101) (by omega) (by decide)).mp z))]
            unfold J_X11_wordHere_137 J_X11_wordHere_138
            rw [if_pos rfl]
            exact ⟨_, rfl, Or.inr (Or.inr (Or.inr (Or.inr ⟨rfl, fun z => by omega, fun z => by omega, fun z => by omega, fun z => h2 (z.2 2 (by decide))⟩)))⟩
        · rw [if_neg (show ¬ nI (tx (p + 1)) = (117 : Int32) from fun z => h1 ((nI_eq (b := 117) (by omega) (by decide)).mp z))]
          unfold J_X11_wordHere_137 J_X11_wordHere_138
          rw [if_pos rfl]
          exact ⟨_, rfl, Or.inr (Or.inr (Or.inr (Or.inr ⟨rfl, fun z => by omega, fun z => by omega, fun z => by omega, fun z => h1 (z.2 1 (by decide))⟩)))⟩
      · rw [if_neg (show ¬ nI (tx (p + 0)) = (103 : Int32) from fun z => h0 ((nI_eq (b := 103) (by omega) (by decide)).mp z))]
        unfold J_X11_wordHere_137 J_X11_wordHere_138
        rw [if_pos rfl]
        exact ⟨_, rfl, Or.inr (Or.inr (Or.inr (Or.inr ⟨rfl, fun z => by omega, fun z => by omega, fun z => by omega, fun z => h0 (z.2 0 (by decide))⟩)))⟩
    · rw [if_neg (show ¬ nI (wE tn tx p - p) = (5 : Int32) from fun z => n5 (by have z := (nI_eq (b := 5) (by omega) (by decide)).mp z; omega))]
      by_cases n6 : wE tn tx p = p + 6
      · rw [if_pos (show nI (wE tn tx p - p) = (6 : Int32) from by rw [n6, Nat.add_sub_cancel_left]; rfl)]
        have l0 : f_X11_letter (nI p) mt (0 : Int32) = some (nI (tx (p + 0))) := letter_eq T (i := 0) (by omega)
        have t0 := (T.2 (p + 0) (by omega)).1
        have l1 : f_X11_letter (nI p) mt (1 : Int32) = some (nI (tx (p + 1))) := letter_eq T (i := 1) (by omega)
        have t1 := (T.2 (p + 1) (by omega)).1
        have l2 : f_X11_letter (nI p) mt (2 : Int32) = some (nI (tx (p + 2))) := letter_eq T (i := 2) (by omega)
        have t2 := (T.2 (p + 2) (by omega)).1
        have l3 : f_X11_letter (nI p) mt (3 : Int32) = some (nI (tx (p + 3))) := letter_eq T (i := 3) (by omega)
        have t3 := (T.2 (p + 3) (by omega)).1
        have l4 : f_X11_letter (nI p) mt (4 : Int32) = some (nI (tx (p + 4))) := letter_eq T (i := 4) (by omega)
        have t4 := (T.2 (p + 4) (by omega)).1
        have l5 : f_X11_letter (nI p) mt (5 : Int32) = some (nI (tx (p + 5))) := letter_eq T (i := 5) (by omega)
        have t5 := (T.2 (p + 5) (by omega)).1
        rw [l0, Option.bind_some]
        by_cases h0 : tx (p + 0) = 115
        · rw [if_pos (show nI (tx (p + 0)) = (115 : Int32) from by rw [h0]; rfl)]
          rw [l1, Option.bind_some]
          by_cases h1 : tx (p + 1) = 101
          · rw [if_pos (show nI (tx (p + 1)) = (101 : Int32) from by rw [h1]; rfl)]
            rw [l2, Option.bind_some]
            by_cases h2 : tx (p + 2) = 99
            · rw [if_pos (show nI (tx (p + 2)) = (99 : Int32) from by rw [h2]; rfl)]
              unfold J_X11_wordHere_212
              rw [if_neg i10]
              rw [l3, Option.bind_some]
              by_cases h3 : tx (p + 3) = 114
              · rw [if_pos (show nI (tx (p + 3)) = (114 : Int32) from by rw [h3]; rfl)]
                rw [l4, Option.bind_some]
                by_cases h4 : tx (p + 4) = 101
                · rw [if_pos (show nI (tx (p + 4)) = (101 : Int32) from by rw [h4]; rfl)]
                  rw [l5, Option.bind_some]
                  by_cases h5 : tx (p + 5) = 116
                  · rw [if_pos (show nI (tx (p + 5)) = (116 : Int32) from by rw [h5]; rfl)]
                    exact ⟨_, rfl, Or.inr (Or.inr (Or.inl ⟨rfl, n6, fun i hi => by rcases (show i = 0 ∨ i = 1 ∨ i = 2 ∨ i = 3 ∨ i = 4 ∨ i = 5 by omega) with rfl | rfl | rfl | rfl | rfl | rfl <;> assumption⟩))⟩
                  · rw [if_neg (show ¬ nI (tx (p + 5)) = (116 : Int32) from fun z => h5 ((nI_eq (b := 116) (by omega) (by decide)).mp z))]
                    exact ⟨_, rfl, Or.inr (Or.inr (Or.inr (Or.inr ⟨rfl, fun z => by omega, fun z => by omega, fun z => h5 (z.2 5 (by decide)), fun z => by omega⟩)))⟩
                · rw [if_neg (show ¬ nI (tx (p + 4)) = (101 : Int32) from fun z => h4 ((nI_eq (b := 101) (by omega) (by decide)).mp z))]
                  exact ⟨_, rfl, Or.inr (Or.inr (Or.inr (Or.inr ⟨rfl, fun z => by omega, fun z => by omega, fun z => h4 (z.2 4 (by decide)), fun z => by omega⟩)))⟩
              · rw [if_neg (show ¬ nI (tx (p + 3)) = (114 : Int32) from fun z => h3 ((nI_eq (b := 114) (by omega) (by decide)).mp z))]
                exact ⟨_, rfl, Or.inr (Or.inr (Or.inr (Or.inr ⟨rfl, fun z => by omega, fun z => by omega, fun z => h3 (z.2 3 (by decide)), fun z => by omega⟩)))⟩
            · rw [if_neg (show ¬ nI (tx (p + 2)) = (99 : Int32) from fun z => h2 ((nI_eq (b := 99) (by omega) (by decide)).mp z))]
              unfold J_X11_wordHere_211 J_X11_wordHere_212
              rw [if_pos rfl]
              exact ⟨_, rfl, Or.inr (Or.inr (Or.inr (Or.inr ⟨rfl, fun z => by omega, fun z => by omega, fun z => h2 (z.2 2 (by decide)), fun z => by omega⟩)))⟩
          · rw [if_neg (show ¬ nI (tx (p + 1)) = (101 : Int32) from fun z => h1 ((nI_eq (b := 101) (by omega) (by decide)).mp z))]
            unfold J_X11_wordHere_211 J_X11_wordHere_212
            rw [if_pos rfl]
            exact ⟨_, rfl, Or.inr (Or.inr (Or.inr (Or.inr ⟨rfl, fun z => by omega, fun z => by omega, fun z => h1 (z.2 1 (by decide)), fun z => by omega⟩)))⟩
        · rw [if_neg (show ¬ nI (tx (p + 0)) = (115 : Int32) from fun z => h0 ((nI_eq (b := 115) (by omega) (by decide)).mp z))]
          unfold J_X11_wordHere_211 J_X11_wordHere_212
          rw [if_pos rfl]
          exact ⟨_, rfl, Or.inr (Or.inr (Or.inr (Or.inr ⟨rfl, fun z => by omega, fun z => by omega, fun z => h0 (z.2 0 (by decide)), fun z => by omega⟩)))⟩
      · rw [if_neg (show ¬ nI (wE tn tx p - p) = (6 : Int32) from fun z => n6 (by have z := (nI_eq (b := 6) (by omega) (by decide)).mp z; omega))]
        exact ⟨_, rfl, Or.inr (Or.inr (Or.inr (Or.inr ⟨rfl, fun z => n4 z.1, fun z => n4 z.1, fun z => n6 z.1, fun z => n5 z.1⟩)))⟩
