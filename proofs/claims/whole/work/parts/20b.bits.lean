/-! sets as bits -/
def pcN (L : Nat) : Nat → Nat
  | 0 => 0
  | n + 1 => pcN L n + L / 2 ^ n % 2
theorem sh_l : ∀ n, n < 32 → ((nI n &&& 31).toBitVec.smod 32).toNat = n := by decide +kernel
theorem bit_eq {L k : Nat} (hL : L < 2 ^ 31) (hk : k < 32) : ((nI L >>> (nI k &&& 31)) &&& 1) = nI (L / 2 ^ k % 2) := by
  rw [pk_shrN hL _ k (sh_l k hk), pk_andN (Nat.lt_of_le_of_lt (Nat.div_le_self _ _) (by omega)) 1 (by decide)]
theorem bit_01 (L k : Nat) : L / 2 ^ k % 2 = 0 ∨ L / 2 ^ k % 2 = 1 := by omega
theorem bit_z {L k : Nat} (hL : L < 2 ^ 31) (hk : k < 32) : ((nI L >>> (nI k &&& 31)) &&& 1) = 0 ↔ L.testBit k = false := by
  rw [bit_eq hL hk, Nat.testBit_eq_decide_div_mod_eq]
  rcases bit_01 L k with h | h <;> rw [h] <;> decide
theorem bit_o {L k : Nat} (hL : L < 2 ^ 31) (hk : k < 32) : ((nI L >>> (nI k &&& 31)) &&& 1) = 1 ↔ L.testBit k = true := by
  rw [bit_eq hL hk, Nat.testBit_eq_decide_div_mod_eq]
  rcases bit_01 L k with h | h <;> rw [h] <;> decide
theorem has_eq {L k : Nat} (hL : L < 2 ^ 31) (hk : k < 32) : f_X11_has (nI L) (nI k) = some (if L.testBit k then 1 else 0) := by
  unfold f_X11_has
  cases h : L.testBit k
  · exact ino (fun e => by rw [(bit_o hL hk).mp e] at h; cases h) rfl
  · exact ip ((bit_o hL hk).mpr h) rfl
theorem bc_all : ∀ L : Fin 1024, f_J6_bitCount_0f7a4 (nI L.val) = some (nI (pcN L.val 10)) := by decide +kernel
theorem bits_all : ∀ L : Fin 1024, f_X11_bits (nI L.val) = some (nI (pcN L.val 10)) := by decide +kernel
theorem bc_eq {L : Nat} (h : L < 1024) : f_J6_bitCount_0f7a4 (nI L) = some (nI (pcN L 10)) := bc_all ⟨L, h⟩
theorem bits_eq {L : Nat} (h : L < 1024) : f_X11_bits (nI L) = some (nI (pcN L 10)) := bits_all ⟨L, h⟩
theorem gu_eq {L : Nat} (h : L < 1024) : f_X1_guesses (nI L) = some (nI (pcN L 10)) := b_some (bc_eq h) rfl
theorem p28 {n : Nat} (h : n ≤ 8) : 2 ^ n ≤ 256 := Nat.pow_le_pow_right (by decide) h
/-- a word's number, or not -/
theorem cmpW (v : Int32) {n : Nat} (hn : n ≤ 8) : (f_X10_isBelow v (nI n) = some 0 ∧ f_X11_isWord (nI n) v = some 0) ∨ (∃ k, k < n ∧ v = nI k ∧ f_X10_isBelow v (nI n) = some 1 ∧ f_X11_isWord (nI n) v = some 1) := by
  have key : ∀ b : Int32, b = 0 ∨ b = 1 → f_X11_in v 0 (nI n - 1) = some b → f_X11_isWord (nI n) v = some b := by
    intro b hb h
    unfold f_X11_isWord
    exact b_some h (ip hb rfl)
  rcases Nat.eq_zero_or_pos n with rfl | h0
  · refine Or.inl ⟨?_, key 0 (Or.inl rfl) ?_⟩
    · unfold f_X10_isBelow
      by_cases h : v < 0
      · exact ip h rfl
      · refine ino h (ip ?_ rfl)
        show (0 : Int32) ≤ v
        rw [Int32.not_lt] at h
        exact h
    · unfold f_X11_in
      by_cases h : v < 0
      · exact ip h rfl
      · refine ino h (ip ?_ rfl)
        obtain ⟨k, hk, rfl⟩ := nI_of h
        rw [i_lt, nI_toInt hk]
        have : (nI 0 - 1).toInt = -1 := by decide
        rw [this]
        omega
  · rcases cmp3 v n h0 (by omega) with ⟨h1, h2, -⟩ | ⟨k, hk, rfl, h1, h2, -⟩
    · refine Or.inl ⟨h1, key 0 (Or.inl rfl) ?_⟩
      rw [show nI n - 1 = nI (n - 1) from pk_sub (a := n) (b := 1) h0]
      exact h2
    · refine Or.inr ⟨k, hk, rfl, h1, key 1 (Or.inr rfl) ?_⟩
      rw [show nI n - 1 = nI (n - 1) from pk_sub (a := n) (b := 1) h0]
      exact h2
theorem codeOf_eq {n : Nat} {codes : Nat → Int32} {k : Nat} (hn : n ≤ 8) (hk : k < n) : f_X9_codeOf (nI n) codes (nI k) = some (codes k) := by
  unfold f_X9_codeOf
  refine ino (nI_pos (by omega)) (ino (nI_ge hk (by omega)) (ino (vp_in_nI (by omega) (by decide)) ?_))
  rw [nI_clamp (by omega)]
theorem maskOf_eq {n : Nat} {masks : Nat → Int32} {k l : Nat} (hn : n ≤ 8) (hk : k < n) (hl : l < 10) : f_X9_maskOf (nI n) masks (nI k) (nI l) = some (masks (k * 10 + l)) := by
  unfold f_X9_maskOf
  have e : nI k * (10 : Int32) + nI l = nI (k * 10 + l) := by
    rw [show (10 : Int32) = nI 10 from rfl, pk_mul, nI_add]
  rw [e]
  refine ino (nI_pos (by omega)) (ino (nI_ge hk (by omega)) (ino (nI_pos (by omega)) (ino (nI_ge (b := 10) hl (by decide)) (ino (vp_in_nI (by omega) (by decide)) ?_))))
  rw [nI_clamp (by omega)]
theorem alikeTo_eq {n : Nat} {alike : Nat → Int32} {k l : Nat} (hn : n ≤ 8) (hk : k < n) (hl : l < 10) : f_X9_alikeTo (nI n) alike (nI k) (nI l) = some (alike (k * 10 + l)) := by
  unfold f_X9_alikeTo
  have e : nI k * (10 : Int32) + nI l = nI (k * 10 + l) := by
    rw [show (10 : Int32) = nI 10 from rfl, pk_mul, nI_add]
  rw [e]
  refine ino (nI_pos (by omega)) (ino (nI_ge hk (by omega)) (ino (nI_pos (by omega)) (ino (nI_ge (b := 10) hl (by decide)) (ino (vp_in_nI (by omega) (by decide)) ?_))))
  rw [nI_clamp (by omega)]
theorem mmaskOf_eq {masks : Nat → Int32} {k l : Nat} (hk : k < 8) (hl : l < 10) : f_X11_maskOf masks (nI k) (nI l) = some (masks (10 * k + l)) := by
  unfold f_X11_maskOf
  have e : (10 : Int32) * nI k + nI l = nI (10 * k + l) := by
    rw [show (10 : Int32) = nI 10 from rfl, pk_mul, nI_add]
  rw [e]
  refine ino (vp_in_nI (by omega) (by decide)) ?_
  rw [nI_clamp (by omega)]
theorem having_eq {havers : Nat → Int32} {l : Nat} (hl : l < 10) : f_X9_having havers (nI l) = some (havers l) := by
  unfold f_X9_having
  refine ino (nI_pos (by omega)) (ino (nI_ge (b := 10) hl (by decide)) (ino (vp_in_nI (by omega) (by decide)) ?_))
  rw [nI_clamp (by omega)]
theorem fb_byte_t {k : Nat} (h : k < 128) : (nI k).toInt8.toInt32 = nI k := by
  have : ∀ k : Fin 128, (nI k.val).toInt8.toInt32 = nI k.val := by decide +kernel
  exact this ⟨k, h⟩
theorem howMany_eq {t_kind t_secret t_w_size : Int32} {t_w_codes t_w_masks t_w_alike t_w_havers : Nat → Int32} {t_g_left t_g_guessed t_g_wrong t_n_size : Int32} {t_n_cells : Nat → Int32} {t_m_size : Int32} {t_m_cells : Nat → Int32} {t_p_size : Int32} {t_p_cells : Nat → Int32} {words kindNow secretNow guessed left wrong noteMany markMany undoMany : Int32} {codes noted marked ahead : Nat → Int32} {k_size : Int32} {k_bytes : Nat → Int32} {typed : Int32} {text : Nat → Int32}
    (hT : TabR t_kind t_secret t_w_size t_w_codes t_w_masks t_w_alike t_w_havers t_g_left t_g_guessed t_g_wrong t_n_size t_n_cells t_m_size t_m_cells t_p_size t_p_cells words kindNow secretNow guessed left wrong noteMany markMany undoMany codes noted marked ahead) (hX : TxtR k_size k_bytes typed text) {k : Nat} (hk : k < 10) :
    ∃ r, f_X10_howMany t_kind t_secret t_w_size t_g_left t_g_guessed t_g_wrong t_n_size t_m_size t_p_size k_size (nI k) = some r ∧ f_X11_counted words kindNow secretNow guessed left wrong noteMany markMany typed undoMany (nI k) = some r := by
  obtain ⟨n, kd, sc, lf, gs, nn, nm, np, cd, ⟨hn, rfl, rfl⟩, -, ⟨-, rfl, rfl⟩, ⟨-, -, rfl, rfl⟩, ⟨hlf, rfl, rfl⟩, ⟨⟨hgs, -⟩, rfl, rfl⟩, rfl, ⟨-, rfl, rfl, -⟩, ⟨-, rfl, rfl, -⟩, ⟨-, rfl, rfl, -⟩⟩ := hT
  obtain ⟨tn, -, rfl, rfl, -⟩ := hX
  have hlf : lf < 1024 := Nat.lt_of_lt_of_le hlf (Nat.le_trans (p28 hn) (by decide))
  unfold f_X10_howMany f_X11_counted
  rcases (show k = 0 ∨ k = 1 ∨ k = 2 ∨ k = 3 ∨ k = 4 ∨ k = 5 ∨ k = 6 ∨ k = 7 ∨ k = 8 ∨ k = 9 by omega) with rfl | rfl | rfl | rfl | rfl | rfl | rfl | rfl | rfl | rfl
  · exact ⟨_, ip (by decide) rfl, ip (by decide) rfl⟩
  · exact ⟨_, ino (by decide) (ip (by decide) (b_some (bc_eq hlf) rfl)), ino (by decide) (ip (by decide) (b_some (bits_eq hlf) rfl))⟩
  · exact ⟨_, ino (by decide) (ino (by decide) (ip (by decide) (b_some (gu_eq hgs) rfl))), ino (by decide) (ino (by decide) (ip (by decide) (b_some (bits_eq hgs) rfl)))⟩
  · exact ⟨_, ino (by decide) (ino (by decide) (ino (by decide) (ip (by decide) rfl))), ino (by decide) (ino (by decide) (ino (by decide) (ip (by decide) rfl)))⟩
  · exact ⟨_, ino (by decide) (ino (by decide) (ino (by decide) (ino (by decide) (ip (by decide) rfl)))), ino (by decide) (ino (by decide) (ino (by decide) (ino (by decide) (ip (by decide) rfl))))⟩
  · exact ⟨_, ino (by decide) (ino (by decide) (ino (by decide) (ino (by decide) (ino (by decide) (ip (by decide) rfl))))), ino (by decide) (ino (by decide) (ino (by decide) (ino (by decide) (ino (by decide) (ip (by decide) rfl)))))⟩
  · exact ⟨_, ino (by decide) (ino (by decide) (ino (by decide) (ino (by decide) (ino (by decide) (ino (by decide) (ip (by decide) rfl)))))), ino (by decide) (ino (by decide) (ino (by decide) (ino (by decide) (ino (by decide) (ino (by decide) (ip (by decide) rfl))))))⟩
  · exact ⟨_, ino (by decide) (ino (by decide) (ino (by decide) (ino (by decide) (ino (by decide) (ino (by decide) (ino (by decide) (ip (by decide) rfl))))))), ino (by decide) (ino (by decide) (ino (by decide) (ino (by decide) (ino (by decide) (ino (by decide) (ino (by decide) (ip (by decide) rfl)))))))⟩
  · exact ⟨_, ino (by decide) (ino (by decide) (ino (by decide) (ino (by decide) (ino (by decide) (ino (by decide) (ino (by decide) (ino (by decide) (ip (by decide) rfl)))))))), ino (by decide) (ino (by decide) (ino (by decide) (ino (by decide) (ino (by decide) (ino (by decide) (ino (by decide) (ino (by decide) (ip (by decide) rfl))))))))⟩
  · exact ⟨_, ino (by decide) (ino (by decide) (ino (by decide) (ino (by decide) (ino (by decide) (ino (by decide) (ino (by decide) (ino (by decide) (ino (by decide) rfl)))))))), ino (by decide) (ino (by decide) (ino (by decide) (ino (by decide) (ino (by decide) (ino (by decide) (ino (by decide) (ino (by decide) (ino (by decide) rfl))))))))⟩
theorem left0 : ((1 : Int32) <<< ((0 : Int32) &&& 31)) - (1 : Int32) = nI 0 := by decide
theorem all_eq {n : Nat} (h : n ≤ 8) : ((1 : Int32) <<< (nI n &&& 31)) - (1 : Int32) = nI (2 ^ n - 1) := by
  rcases (show n = 0 ∨ n = 1 ∨ n = 2 ∨ n = 3 ∨ n = 4 ∨ n = 5 ∨ n = 6 ∨ n = 7 ∨ n = 8 by omega) with rfl | rfl | rfl | rfl | rfl | rfl | rfl | rfl | rfl <;> decide
