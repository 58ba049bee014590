theorem lt_loop {L j : Nat} (hL : L ≤ 2560) (hj : 5 * j ≤ L) (h : ¬ (Int32.ofNat L - 5 < nI (5 * j))) : 5 * j + 5 ≤ L := by
  rcases Nat.lt_or_ge L (5 * j + 5) with q | q
  · exfalso
    apply h
    rw [Int32.lt_iff_toInt_lt]
    have h1 : (Int32.ofNat L - 5).toInt = (L : Int) - 5 := pk_sub_toInt (a := L) (b := 5) (by omega) (by omega)
    have h2 : (nI (5 * j)).toInt = ((5 * j : Nat) : Int) := nI_toInt (by omega)
    rw [h1, h2]
    omega
  · exact q
theorem ix_in {L j i : Nat} (hL : L ≤ 2560) (h : 5 * j + 5 ≤ L) (hi : i < 5) : vp_in (nI (5 * j) + nI i) L := by
  rw [nI_add]
  exact vp_in_nI (by omega) (by omega)
set_option maxHeartbeats 16000000 in
set_option maxRecDepth 100000 in
theorem law_loop {p : Program} {l : Launch} {e : Env} {s : State} {m : MethodId} {below : List Frame} {meth : Method} {c : Code} {D : va_G} {cI cB cT : ClassId} {adK adV : Nat → Nat} {b L : Nat} {xs : Nat → Int32} (hL : L ≤ 2560) (C0 : lw_At p s m meth c b L xs) (hG : Gd D cI cB cT s) (hE : SE adK adV (fun q : Nat => s.heap.size ≤ q) s s.heap) :
    ∀ (n j : Nat) (x3 : Int32), 5 * j ≤ L → L + 5 ≤ 5 * j + 5 * n → x3 = nI (5 * j) → ∀ {a_h a_t a_t_w a_t_w_codes a_t_w_masks a_t_w_alike a_t_w_havers a_t_g a_t_n a_t_n_cells a_t_m a_t_m_cells a_t_p a_t_p_cells a_im a_k a_k_bytes a_r a_d a_d_w a_d_w_codes a_d_w_masks a_d_w_alike a_d_w_havers a_d_g a_d_n a_d_n_cells a_d_m a_d_m_cells a_d_p a_d_p_cells a_fr a_su a_su_fewest a_tr a_wp a_sk a_m a_m_refused a_m_codes a_m_noted a_m_marked a_m_masks a_m_text a_m_before a_m_ahead a_m_aside a_m_sure a_m_wrongs a_m_says a_m_evening a_m_images : Nat} {rb : Int32} {rn : Int32} {rf : Int32} {t_kind : Int32} {t_secret : Int32} {t_w_size : Int32} {t_w_codes : Nat → Int32} {t_w_masks : Nat → Int32} {t_w_alike : Nat → Int32} {t_w_havers : Nat → Int32} {t_g_left : Int32} {t_g_guessed : Int32} {t_g_wrong : Int32} {t_n_size : Int32} {t_n_cells : Nat → Int32} {t_m_size : Int32} {t_m_cells : Nat → Int32} {t_p_size : Int32} {t_p_cells : Nat → Int32} {im : Nat → Option Nat} {k_size : Int32} {k_place : Int32} {k_sort : Int32} {k_number : Int32} {k_behind : Int32} {k_bytes : Nat → Int32} {d_kind : Int32} {d_secret : Int32} {d_w_size : Int32} {d_w_codes : Nat → Int32} {d_w_masks : Nat → Int32} {d_w_alike : Nat → Int32} {d_w_havers : Nat → Int32} {d_g_left : Int32} {d_g_guessed : Int32} {d_g_wrong : Int32} {d_n_size : Int32} {d_n_cells : Nat → Int32} {d_m_size : Int32} {d_m_cells : Nat → Int32} {d_p_size : Int32} {d_p_cells : Nat → Int32} {fr_above : Int64} {fr_below : Int64} {su_fewest : Nat → Int32} {tr_left : Int32} {tr_guessed : Int32} {tr_wrong : Int32} {wp : Nat → Int32} {sk : Nat → Int32} {m_words : Int32} {m_kindNow : Int32} {m_secretNow : Int32} {m_guessed : Int32} {m_left : Int32} {m_wrong : Int32} {m_noteMany : Int32} {m_markMany : Int32} {m_typed : Int32} {m_readAt : Int32} {m_readNumber : Int32} {m_undoMany : Int32} {m_lastGuesses : Int32} {m_above : Int64} {m_below : Int64} {m_refused : Nat → Int32} {m_codes : Nat → Int32} {m_noted : Nat → Int32} {m_marked : Nat → Int32} {m_masks : Nat → Int32} {m_text : Nat → Int32} {m_before : Nat → Int32} {m_ahead : Nat → Int32} {m_aside : Nat → Int32} {m_sure : Nat → Int32} {m_wrongs : Nat → Int32} {m_says : Nat → Int32} {m_evening : Nat → Int32} {m_images : Nat → Int32} {e0_kind : Int32} {e0_secret : Int32} {e0_w_size : Int32} {e0_w_codes : Nat → Int32} {e0_w_masks : Nat → Int32} {e0_w_alike : Nat → Int32} {e0_w_havers : Nat → Int32} {e0_g_left : Int32} {e0_g_guessed : Int32} {e0_g_wrong : Int32} {e0_n_size : Int32} {e0_n_cells : Nat → Int32} {e0_m_size : Int32} {e0_m_cells : Nat → Int32} {e0_p_size : Int32} {e0_p_cells : Nat → Int32} {e1_kind : Int32} {e1_secret : Int32} {e1_w_size : Int32} {e1_w_codes : Nat → Int32} {e1_w_masks : Nat → Int32} {e1_w_alike : Nat → Int32} {e1_w_havers : Nat → Int32} {e1_g_left : Int32} {e1_g_guessed : Int32} {e1_g_wrong : Int32} {e1_n_size : Int32} {e1_n_cells : Nat → Int32} {e1_m_size : Int32} {e1_m_cells : Nat → Int32} {e1_p_size : Int32} {e1_p_cells : Nat → Int32} (ex0 ex1 : va_W) (H : Heap) (locs : List Loc), (RR t_kind t_secret t_w_size t_w_codes t_w_masks t_w_alike t_w_havers t_g_left t_g_guessed t_g_wrong t_n_size t_n_cells t_m_size t_m_cells t_p_size t_p_cells k_size k_bytes im fr_above fr_below rb rn rf m_words m_kindNow m_secretNow m_guessed m_left m_wrong m_noteMany m_markMany m_undoMany m_codes m_noted m_marked m_ahead m_masks m_typed m_text m_above m_below m_refused m_images e0_kind e0_secret e0_w_size e0_w_codes e0_w_masks e0_w_alike e0_w_havers e0_g_left e0_g_guessed e0_g_wrong e0_n_size e0_n_cells e0_m_size e0_m_cells e0_p_size e0_p_cells e1_kind e1_secret e1_w_size e1_w_codes e1_w_masks e1_w_alike e1_w_havers e1_g_left e1_g_guessed e1_g_wrong e1_n_size e1_n_cells e1_m_size e1_m_cells e1_p_size e1_p_cells) → (XQ 0 im ex0 cI cB cT e0_kind e0_secret e0_w_size e0_w_codes e0_w_masks e0_w_alike e0_w_havers e0_g_left e0_g_guessed e0_g_wrong e0_n_size e0_n_cells e0_m_size e0_m_cells e0_p_size e0_p_cells) → (XQ 1 im ex1 cI cB cT e1_kind e1_secret e1_w_size e1_w_codes e1_w_masks e1_w_alike e1_w_havers e1_g_left e1_g_guessed e1_g_wrong e1_n_size e1_n_cells e1_m_size e1_m_cells e1_p_size e1_p_cells) → va_P D vwCl ((wd_h a_h a_t a_t_w a_t_w_codes a_t_w_masks a_t_w_alike a_t_w_havers a_t_g a_t_n a_t_n_cells a_t_m a_t_m_cells a_t_p a_t_p_cells a_im a_k a_k_bytes a_r a_d a_d_w a_d_w_codes a_d_w_masks a_d_w_alike a_d_w_havers a_d_g a_d_n a_d_n_cells a_d_m a_d_m_cells a_d_p a_d_p_cells a_fr a_su a_su_fewest a_tr a_wp a_sk cI cB cT rb rn rf t_kind t_secret t_w_size t_w_codes t_w_masks t_w_alike t_w_havers t_g_left t_g_guessed t_g_wrong t_n_size t_n_cells t_m_size t_m_cells t_p_size t_p_cells im k_size k_place k_sort k_number k_behind k_bytes d_kind d_secret d_w_size d_w_codes d_w_masks d_w_alike d_w_havers d_g_left d_g_guessed d_g_wrong d_n_size d_n_cells d_m_size d_m_cells d_p_size d_p_cells fr_above fr_below su_fewest tr_left tr_guessed tr_wrong wp sk) ++ ((wd_m a_m a_m_refused a_m_codes a_m_noted a_m_marked a_m_masks a_m_text a_m_before a_m_ahead a_m_aside a_m_sure a_m_wrongs a_m_says a_m_evening a_m_images cI cB cT m_words m_kindNow m_secretNow m_guessed m_left m_wrong m_noteMany m_markMany m_typed m_readAt m_readNumber m_undoMany m_lastGuesses m_above m_below m_refused m_codes m_noted m_marked m_masks m_text m_before m_ahead m_aside m_sure m_wrongs m_says m_evening m_images) ++ (ex0 ++ ex1))) H → va_D (fun q : Nat => s.heap.size ≤ q) ((wd_h a_h a_t a_t_w a_t_w_codes a_t_w_masks a_t_w_alike a_t_w_havers a_t_g a_t_n a_t_n_cells a_t_m a_t_m_cells a_t_p a_t_p_cells a_im a_k a_k_bytes a_r a_d a_d_w a_d_w_codes a_d_w_masks a_d_w_alike a_d_w_havers a_d_g a_d_n a_d_n_cells a_d_m a_d_m_cells a_d_p a_d_p_cells a_fr a_su a_su_fewest a_tr a_wp a_sk cI cB cT rb rn rf t_kind t_secret t_w_size t_w_codes t_w_masks t_w_alike t_w_havers t_g_left t_g_guessed t_g_wrong t_n_size t_n_cells t_m_size t_m_cells t_p_size t_p_cells im k_size k_place k_sort k_number k_behind k_bytes d_kind d_secret d_w_size d_w_codes d_w_masks d_w_alike d_w_havers d_g_left d_g_guessed d_g_wrong d_n_size d_n_cells d_m_size d_m_cells d_p_size d_p_cells fr_above fr_below su_fewest tr_left tr_guessed tr_wrong wp sk) ++ ((wd_m a_m a_m_refused a_m_codes a_m_noted a_m_marked a_m_masks a_m_text a_m_before a_m_ahead a_m_aside a_m_sure a_m_wrongs a_m_says a_m_evening a_m_images cI cB cT m_words m_kindNow m_secretNow m_guessed m_left m_wrong m_noteMany m_markMany m_typed m_readAt m_readNumber m_undoMany m_lastGuesses m_above m_below m_refused m_codes m_noted m_marked m_masks m_text m_before m_ahead m_aside m_sure m_wrongs m_says m_evening m_images) ++ (ex0 ++ ex1))) → va_S (fun q : Nat => s.heap.size ≤ q) s.heap H locs → ∀ (ls : Array Slot), lv_has ls 4 [(0, .ref b), (1, .ref a_h), (2, .ref a_m), (3, .int x3)] → W p l e room_1 s m #[Value.ref b] below meth c H locs (52 + 13 * j) (1960 + 279 * j) (lw_Z below #[Value.ref b] s) (F0 m 18 ls []) := by
  obtain ⟨hx, hb, hr, hml, hown, hts0, hX, hbl, hlocks, hgv⟩ := id C0
  have hbA : ¬ (fun q : Nat => s.heap.size ≤ q) b := Nat.not_le.mpr hbl
  intro n
  induction n with
  | zero =>
    intro j x3 h1 h2
    exact absurd h2 (by omega)
  | succ n ih =>
    intro j x3 hj hn ex3 a_h a_t a_t_w a_t_w_codes a_t_w_masks a_t_w_alike a_t_w_havers a_t_g a_t_n a_t_n_cells a_t_m a_t_m_cells a_t_p a_t_p_cells a_im a_k a_k_bytes a_r a_d a_d_w a_d_w_codes a_d_w_masks a_d_w_alike a_d_w_havers a_d_g a_d_n a_d_n_cells a_d_m a_d_m_cells a_d_p a_d_p_cells a_fr a_su a_su_fewest a_tr a_wp a_sk a_m a_m_refused a_m_codes a_m_noted a_m_marked a_m_masks a_m_text a_m_before a_m_ahead a_m_aside a_m_sure a_m_wrongs a_m_says a_m_evening a_m_images rb rn rf t_kind t_secret t_w_size t_w_codes t_w_masks t_w_alike t_w_havers t_g_left t_g_guessed t_g_wrong t_n_size t_n_cells t_m_size t_m_cells t_p_size t_p_cells im k_size k_place k_sort k_number k_behind k_bytes d_kind d_secret d_w_size d_w_codes d_w_masks d_w_alike d_w_havers d_g_left d_g_guessed d_g_wrong d_n_size d_n_cells d_m_size d_m_cells d_p_size d_p_cells fr_above fr_below su_fewest tr_left tr_guessed tr_wrong wp sk m_words m_kindNow m_secretNow m_guessed m_left m_wrong m_noteMany m_markMany m_typed m_readAt m_readNumber m_undoMany m_lastGuesses m_above m_below m_refused m_codes m_noted m_marked m_masks m_text m_before m_ahead m_aside m_sure m_wrongs m_says m_evening m_images e0_kind e0_secret e0_w_size e0_w_codes e0_w_masks e0_w_alike e0_w_havers e0_g_left e0_g_guessed e0_g_wrong e0_n_size e0_n_cells e0_m_size e0_m_cells e0_p_size e0_p_cells e1_kind e1_secret e1_w_size e1_w_codes e1_w_masks e1_w_alike e1_w_havers e1_g_left e1_g_guessed e1_g_wrong e1_n_size e1_n_cells e1_m_size e1_m_cells e1_p_size e1_p_cells ex0 ex1 H locs hR X0 X1 hP hD hS ls hl
    have hj2 : j ≤ 512 := by omega
    have hcs : 52 + 13 * j ≤ room_1.cells ∧ 1960 + 279 * j ≤ room_1.slots := ⟨by show _ ≤ 600000; omega, by show _ ≤ 7302250; omega⟩
    refine lv_iload_n hx hb dL_law_18 rfl (lv_at hl 3 rfl) ?_
    refine lv_aload_n hx hb dL_law_19 rfl (lv_at hl 0 rfl) ?_
    refine va_slen hx hb hX hbl hbA hS dL_law_20 ?_
    refine lv_iconst (v := (5 : Int32)) hx hb dL_law_21 (by decide) ?_
    refine lv_isub hx hb dL_law_22 ?_
    refine lv_icmp_gt (tgt := 1001) hx hb dL_law_23 (by decide) (fun c0 => ?_) (fun c0 => ?_)
    · refine lv_iconst (v := (1 : Int32)) hx hb dL_law_1001 (by decide) ?_
      refine va_forget (fun q hq => hS.2.2 q hq) ?_
      refine W.widen (k := 600000) (n := 7302250) (by omega) (by omega) ?_
      exact lw_ret hx hb hr hlocks dL_law_1002
    have hlt : 5 * j + 5 ≤ L := lt_loop hL hj (by rw [← ex3]; exact c0)
    have h0 : vp_in x3 L := by rw [ex3]; exact vp_in_nI (by omega) (by omega)
    have h1 : vp_in (x3 + (1 : Int32)) L := by rw [ex3]; exact ix_in (i := 1) hL hlt (by decide)
    have h2 : vp_in (x3 + (2 : Int32)) L := by rw [ex3]; exact ix_in (i := 2) hL hlt (by decide)
    have h3 : vp_in (x3 + (3 : Int32)) L := by rw [ex3]; exact ix_in (i := 3) hL hlt (by decide)
    have h4 : vp_in (x3 + (4 : Int32)) L := by rw [ex3]; exact ix_in (i := 4) hL hlt (by decide)
    have nxt : ∀ {a_t a_t_w a_t_w_codes a_t_w_masks a_t_w_alike a_t_w_havers a_t_g a_t_n a_t_n_cells a_t_m a_t_m_cells a_t_p a_t_p_cells a_im a_k a_k_bytes a_r a_d a_d_w a_d_w_codes a_d_w_masks a_d_w_alike a_d_w_havers a_d_g a_d_n a_d_n_cells a_d_m a_d_m_cells a_d_p a_d_p_cells a_fr a_su a_su_fewest a_tr a_wp a_sk  a_m_refused a_m_codes a_m_noted a_m_marked a_m_masks a_m_text a_m_before a_m_ahead a_m_aside a_m_sure a_m_wrongs a_m_says a_m_evening a_m_images : Nat} {rb : Int32} {rn : Int32} {rf : Int32} {t_kind : Int32} {t_secret : Int32} {t_w_size : Int32} {t_w_codes : Nat → Int32} {t_w_masks : Nat → Int32} {t_w_alike : Nat → Int32} {t_w_havers : Nat → Int32} {t_g_left : Int32} {t_g_guessed : Int32} {t_g_wrong : Int32} {t_n_size : Int32} {t_n_cells : Nat → Int32} {t_m_size : Int32} {t_m_cells : Nat → Int32} {t_p_size : Int32} {t_p_cells : Nat → Int32} {im : Nat → Option Nat} {k_size : Int32} {k_place : Int32} {k_sort : Int32} {k_number : Int32} {k_behind : Int32} {k_bytes : Nat → Int32} {d_kind : Int32} {d_secret : Int32} {d_w_size : Int32} {d_w_codes : Nat → Int32} {d_w_masks : Nat → Int32} {d_w_alike : Nat → Int32} {d_w_havers : Nat → Int32} {d_g_left : Int32} {d_g_guessed : Int32} {d_g_wrong : Int32} {d_n_size : Int32} {d_n_cells : Nat → Int32} {d_m_size : Int32} {d_m_cells : Nat → Int32} {d_p_size : Int32} {d_p_cells : Nat → Int32} {fr_above : Int64} {fr_below : Int64} {su_fewest : Nat → Int32} {tr_left : Int32} {tr_guessed : Int32} {tr_wrong : Int32} {wp : Nat → Int32} {sk : Nat → Int32} {m_words : Int32} {m_kindNow : Int32} {m_secretNow : Int32} {m_guessed : Int32} {m_left : Int32} {m_wrong : Int32} {m_noteMany : Int32} {m_markMany : Int32} {m_typed : Int32} {m_readAt : Int32} {m_readNumber : Int32} {m_undoMany : Int32} {m_lastGuesses : Int32} {m_above : Int64} {m_below : Int64} {m_refused : Nat → Int32} {m_codes : Nat → Int32} {m_noted : Nat → Int32} {m_marked : Nat → Int32} {m_masks : Nat → Int32} {m_text : Nat → Int32} {m_before : Nat → Int32} {m_ahead : Nat → Int32} {m_aside : Nat → Int32} {m_sure : Nat → Int32} {m_wrongs : Nat → Int32} {m_says : Nat → Int32} {m_evening : Nat → Int32} {m_images : Nat → Int32} {e0_kind : Int32} {e0_secret : Int32} {e0_w_size : Int32} {e0_w_codes : Nat → Int32} {e0_w_masks : Nat → Int32} {e0_w_alike : Nat → Int32} {e0_w_havers : Nat → Int32} {e0_g_left : Int32} {e0_g_guessed : Int32} {e0_g_wrong : Int32} {e0_n_size : Int32} {e0_n_cells : Nat → Int32} {e0_m_size : Int32} {e0_m_cells : Nat → Int32} {e0_p_size : Int32} {e0_p_cells : Nat → Int32} {e1_kind : Int32} {e1_secret : Int32} {e1_w_size : Int32} {e1_w_codes : Nat → Int32} {e1_w_masks : Nat → Int32} {e1_w_alike : Nat → Int32} {e1_w_havers : Nat → Int32} {e1_g_left : Int32} {e1_g_guessed : Int32} {e1_g_wrong : Int32} {e1_n_size : Int32} {e1_n_cells : Nat → Int32} {e1_m_size : Int32} {e1_m_cells : Nat → Int32} {e1_p_size : Int32} {e1_p_cells : Nat → Int32} (ex0 ex1 : va_W) (H : Heap) (locs : List Loc), (RR t_kind t_secret t_w_size t_w_codes t_w_masks t_w_alike t_w_havers t_g_left t_g_guessed t_g_wrong t_n_size t_n_cells t_m_size t_m_cells t_p_size t_p_cells k_size k_bytes im fr_above fr_below rb rn rf m_words m_kindNow m_secretNow m_guessed m_left m_wrong m_noteMany m_markMany m_undoMany m_codes m_noted m_marked m_ahead m_masks m_typed m_text m_above m_below m_refused m_images e0_kind e0_secret e0_w_size e0_w_codes e0_w_masks e0_w_alike e0_w_havers e0_g_left e0_g_guessed e0_g_wrong e0_n_size e0_n_cells e0_m_size e0_m_cells e0_p_size e0_p_cells e1_kind e1_secret e1_w_size e1_w_codes e1_w_masks e1_w_alike e1_w_havers e1_g_left e1_g_guessed e1_g_wrong e1_n_size e1_n_cells e1_m_size e1_m_cells e1_p_size e1_p_cells) → (XQ 0 im ex0 cI cB cT e0_kind e0_secret e0_w_size e0_w_codes e0_w_masks e0_w_alike e0_w_havers e0_g_left e0_g_guessed e0_g_wrong e0_n_size e0_n_cells e0_m_size e0_m_cells e0_p_size e0_p_cells) → (XQ 1 im ex1 cI cB cT e1_kind e1_secret e1_w_size e1_w_codes e1_w_masks e1_w_alike e1_w_havers e1_g_left e1_g_guessed e1_g_wrong e1_n_size e1_n_cells e1_m_size e1_m_cells e1_p_size e1_p_cells) → va_P D vwCl ((wd_h a_h a_t a_t_w a_t_w_codes a_t_w_masks a_t_w_alike a_t_w_havers a_t_g a_t_n a_t_n_cells a_t_m a_t_m_cells a_t_p a_t_p_cells a_im a_k a_k_bytes a_r a_d a_d_w a_d_w_codes a_d_w_masks a_d_w_alike a_d_w_havers a_d_g a_d_n a_d_n_cells a_d_m a_d_m_cells a_d_p a_d_p_cells a_fr a_su a_su_fewest a_tr a_wp a_sk cI cB cT rb rn rf t_kind t_secret t_w_size t_w_codes t_w_masks t_w_alike t_w_havers t_g_left t_g_guessed t_g_wrong t_n_size t_n_cells t_m_size t_m_cells t_p_size t_p_cells im k_size k_place k_sort k_number k_behind k_bytes d_kind d_secret d_w_size d_w_codes d_w_masks d_w_alike d_w_havers d_g_left d_g_guessed d_g_wrong d_n_size d_n_cells d_m_size d_m_cells d_p_size d_p_cells fr_above fr_below su_fewest tr_left tr_guessed tr_wrong wp sk) ++ ((wd_m a_m a_m_refused a_m_codes a_m_noted a_m_marked a_m_masks a_m_text a_m_before a_m_ahead a_m_aside a_m_sure a_m_wrongs a_m_says a_m_evening a_m_images cI cB cT m_words m_kindNow m_secretNow m_guessed m_left m_wrong m_noteMany m_markMany m_typed m_readAt m_readNumber m_undoMany m_lastGuesses m_above m_below m_refused m_codes m_noted m_marked m_masks m_text m_before m_ahead m_aside m_sure m_wrongs m_says m_evening m_images) ++ (ex0 ++ ex1))) H → va_D (fun q : Nat => s.heap.size ≤ q) ((wd_h a_h a_t a_t_w a_t_w_codes a_t_w_masks a_t_w_alike a_t_w_havers a_t_g a_t_n a_t_n_cells a_t_m a_t_m_cells a_t_p a_t_p_cells a_im a_k a_k_bytes a_r a_d a_d_w a_d_w_codes a_d_w_masks a_d_w_alike a_d_w_havers a_d_g a_d_n a_d_n_cells a_d_m a_d_m_cells a_d_p a_d_p_cells a_fr a_su a_su_fewest a_tr a_wp a_sk cI cB cT rb rn rf t_kind t_secret t_w_size t_w_codes t_w_masks t_w_alike t_w_havers t_g_left t_g_guessed t_g_wrong t_n_size t_n_cells t_m_size t_m_cells t_p_size t_p_cells im k_size k_place k_sort k_number k_behind k_bytes d_kind d_secret d_w_size d_w_codes d_w_masks d_w_alike d_w_havers d_g_left d_g_guessed d_g_wrong d_n_size d_n_cells d_m_size d_m_cells d_p_size d_p_cells fr_above fr_below su_fewest tr_left tr_guessed tr_wrong wp sk) ++ ((wd_m a_m a_m_refused a_m_codes a_m_noted a_m_marked a_m_masks a_m_text a_m_before a_m_ahead a_m_aside a_m_sure a_m_wrongs a_m_says a_m_evening a_m_images cI cB cT m_words m_kindNow m_secretNow m_guessed m_left m_wrong m_noteMany m_markMany m_typed m_readAt m_readNumber m_undoMany m_lastGuesses m_above m_below m_refused m_codes m_noted m_marked m_masks m_text m_before m_ahead m_aside m_sure m_wrongs m_says m_evening m_images) ++ (ex0 ++ ex1))) → va_S (fun q : Nat => s.heap.size ≤ q) s.heap H locs → W p l e room_1 s m #[Value.ref b] below meth c H locs (52 + 13 * (j + 1)) (1960 + 279 * (j + 1)) (lw_Z below #[Value.ref b] s) (F0 m 995 ls []) := by
      intro a_t a_t_w a_t_w_codes a_t_w_masks a_t_w_alike a_t_w_havers a_t_g a_t_n a_t_n_cells a_t_m a_t_m_cells a_t_p a_t_p_cells a_im a_k a_k_bytes a_r a_d a_d_w a_d_w_codes a_d_w_masks a_d_w_alike a_d_w_havers a_d_g a_d_n a_d_n_cells a_d_m a_d_m_cells a_d_p a_d_p_cells a_fr a_su a_su_fewest a_tr a_wp a_sk a_m_refused a_m_codes a_m_noted a_m_marked a_m_masks a_m_text a_m_before a_m_ahead a_m_aside a_m_sure a_m_wrongs a_m_says a_m_evening a_m_images rb rn rf t_kind t_secret t_w_size t_w_codes t_w_masks t_w_alike t_w_havers t_g_left t_g_guessed t_g_wrong t_n_size t_n_cells t_m_size t_m_cells t_p_size t_p_cells im k_size k_place k_sort k_number k_behind k_bytes d_kind d_secret d_w_size d_w_codes d_w_masks d_w_alike d_w_havers d_g_left d_g_guessed d_g_wrong d_n_size d_n_cells d_m_size d_m_cells d_p_size d_p_cells fr_above fr_below su_fewest tr_left tr_guessed tr_wrong wp sk m_words m_kindNow m_secretNow m_guessed m_left m_wrong m_noteMany m_markMany m_typed m_readAt m_readNumber m_undoMany m_lastGuesses m_above m_below m_refused m_codes m_noted m_marked m_masks m_text m_before m_ahead m_aside m_sure m_wrongs m_says m_evening m_images e0_kind e0_secret e0_w_size e0_w_codes e0_w_masks e0_w_alike e0_w_havers e0_g_left e0_g_guessed e0_g_wrong e0_n_size e0_n_cells e0_m_size e0_m_cells e0_p_size e0_p_cells e1_kind e1_secret e1_w_size e1_w_codes e1_w_masks e1_w_alike e1_w_havers e1_g_left e1_g_guessed e1_g_wrong e1_n_size e1_n_cells e1_m_size e1_m_cells e1_p_size e1_p_cells ex0 ex1 H locs hR X0 X1 hP hD hS
      refine lv_iinc (v := (x3 + (5 : Int32))) (lv' := [(3, .int (x3 + (5 : Int32))), (0, .ref b), (1, .ref a_h), (2, .ref a_m)]) hx hb dL_law_995 hl (k := 3) rfl (iinc_eq (by decide)) (by decide) rfl (fun ls hl => ?_)
      refine lv_goto (tgt := 18) hx hb dL_law_998 (by decide) ?_
      exact ih (j + 1) (x3 + 5) (by omega) (by omega) (by rw [ex3]; exact nI_add (5 * j) 5) ex0 ex1 H locs hR X0 X1 hP hD hS ls (lv_sub hl [1, 2, 3, 0] rfl)
    refine lv_aload_n hx hb dL_law_26 rfl (lv_at hl 0 rfl) ?_
    refine lv_iload_n hx hb dL_law_27 rfl (lv_at hl 3 rfl) ?_
    refine va_sld hx hb hX hbl hbA hS h0 dL_law_28 ?_
    refine lv_bipush (v := (63 : Int32)) hx hb dL_law_29 (by decide) ?_
    refine lv_iand hx hb dL_law_31 ?_
    generalize xs x3.toNatClampNeg &&& 63 = vk
    by_cases ck0 : vk = (0 : Int32)
    · refine lv_tableIn (off := 156) (tgt := 188) hx hb dL_law_32 (by rw [ck0]; decide) (by rw [ck0]; decide) (by rw [ck0]; decide) (by decide) ?_
      obtain ⟨z, y, ez, ey, eq, hR2⟩ := sim_0 k_place k_sort k_number k_behind d_kind d_secret d_w_size d_w_codes d_w_masks d_w_alike d_w_havers d_g_left d_g_guessed d_g_wrong d_n_size d_n_cells d_m_size d_m_cells d_p_size d_p_cells su_fewest tr_left tr_guessed tr_wrong wp sk m_readAt m_readNumber m_lastGuesses m_before m_aside m_sure m_wrongs m_says m_evening (xs (x3 + (1 : Int32)).toNatClampNeg) hR
      refine lc_0 C0 hG hcs h1 rfl hP hD hS hl ez ey eq (fun H locs hP hD hS => ?_)
      refine W.widen (k := 52 + 13 * (j + 1)) (n := 1960 + 279 * (j + 1)) (by omega) (by omega) ?_
      exact nxt ex0 ex1 H locs hR2 X0 X1 hP hD hS
    by_cases ck1 : vk = (1 : Int32)
    · refine lv_tableIn (off := 179) (tgt := 211) hx hb dL_law_32 (by rw [ck1]; decide) (by rw [ck1]; decide) (by rw [ck1]; decide) (by decide) ?_
      obtain ⟨z, y, ez, ey, eq, hR2⟩ := sim_1 k_place k_sort k_number k_behind d_kind d_secret d_w_size d_w_codes d_w_masks d_w_alike d_w_havers d_g_left d_g_guessed d_g_wrong d_n_size d_n_cells d_m_size d_m_cells d_p_size d_p_cells su_fewest tr_left tr_guessed tr_wrong wp sk m_readAt m_readNumber m_lastGuesses m_before m_aside m_sure m_wrongs m_says m_evening (xs (x3 + (1 : Int32)).toNatClampNeg) hR
      refine lc_1 C0 hG hcs h1 rfl hP hD hS hl ez ey eq (fun H locs hP hD hS => ?_)
      refine W.widen (k := 52 + 13 * (j + 1)) (n := 1960 + 279 * (j + 1)) (by omega) (by omega) ?_
      exact nxt ex0 ex1 H locs hR2 X0 X1 hP hD hS
    by_cases ck2 : vk = (2 : Int32)
    · refine lv_tableIn (off := 202) (tgt := 234) hx hb dL_law_32 (by rw [ck2]; decide) (by rw [ck2]; decide) (by rw [ck2]; decide) (by decide) ?_
      obtain ⟨z, y, ez, ey, eq, hR2⟩ := sim_2 k_place k_sort k_number k_behind d_kind d_secret d_w_size d_w_codes d_w_masks d_w_alike d_w_havers d_g_left d_g_guessed d_g_wrong d_n_size d_n_cells d_m_size d_m_cells d_p_size d_p_cells su_fewest tr_left tr_guessed tr_wrong wp sk m_readAt m_readNumber m_lastGuesses m_before m_aside m_sure m_wrongs m_says m_evening (xs (x3 + (1 : Int32)).toNatClampNeg) hR
      refine lc_2 C0 hG hcs h1 rfl hP hD hS hl ez ey eq (fun H locs hP hD hS => ?_)
      refine W.widen (k := 52 + 13 * (j + 1)) (n := 1960 + 279 * (j + 1)) (by omega) (by omega) ?_
      exact nxt ex0 ex1 H locs hR2 X0 X1 hP hD hS
    by_cases ck3 : vk = (3 : Int32)
    · refine lv_tableIn (off := 225) (tgt := 257) hx hb dL_law_32 (by rw [ck3]; decide) (by rw [ck3]; decide) (by rw [ck3]; decide) (by decide) ?_
      obtain ⟨z, y, ez, ey, eq, hR2⟩ := sim_3 k_place k_sort k_number k_behind d_kind d_secret d_w_size d_w_codes d_w_masks d_w_alike d_w_havers d_g_left d_g_guessed d_g_wrong d_n_size d_n_cells d_m_size d_m_cells d_p_size d_p_cells su_fewest tr_left tr_guessed tr_wrong wp sk m_readAt m_readNumber m_lastGuesses m_before m_aside m_sure m_wrongs m_says m_evening (xs (x3 + (1 : Int32)).toNatClampNeg) hR
      refine lc_3 C0 hG hcs h1 rfl hP hD hS hl ez ey eq (fun H locs hP hD hS => ?_)
      refine W.widen (k := 52 + 13 * (j + 1)) (n := 1960 + 279 * (j + 1)) (by omega) (by omega) ?_
      exact nxt ex0 ex1 H locs hR2 X0 X1 hP hD hS
    by_cases ck4 : vk = (4 : Int32)
    · refine lv_tableIn (off := 248) (tgt := 280) hx hb dL_law_32 (by rw [ck4]; decide) (by rw [ck4]; decide) (by rw [ck4]; decide) (by decide) ?_
      obtain ⟨z, y, ez, ey, eq, hR2⟩ := sim_4 k_place k_sort k_number k_behind d_kind d_secret d_w_size d_w_codes d_w_masks d_w_alike d_w_havers d_g_left d_g_guessed d_g_wrong d_n_size d_n_cells d_m_size d_m_cells d_p_size d_p_cells su_fewest tr_left tr_guessed tr_wrong wp sk m_readAt m_readNumber m_lastGuesses m_before m_aside m_sure m_wrongs m_says m_evening  hR
      refine lc_4 C0 hG hcs  hP hD hS hl ez ey eq (fun H locs hP hD hS => ?_)
      refine W.widen (k := 52 + 13 * (j + 1)) (n := 1960 + 279 * (j + 1)) (by omega) (by omega) ?_
      exact nxt ex0 ex1 H locs hR2 X0 X1 hP hD hS
    by_cases ck5 : vk = (5 : Int32)
    · refine lv_tableIn (off := 261) (tgt := 293) hx hb dL_law_32 (by rw [ck5]; decide) (by rw [ck5]; decide) (by rw [ck5]; decide) (by decide) ?_
      obtain ⟨z, y, ez, ey, eq, hR2⟩ := sim_5 k_place k_sort k_number k_behind d_kind d_secret d_w_size d_w_codes d_w_masks d_w_alike d_w_havers d_g_left d_g_guessed d_g_wrong d_n_size d_n_cells d_m_size d_m_cells d_p_size d_p_cells su_fewest tr_left tr_guessed tr_wrong wp sk m_readAt m_readNumber m_lastGuesses m_before m_aside m_sure m_wrongs m_says m_evening  hR
      refine lc_5 C0 hG hE hcs  hP hD hS hl ez ey eq (fun H locs hP hD hS => ?_)
      refine W.widen (k := 52 + 13 * (j + 1)) (n := 1960 + 279 * (j + 1)) (by omega) (by omega) ?_
      exact nxt ex0 ex1 H locs hR2 X0 X1 hP hD hS
    by_cases ck6 : vk = (6 : Int32)
    · refine lv_tableIn (off := 274) (tgt := 306) hx hb dL_law_32 (by rw [ck6]; decide) (by rw [ck6]; decide) (by rw [ck6]; decide) (by decide) ?_
      obtain ⟨z, y, ez, ey, eq, hR2⟩ := sim_6 k_place k_sort k_number k_behind d_kind d_secret d_w_size d_w_codes d_w_masks d_w_alike d_w_havers d_g_left d_g_guessed d_g_wrong d_n_size d_n_cells d_m_size d_m_cells d_p_size d_p_cells su_fewest tr_left tr_guessed tr_wrong wp sk m_readAt m_readNumber m_lastGuesses m_before m_aside m_sure m_wrongs m_says m_evening (xs (x3 + (1 : Int32)).toNatClampNeg) hR
      refine lc_6 C0 hG hcs h1 rfl hP hD hS hl ez ey eq (fun H locs hP hD hS => ?_)
      refine W.widen (k := 52 + 13 * (j + 1)) (n := 1960 + 279 * (j + 1)) (by omega) (by omega) ?_
      exact nxt ex0 ex1 H locs hR2 X0 X1 hP hD hS
    by_cases ck7 : vk = (7 : Int32)
    · refine lv_tableIn (off := 297) (tgt := 329) hx hb dL_law_32 (by rw [ck7]; decide) (by rw [ck7]; decide) (by rw [ck7]; decide) (by decide) ?_
      obtain ⟨z, y, ez, ey, eq, hR2⟩ := sim_7 k_place k_sort k_number k_behind d_kind d_secret d_w_size d_w_codes d_w_masks d_w_alike d_w_havers d_g_left d_g_guessed d_g_wrong d_n_size d_n_cells d_m_size d_m_cells d_p_size d_p_cells su_fewest tr_left tr_guessed tr_wrong wp sk m_readAt m_readNumber m_lastGuesses m_before m_aside m_sure m_wrongs m_says m_evening (xs (x3 + (1 : Int32)).toNatClampNeg) hR
      refine lc_7 C0 hG hcs h1 rfl hP hD hS hl ez ey eq (fun H locs hP hD hS => ?_)
      refine W.widen (k := 52 + 13 * (j + 1)) (n := 1960 + 279 * (j + 1)) (by omega) (by omega) ?_
      exact nxt ex0 ex1 H locs hR2 X0 X1 hP hD hS
    by_cases ck8 : vk = (8 : Int32)
    · refine lv_tableIn (off := 320) (tgt := 352) hx hb dL_law_32 (by rw [ck8]; decide) (by rw [ck8]; decide) (by rw [ck8]; decide) (by decide) ?_
      obtain ⟨z, y, ez, ey, eq, hR2⟩ := sim_8 k_place k_sort k_number k_behind d_kind d_secret d_w_size d_w_codes d_w_masks d_w_alike d_w_havers d_g_left d_g_guessed d_g_wrong d_n_size d_n_cells d_m_size d_m_cells d_p_size d_p_cells su_fewest tr_left tr_guessed tr_wrong wp sk m_readAt m_readNumber m_lastGuesses m_before m_aside m_sure m_wrongs m_says m_evening  hR
      refine lc_8 C0 hG hcs  hP hD hS hl ez ey eq (fun H locs hP hD hS => ?_)
      refine W.widen (k := 52 + 13 * (j + 1)) (n := 1960 + 279 * (j + 1)) (by omega) (by omega) ?_
      exact nxt ex0 ex1 H locs hR2 X0 X1 hP hD hS
    by_cases ck9 : vk = (9 : Int32)
    · refine lv_tableIn (off := 333) (tgt := 365) hx hb dL_law_32 (by rw [ck9]; decide) (by rw [ck9]; decide) (by rw [ck9]; decide) (by decide) ?_
      obtain ⟨z, y, ez, ey, eq, hR2⟩ := sim_9 k_place k_sort k_number k_behind d_kind d_secret d_w_size d_w_codes d_w_masks d_w_alike d_w_havers d_g_left d_g_guessed d_g_wrong d_n_size d_n_cells d_m_size d_m_cells d_p_size d_p_cells su_fewest tr_left tr_guessed tr_wrong wp sk m_readAt m_readNumber m_lastGuesses m_before m_aside m_sure m_wrongs m_says m_evening  hR
      refine lc_9 C0 hG hcs  hP hD hS hl ez ey eq (fun H locs hP hD hS => ?_)
      refine W.widen (k := 52 + 13 * (j + 1)) (n := 1960 + 279 * (j + 1)) (by omega) (by omega) ?_
      exact nxt ex0 ex1 H locs hR2 X0 X1 hP hD hS
    by_cases ck10 : vk = (10 : Int32)
    · refine lv_tableIn (off := 346) (tgt := 378) hx hb dL_law_32 (by rw [ck10]; decide) (by rw [ck10]; decide) (by rw [ck10]; decide) (by decide) ?_
      obtain ⟨z, y, ez, ey, eq, hR2⟩ := sim_10 k_place k_sort k_number k_behind d_kind d_secret d_w_size d_w_codes d_w_masks d_w_alike d_w_havers d_g_left d_g_guessed d_g_wrong d_n_size d_n_cells d_m_size d_m_cells d_p_size d_p_cells su_fewest tr_left tr_guessed tr_wrong wp sk m_readAt m_readNumber m_lastGuesses m_before m_aside m_sure m_wrongs m_says m_evening (xs (x3 + (1 : Int32)).toNatClampNeg) (xs (x3 + (2 : Int32)).toNatClampNeg) hR
      refine lc_10 C0 hG hcs h1 rfl h2 rfl hP hD hS hl ez ey eq (fun H locs hP hD hS => ?_)
      refine W.widen (k := 52 + 13 * (j + 1)) (n := 1960 + 279 * (j + 1)) (by omega) (by omega) ?_
      exact nxt ex0 ex1 H locs hR2 X0 X1 hP hD hS
    by_cases ck11 : vk = (11 : Int32)
    · refine lv_tableIn (off := 379) (tgt := 411) hx hb dL_law_32 (by rw [ck11]; decide) (by rw [ck11]; decide) (by rw [ck11]; decide) (by decide) ?_
      obtain ⟨z, y, ez, ey, eq, hR2⟩ := sim_11 k_place k_sort k_number k_behind d_kind d_secret d_w_size d_w_codes d_w_masks d_w_alike d_w_havers d_g_left d_g_guessed d_g_wrong d_n_size d_n_cells d_m_size d_m_cells d_p_size d_p_cells su_fewest tr_left tr_guessed tr_wrong wp sk m_readAt m_readNumber m_lastGuesses m_before m_aside m_sure m_wrongs m_says m_evening (xs (x3 + (1 : Int32)).toNatClampNeg) (xs (x3 + (2 : Int32)).toNatClampNeg) hR
      refine lc_11 C0 hG hcs h1 rfl h2 rfl hP hD hS hl ez ey eq (fun H locs hP hD hS => ?_)
      refine W.widen (k := 52 + 13 * (j + 1)) (n := 1960 + 279 * (j + 1)) (by omega) (by omega) ?_
      exact nxt ex0 ex1 H locs hR2 X0 X1 hP hD hS
    by_cases ck12 : vk = (12 : Int32)
    · refine lv_tableIn (off := 412) (tgt := 444) hx hb dL_law_32 (by rw [ck12]; decide) (by rw [ck12]; decide) (by rw [ck12]; decide) (by decide) ?_
      obtain ⟨z, y, ez, ey, eq, hR2⟩ := sim_12 k_place k_sort k_number k_behind d_kind d_secret d_w_size d_w_codes d_w_masks d_w_alike d_w_havers d_g_left d_g_guessed d_g_wrong d_n_size d_n_cells d_m_size d_m_cells d_p_size d_p_cells su_fewest tr_left tr_guessed tr_wrong wp sk m_readAt m_readNumber m_lastGuesses m_before m_aside m_sure m_wrongs m_says m_evening (xs (x3 + (1 : Int32)).toNatClampNeg) hR
      refine lc_12 C0 hG hcs h1 rfl hP hD hS hl ez ey eq (fun H locs hP hD hS => ?_)
      refine W.widen (k := 52 + 13 * (j + 1)) (n := 1960 + 279 * (j + 1)) (by omega) (by omega) ?_
      exact nxt ex0 ex1 H locs hR2 X0 X1 hP hD hS
    by_cases ck13 : vk = (13 : Int32)
    · refine lv_tableIn (off := 435) (tgt := 467) hx hb dL_law_32 (by rw [ck13]; decide) (by rw [ck13]; decide) (by rw [ck13]; decide) (by decide) ?_
      obtain ⟨z, y, ez, ey, eq, hR2⟩ := sim_13 k_place k_sort k_number k_behind d_kind d_secret d_w_size d_w_codes d_w_masks d_w_alike d_w_havers d_g_left d_g_guessed d_g_wrong d_n_size d_n_cells d_m_size d_m_cells d_p_size d_p_cells su_fewest tr_left tr_guessed tr_wrong wp sk m_readAt m_readNumber m_lastGuesses m_before m_aside m_sure m_wrongs m_says m_evening (xs (x3 + (1 : Int32)).toNatClampNeg) (xs (x3 + (2 : Int32)).toNatClampNeg) hR
      refine lc_13 C0 hG hcs h1 rfl h2 rfl hP hD hS hl ez ey eq (fun H locs hP hD hS => ?_)
      refine W.widen (k := 52 + 13 * (j + 1)) (n := 1960 + 279 * (j + 1)) (by omega) (by omega) ?_
      exact nxt ex0 ex1 H locs hR2 X0 X1 hP hD hS
    by_cases ck14 : vk = (14 : Int32)
    · refine lv_tableIn (off := 468) (tgt := 500) hx hb dL_law_32 (by rw [ck14]; decide) (by rw [ck14]; decide) (by rw [ck14]; decide) (by decide) ?_
      obtain ⟨z, y, ez, ey, eq, hR2⟩ := sim_14 k_place k_sort k_number k_behind d_kind d_secret d_w_size d_w_codes d_w_masks d_w_alike d_w_havers d_g_left d_g_guessed d_g_wrong d_n_size d_n_cells d_m_size d_m_cells d_p_size d_p_cells su_fewest tr_left tr_guessed tr_wrong wp sk m_readAt m_readNumber m_lastGuesses m_before m_aside m_sure m_wrongs m_says m_evening  hR
      refine lc_14 C0 hG hcs  hP hD hS hl ez ey eq (fun H locs hP hD hS => ?_)
      refine W.widen (k := 52 + 13 * (j + 1)) (n := 1960 + 279 * (j + 1)) (by omega) (by omega) ?_
      exact nxt ex0 ex1 H locs hR2 X0 X1 hP hD hS
    by_cases ck15 : vk = (15 : Int32)
    · refine lv_tableIn (off := 481) (tgt := 513) hx hb dL_law_32 (by rw [ck15]; decide) (by rw [ck15]; decide) (by rw [ck15]; decide) (by decide) ?_
      obtain ⟨z, y, ez, ey, eq, hR2⟩ := sim_15 k_place k_sort k_number k_behind d_kind d_secret d_w_size d_w_codes d_w_masks d_w_alike d_w_havers d_g_left d_g_guessed d_g_wrong d_n_size d_n_cells d_m_size d_m_cells d_p_size d_p_cells su_fewest tr_left tr_guessed tr_wrong wp sk m_readAt m_readNumber m_lastGuesses m_before m_aside m_sure m_wrongs m_says m_evening (xs (x3 + (1 : Int32)).toNatClampNeg) hR
      refine lc_15 C0 hG hcs h1 rfl hP hD hS hl ez ey eq (fun H locs hP hD hS => ?_)
      refine W.widen (k := 52 + 13 * (j + 1)) (n := 1960 + 279 * (j + 1)) (by omega) (by omega) ?_
      exact nxt ex0 ex1 H locs hR2 X0 X1 hP hD hS
    by_cases ck16 : vk = (16 : Int32)
    · refine lv_tableIn (off := 504) (tgt := 536) hx hb dL_law_32 (by rw [ck16]; decide) (by rw [ck16]; decide) (by rw [ck16]; decide) (by decide) ?_
      obtain ⟨z, y, ez, ey, eq, hR2⟩ := sim_16 k_place k_sort k_number k_behind d_kind d_secret d_w_size d_w_codes d_w_masks d_w_alike d_w_havers d_g_left d_g_guessed d_g_wrong d_n_size d_n_cells d_m_size d_m_cells d_p_size d_p_cells su_fewest tr_left tr_guessed tr_wrong wp sk m_readAt m_readNumber m_lastGuesses m_before m_aside m_sure m_wrongs m_says m_evening (xs (x3 + (1 : Int32)).toNatClampNeg) hR
      refine lc_16 C0 hG hcs h1 rfl hP hD hS hl ez ey eq (fun H locs hP hD hS => ?_)
      refine W.widen (k := 52 + 13 * (j + 1)) (n := 1960 + 279 * (j + 1)) (by omega) (by omega) ?_
      exact nxt ex0 ex1 H locs hR2 X0 X1 hP hD hS
    by_cases ck17 : vk = (17 : Int32)
    · refine lv_tableIn (off := 527) (tgt := 559) hx hb dL_law_32 (by rw [ck17]; decide) (by rw [ck17]; decide) (by rw [ck17]; decide) (by decide) ?_
      obtain ⟨z, y, ez, ey, eq, hR2⟩ := sim_17 k_place k_sort k_number k_behind d_kind d_secret d_w_size d_w_codes d_w_masks d_w_alike d_w_havers d_g_left d_g_guessed d_g_wrong d_n_size d_n_cells d_m_size d_m_cells d_p_size d_p_cells su_fewest tr_left tr_guessed tr_wrong wp sk m_readAt m_readNumber m_lastGuesses m_before m_aside m_sure m_wrongs m_says m_evening (xs (x3 + (1 : Int32)).toNatClampNeg) (xs (x3 + (2 : Int32)).toNatClampNeg) hR
      refine lc_17 C0 hG hcs h1 rfl h2 rfl hP hD hS hl ez ey eq (fun H locs hP hD hS => ?_)
      refine W.widen (k := 52 + 13 * (j + 1)) (n := 1960 + 279 * (j + 1)) (by omega) (by omega) ?_
      exact nxt ex0 ex1 H locs hR2 X0 X1 hP hD hS
    by_cases ck18 : vk = (18 : Int32)
    · refine lv_tableIn (off := 560) (tgt := 592) hx hb dL_law_32 (by rw [ck18]; decide) (by rw [ck18]; decide) (by rw [ck18]; decide) (by decide) ?_
      obtain ⟨z, y, ez, ey, eq, hR2⟩ := sim_18 k_place k_sort k_number k_behind d_kind d_secret d_w_size d_w_codes d_w_masks d_w_alike d_w_havers d_g_left d_g_guessed d_g_wrong d_n_size d_n_cells d_m_size d_m_cells d_p_size d_p_cells su_fewest tr_left tr_guessed tr_wrong wp sk m_readAt m_readNumber m_lastGuesses m_before m_aside m_sure m_wrongs m_says m_evening (xs (x3 + (1 : Int32)).toNatClampNeg) hR
      refine lc_18 C0 hG hcs h1 rfl hP hD hS hl ez ey eq (fun H locs hP hD hS => ?_)
      refine W.widen (k := 52 + 13 * (j + 1)) (n := 1960 + 279 * (j + 1)) (by omega) (by omega) ?_
      exact nxt ex0 ex1 H locs hR2 X0 X1 hP hD hS
    by_cases ck19 : vk = (19 : Int32)
    · refine lv_tableIn (off := 583) (tgt := 615) hx hb dL_law_32 (by rw [ck19]; decide) (by rw [ck19]; decide) (by rw [ck19]; decide) (by decide) ?_
      obtain ⟨z, y, ez, ey, eq, hR2⟩ := sim_19 k_place k_sort k_number k_behind d_kind d_secret d_w_size d_w_codes d_w_masks d_w_alike d_w_havers d_g_left d_g_guessed d_g_wrong d_n_size d_n_cells d_m_size d_m_cells d_p_size d_p_cells su_fewest tr_left tr_guessed tr_wrong wp sk m_readAt m_readNumber m_lastGuesses m_before m_aside m_sure m_wrongs m_says m_evening (xs (x3 + (1 : Int32)).toNatClampNeg) hR
      refine lc_19 C0 hG hcs h1 rfl hP hD hS hl ez ey eq (fun H locs hP hD hS => ?_)
      refine W.widen (k := 52 + 13 * (j + 1)) (n := 1960 + 279 * (j + 1)) (by omega) (by omega) ?_
      exact nxt ex0 ex1 H locs hR2 X0 X1 hP hD hS
    by_cases ck20 : vk = (20 : Int32)
    · refine lv_tableIn (off := 606) (tgt := 638) hx hb dL_law_32 (by rw [ck20]; decide) (by rw [ck20]; decide) (by rw [ck20]; decide) (by decide) ?_
      obtain ⟨z, y, ez, ey, eq, hR2⟩ := sim_20 k_place k_sort k_number k_behind d_kind d_secret d_w_size d_w_codes d_w_masks d_w_alike d_w_havers d_g_left d_g_guessed d_g_wrong d_n_size d_n_cells d_m_size d_m_cells d_p_size d_p_cells su_fewest tr_left tr_guessed tr_wrong wp sk m_readAt m_readNumber m_lastGuesses m_before m_aside m_sure m_wrongs m_says m_evening (xs (x3 + (1 : Int32)).toNatClampNeg) hR
      refine lc_20 C0 hG hcs h1 rfl hP hD hS hl ez ey eq (fun H locs hP hD hS => ?_)
      refine W.widen (k := 52 + 13 * (j + 1)) (n := 1960 + 279 * (j + 1)) (by omega) (by omega) ?_
      exact nxt ex0 ex1 H locs hR2 X0 X1 hP hD hS
    by_cases ck21 : vk = (21 : Int32)
    · refine lv_tableIn (off := 629) (tgt := 661) hx hb dL_law_32 (by rw [ck21]; decide) (by rw [ck21]; decide) (by rw [ck21]; decide) (by decide) ?_
      obtain ⟨z, y, ez, ey, eq, hR2⟩ := sim_21 k_place k_sort k_number k_behind d_kind d_secret d_w_size d_w_codes d_w_masks d_w_alike d_w_havers d_g_left d_g_guessed d_g_wrong d_n_size d_n_cells d_m_size d_m_cells d_p_size d_p_cells su_fewest tr_left tr_guessed tr_wrong wp sk m_readAt m_readNumber m_lastGuesses m_before m_aside m_sure m_wrongs m_says m_evening (xs (x3 + (1 : Int32)).toNatClampNeg) (xs (x3 + (2 : Int32)).toNatClampNeg) (xs (x3 + (3 : Int32)).toNatClampNeg) (xs (x3 + (4 : Int32)).toNatClampNeg) hR
      refine lc_21 C0 hG hcs h1 rfl h2 rfl h3 rfl h4 rfl hP hD hS hl ez ey eq (fun H locs hP hD hS => ?_)
      refine W.widen (k := 52 + 13 * (j + 1)) (n := 1960 + 279 * (j + 1)) (by omega) (by omega) ?_
      exact nxt ex0 ex1 H locs hR2 X0 X1 hP hD hS
    by_cases ck22 : vk = (22 : Int32)
    · refine lv_tableIn (off := 682) (tgt := 714) hx hb dL_law_32 (by rw [ck22]; decide) (by rw [ck22]; decide) (by rw [ck22]; decide) (by decide) ?_
      obtain ⟨z, y, ez, ey, eq, hR2⟩ := sim_22 k_place k_sort k_number k_behind d_kind d_secret d_w_size d_w_codes d_w_masks d_w_alike d_w_havers d_g_left d_g_guessed d_g_wrong d_n_size d_n_cells d_m_size d_m_cells d_p_size d_p_cells su_fewest tr_left tr_guessed tr_wrong wp sk m_readAt m_readNumber m_lastGuesses m_before m_aside m_sure m_wrongs m_says m_evening (xs (x3 + (1 : Int32)).toNatClampNeg) (xs (x3 + (2 : Int32)).toNatClampNeg) (xs (x3 + (3 : Int32)).toNatClampNeg) hR
      refine lc_22 C0 hG hcs h1 rfl h2 rfl h3 rfl hP hD hS hl ez ey eq (fun H locs hP hD hS => ?_)
      refine W.widen (k := 52 + 13 * (j + 1)) (n := 1960 + 279 * (j + 1)) (by omega) (by omega) ?_
      exact nxt ex0 ex1 H locs hR2 X0 X1 hP hD hS
    by_cases ck23 : vk = (23 : Int32)
    · refine lv_tableIn (off := 725) (tgt := 757) hx hb dL_law_32 (by rw [ck23]; decide) (by rw [ck23]; decide) (by rw [ck23]; decide) (by decide) ?_
      obtain ⟨z, y, ez, ey, eq, hR2⟩ := sim_23 k_place k_sort k_number k_behind d_kind d_secret d_w_size d_w_codes d_w_masks d_w_alike d_w_havers d_g_left d_g_guessed d_g_wrong d_n_size d_n_cells d_m_size d_m_cells d_p_size d_p_cells su_fewest tr_left tr_guessed tr_wrong wp sk m_readAt m_readNumber m_lastGuesses m_before m_aside m_sure m_wrongs m_says m_evening (xs (x3 + (1 : Int32)).toNatClampNeg) hR
      refine lc_23 C0 hG hcs h1 rfl hP hD hS hl ez ey eq (fun H locs hP hD hS => ?_)
      refine W.widen (k := 52 + 13 * (j + 1)) (n := 1960 + 279 * (j + 1)) (by omega) (by omega) ?_
      exact nxt ex0 ex1 H locs hR2 X0 X1 hP hD hS
    by_cases ck24 : vk = (24 : Int32)
    · refine lv_tableIn (off := 748) (tgt := 780) hx hb dL_law_32 (by rw [ck24]; decide) (by rw [ck24]; decide) (by rw [ck24]; decide) (by decide) ?_
      obtain ⟨z, y, ez, ey, eq, hR2⟩ := sim_24 k_place k_sort k_number k_behind d_kind d_secret d_w_size d_w_codes d_w_masks d_w_alike d_w_havers d_g_left d_g_guessed d_g_wrong d_n_size d_n_cells d_m_size d_m_cells d_p_size d_p_cells su_fewest tr_left tr_guessed tr_wrong wp sk m_readAt m_readNumber m_lastGuesses m_before m_aside m_sure m_wrongs m_says m_evening  hR
      refine lc_24 C0 hG hcs  hP hD hS hl ez ey eq (fun H locs hP hD hS => ?_)
      refine W.widen (k := 52 + 13 * (j + 1)) (n := 1960 + 279 * (j + 1)) (by omega) (by omega) ?_
      exact nxt ex0 ex1 H locs hR2 X0 X1 hP hD hS
    by_cases ck25 : vk = (25 : Int32)
    · refine lv_tableIn (off := 761) (tgt := 793) hx hb dL_law_32 (by rw [ck25]; decide) (by rw [ck25]; decide) (by rw [ck25]; decide) (by decide) ?_
      obtain ⟨z, y, ez, ey, eq, hR2⟩ := sim_25 k_place k_sort k_number k_behind d_kind d_secret d_w_size d_w_codes d_w_masks d_w_alike d_w_havers d_g_left d_g_guessed d_g_wrong d_n_size d_n_cells d_m_size d_m_cells d_p_size d_p_cells su_fewest tr_left tr_guessed tr_wrong wp sk m_readAt m_readNumber m_lastGuesses m_before m_aside m_sure m_wrongs m_says m_evening  hR
      refine lc_25 C0 hG hcs  hP hD hS hl ez ey eq (fun H locs hP hD hS => ?_)
      refine W.widen (k := 52 + 13 * (j + 1)) (n := 1960 + 279 * (j + 1)) (by omega) (by omega) ?_
      exact nxt ex0 ex1 H locs hR2 X0 X1 hP hD hS
    by_cases ck26 : vk = (26 : Int32)
    · refine lv_tableIn (off := 774) (tgt := 806) hx hb dL_law_32 (by rw [ck26]; decide) (by rw [ck26]; decide) (by rw [ck26]; decide) (by decide) ?_
      obtain ⟨z, y, ez, ey, eq, hR2⟩ := sim_26 k_place k_sort k_number k_behind d_kind d_secret d_w_size d_w_codes d_w_masks d_w_alike d_w_havers d_g_left d_g_guessed d_g_wrong d_n_size d_n_cells d_m_size d_m_cells d_p_size d_p_cells su_fewest tr_left tr_guessed tr_wrong wp sk m_readAt m_readNumber m_lastGuesses m_before m_aside m_sure m_wrongs m_says m_evening  hR
      refine lc_26 C0 hG hcs  hP hD hS hl ez ey eq (fun H locs hP hD hS => ?_)
      refine W.widen (k := 52 + 13 * (j + 1)) (n := 1960 + 279 * (j + 1)) (by omega) (by omega) ?_
      exact nxt ex0 ex1 H locs hR2 X0 X1 hP hD hS
    by_cases ck27 : vk = (27 : Int32)
    · refine lv_tableIn (off := 787) (tgt := 819) hx hb dL_law_32 (by rw [ck27]; decide) (by rw [ck27]; decide) (by rw [ck27]; decide) (by decide) ?_
      obtain ⟨z, y, ez, ey, eq, hR2⟩ := sim_27 k_place k_sort k_number k_behind d_kind d_secret d_w_size d_w_codes d_w_masks d_w_alike d_w_havers d_g_left d_g_guessed d_g_wrong d_n_size d_n_cells d_m_size d_m_cells d_p_size d_p_cells su_fewest tr_left tr_guessed tr_wrong wp sk m_readAt m_readNumber m_lastGuesses m_before m_aside m_sure m_wrongs m_says m_evening  hR
      refine lc_27 C0 hG hcs  hP hD hS hl ez ey eq (fun H locs hP hD hS => ?_)
      refine W.widen (k := 52 + 13 * (j + 1)) (n := 1960 + 279 * (j + 1)) (by omega) (by omega) ?_
      exact nxt ex0 ex1 H locs hR2 X0 X1 hP hD hS
    by_cases ck28 : vk = (28 : Int32)
    · refine lv_tableIn (off := 800) (tgt := 832) hx hb dL_law_32 (by rw [ck28]; decide) (by rw [ck28]; decide) (by rw [ck28]; decide) (by decide) ?_
      obtain ⟨z, y, ez, ey, eq, hR2⟩ := sim_28 k_place k_sort k_number k_behind d_kind d_secret d_w_size d_w_codes d_w_masks d_w_alike d_w_havers d_g_left d_g_guessed d_g_wrong d_n_size d_n_cells d_m_size d_m_cells d_p_size d_p_cells su_fewest tr_left tr_guessed tr_wrong wp sk m_readAt m_readNumber m_lastGuesses m_before m_aside m_sure m_wrongs m_says m_evening (xs (x3 + (1 : Int32)).toNatClampNeg) (xs (x3 + (2 : Int32)).toNatClampNeg) hR
      refine lc_28 C0 hG hcs h1 rfl h2 rfl hP hD hS hl ez ey eq (fun H locs hP hD hS => ?_)
      refine W.widen (k := 52 + 13 * (j + 1)) (n := 1960 + 279 * (j + 1)) (by omega) (by omega) ?_
      exact nxt ex0 ex1 H locs hR2 X0 X1 hP hD hS
    by_cases ck29 : vk = (29 : Int32)
    · refine lv_tableIn (off := 833) (tgt := 865) hx hb dL_law_32 (by rw [ck29]; decide) (by rw [ck29]; decide) (by rw [ck29]; decide) (by decide) ?_
      obtain ⟨z, y, ez, ey, eq, hR2⟩ := sim_29 k_place k_sort k_number k_behind d_kind d_secret d_w_size d_w_codes d_w_masks d_w_alike d_w_havers d_g_left d_g_guessed d_g_wrong d_n_size d_n_cells d_m_size d_m_cells d_p_size d_p_cells su_fewest tr_left tr_guessed tr_wrong wp sk m_readAt m_readNumber m_lastGuesses m_before m_aside m_sure m_wrongs m_says m_evening (xs (x3 + (1 : Int32)).toNatClampNeg) hR
      refine lc_29 C0 hG hcs h1 rfl hP hD hS hl ez ey eq (fun H locs hP hD hS => ?_)
      refine W.widen (k := 52 + 13 * (j + 1)) (n := 1960 + 279 * (j + 1)) (by omega) (by omega) ?_
      exact nxt ex0 ex1 H locs hR2 X0 X1 hP hD hS
    by_cases ck30 : vk = (30 : Int32)
    · refine lv_tableIn (off := 857) (tgt := 889) hx hb dL_law_32 (by rw [ck30]; decide) (by rw [ck30]; decide) (by rw [ck30]; decide) (by decide) ?_
      exact case_image hL C0 hG hcs hj2 h1 hR X0 X1 hP hD hS hl nxt
    by_cases ck31 : vk = (31 : Int32)
    · refine lv_tableIn (off := 880) (tgt := 912) hx hb dL_law_32 (by rw [ck31]; decide) (by rw [ck31]; decide) (by rw [ck31]; decide) (by decide) ?_
      exact case_from hL C0 hG hcs hj2 h1 hR X0 X1 hP hD hS hl nxt
    by_cases ck32 : vk = (32 : Int32)
    · refine lv_tableIn (off := 903) (tgt := 935) hx hb dL_law_32 (by rw [ck32]; decide) (by rw [ck32]; decide) (by rw [ck32]; decide) (by decide) ?_
      obtain ⟨z, y, ez, ey, eq, hR2⟩ := sim_32 k_place k_sort k_number k_behind d_kind d_secret d_w_size d_w_codes d_w_masks d_w_alike d_w_havers d_g_left d_g_guessed d_g_wrong d_n_size d_n_cells d_m_size d_m_cells d_p_size d_p_cells su_fewest tr_left tr_guessed tr_wrong wp sk m_readAt m_readNumber m_lastGuesses m_before m_aside m_sure m_wrongs m_says m_evening (xs (x3 + (1 : Int32)).toNatClampNeg) hR
      refine lc_32 C0 hG hcs h1 rfl hP hD hS hl ez ey eq (fun H locs hP hD hS => ?_)
      refine W.widen (k := 52 + 13 * (j + 1)) (n := 1960 + 279 * (j + 1)) (by omega) (by omega) ?_
      exact nxt ex0 ex1 H locs hR2 X0 X1 hP hD hS
    by_cases ck33 : vk = (33 : Int32)
    · refine lv_tableIn (off := 926) (tgt := 958) hx hb dL_law_32 (by rw [ck33]; decide) (by rw [ck33]; decide) (by rw [ck33]; decide) (by decide) ?_
      obtain ⟨z, y, ez, ey, eq, hR2⟩ := sim_33 k_place k_sort k_number k_behind d_kind d_secret d_w_size d_w_codes d_w_masks d_w_alike d_w_havers d_g_left d_g_guessed d_g_wrong d_n_size d_n_cells d_m_size d_m_cells d_p_size d_p_cells su_fewest tr_left tr_guessed tr_wrong wp sk m_readAt m_readNumber m_lastGuesses m_before m_aside m_sure m_wrongs m_says m_evening (xs (x3 + (1 : Int32)).toNatClampNeg) hR
      refine lc_33 C0 hG hcs h1 rfl hP hD hS hl ez ey eq (fun H locs hP hD hS => ?_)
      refine W.widen (k := 52 + 13 * (j + 1)) (n := 1960 + 279 * (j + 1)) (by omega) (by omega) ?_
      exact nxt ex0 ex1 H locs hR2 X0 X1 hP hD hS
    by_cases ck34 : vk = (34 : Int32)
    · refine lv_tableIn (off := 949) (tgt := 981) hx hb dL_law_32 (by rw [ck34]; decide) (by rw [ck34]; decide) (by rw [ck34]; decide) (by decide) ?_
      obtain ⟨z, y, ez, ey, eq, hR2⟩ := sim_34 k_place k_sort k_number k_behind d_kind d_secret d_w_size d_w_codes d_w_masks d_w_alike d_w_havers d_g_left d_g_guessed d_g_wrong d_n_size d_n_cells d_m_size d_m_cells d_p_size d_p_cells su_fewest tr_left tr_guessed tr_wrong wp sk m_readAt m_readNumber m_lastGuesses m_before m_aside m_sure m_wrongs m_says m_evening  hR
      refine lc_34 C0 hG hcs  hP hD hS hl ez ey eq (fun H locs hP hD hS => ?_)
      refine W.widen (k := 52 + 13 * (j + 1)) (n := 1960 + 279 * (j + 1)) (by omega) (by omega) ?_
      exact nxt ex0 ex1 H locs hR2 X0 X1 hP hD hS
    refine lv_tableOut (tgt := 995) hx hb dL_law_32 (sw_out (fun z g1 g2 g3 => ?_)) (by decide) ?_
    · have h4 : z = 0 ∨ z = 1 ∨ z = 2 ∨ z = 3 ∨ z = 4 ∨ z = 5 ∨ z = 6 ∨ z = 7 ∨ z = 8 ∨ z = 9 ∨ z = 10 ∨ z = 11 ∨ z = 12 ∨ z = 13 ∨ z = 14 ∨ z = 15 ∨ z = 16 ∨ z = 17 ∨ z = 18 ∨ z = 19 ∨ z = 20 ∨ z = 21 ∨ z = 22 ∨ z = 23 ∨ z = 24 ∨ z = 25 ∨ z = 26 ∨ z = 27 ∨ z = 28 ∨ z = 29 ∨ z = 30 ∨ z = 31 ∨ z = 32 ∨ z = 33 ∨ z = 34 := by omega
      rcases h4 with h4 | h4 | h4 | h4 | h4 | h4 | h4 | h4 | h4 | h4 | h4 | h4 | h4 | h4 | h4 | h4 | h4 | h4 | h4 | h4 | h4 | h4 | h4 | h4 | h4 | h4 | h4 | h4 | h4 | h4 | h4 | h4 | h4 | h4 | h4
      · exact ck0 (Int32.toInt_inj.mp (by rw [g3, h4]; decide))
      · exact ck1 (Int32.toInt_inj.mp (by rw [g3, h4]; decide))
      · exact ck2 (Int32.toInt_inj.mp (by rw [g3, h4]; decide))
      · exact ck3 (Int32.toInt_inj.mp (by rw [g3, h4]; decide))
      · exact ck4 (Int32.toInt_inj.mp (by rw [g3, h4]; decide))
      · exact ck5 (Int32.toInt_inj.mp (by rw [g3, h4]; decide))
      · exact ck6 (Int32.toInt_inj.mp (by rw [g3, h4]; decide))
      · exact ck7 (Int32.toInt_inj.mp (by rw [g3, h4]; decide))
      · exact ck8 (Int32.toInt_inj.mp (by rw [g3, h4]; decide))
      · exact ck9 (Int32.toInt_inj.mp (by rw [g3, h4]; decide))
      · exact ck10 (Int32.toInt_inj.mp (by rw [g3, h4]; decide))
      · exact ck11 (Int32.toInt_inj.mp (by rw [g3, h4]; decide))
      · exact ck12 (Int32.toInt_inj.mp (by rw [g3, h4]; decide))
      · exact ck13 (Int32.toInt_inj.mp (by rw [g3, h4]; decide))
      · exact ck14 (Int32.toInt_inj.mp (by rw [g3, h4]; decide))
      · exact ck15 (Int32.toInt_inj.mp (by rw [g3, h4]; decide))
      · exact ck16 (Int32.toInt_inj.mp (by rw [g3, h4]; decide))
      · exact ck17 (Int32.toInt_inj.mp (by rw [g3, h4]; decide))
      · exact ck18 (Int32.toInt_inj.mp (by rw [g3, h4]; decide))
      · exact ck19 (Int32.toInt_inj.mp (by rw [g3, h4]; decide))
      · exact ck20 (Int32.toInt_inj.mp (by rw [g3, h4]; decide))
      · exact ck21 (Int32.toInt_inj.mp (by rw [g3, h4]; decide))
      · exact ck22 (Int32.toInt_inj.mp (by rw [g3, h4]; decide))
      · exact ck23 (Int32.toInt_inj.mp (by rw [g3, h4]; decide))
      · exact ck24 (Int32.toInt_inj.mp (by rw [g3, h4]; decide))
      · exact ck25 (Int32.toInt_inj.mp (by rw [g3, h4]; decide))
      · exact ck26 (Int32.toInt_inj.mp (by rw [g3, h4]; decide))
      · exact ck27 (Int32.toInt_inj.mp (by rw [g3, h4]; decide))
      · exact ck28 (Int32.toInt_inj.mp (by rw [g3, h4]; decide))
      · exact ck29 (Int32.toInt_inj.mp (by rw [g3, h4]; decide))
      · exact ck30 (Int32.toInt_inj.mp (by rw [g3, h4]; decide))
      · exact ck31 (Int32.toInt_inj.mp (by rw [g3, h4]; decide))
      · exact ck32 (Int32.toInt_inj.mp (by rw [g3, h4]; decide))
      · exact ck33 (Int32.toInt_inj.mp (by rw [g3, h4]; decide))
      · exact ck34 (Int32.toInt_inj.mp (by rw [g3, h4]; decide))
    · refine W.widen (k := 52 + 13 * (j + 1)) (n := 1960 + 279 * (j + 1)) (by omega) (by omega) ?_
      exact nxt ex0 ex1 H locs hR X0 X1 hP hD hS
