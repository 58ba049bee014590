section M_X11_digest
variable {p : Program} {l : Launch} {e : Env} {s : State} {m : MethodId} {args : Array Value} {below : List Frame} {meth : Method} {c : Code} {Q : State → Prop} {A : Nat → Prop} {D : va_G} {cI cB cT : ClassId}
variable {a_m a_m_refused a_m_codes a_m_noted a_m_marked a_m_masks a_m_text a_m_before a_m_ahead a_m_aside a_m_sure a_m_wrongs a_m_says a_m_evening a_m_images : Nat}
def rm_X11_digest : Room := { frames := 2, cells := 0, slots := 0, locals := 43 }
def B_X11_digest_6 (m_words : Int32) (m_kindNow : Int32) (m_secretNow : Int32) (m_guessed : Int32) (m_left : Int32) (m_wrong : Int32) (m_noteMany : Int32) (m_markMany : Int32) (m_typed : Int32) (m_undoMany : Int32) (x1 : Int64) (x3 : Int32) : Option ((Int64 × Int32) ⊕ (Int64)) := (if (10 : Int32) ≤ x3 then some (Sum.inr x1) else ((f_X11_counted m_words m_kindNow m_secretNow m_guessed m_left m_wrong m_noteMany m_markMany m_typed m_undoMany x3).bind fun o2 => some (Sum.inl ((((31 : Int64) * x1) + (o2).toInt64), (x3 + (1 : Int32))))))
def B_X11_digest_33 (m_words : Int32) (m_codes : (Nat → Int32)) (x1 : Int64) (x3 : Int32) : Option ((Int64 × Int32) ⊕ (Int64)) := (if m_words ≤ x3 then some (Sum.inr x1) else (if oob x3 8 then none else some (Sum.inl ((((31 : Int64) * x1) + ((m_codes (x3).toNatClampNeg)).toInt64), (x3 + (1 : Int32))))))
def B_X11_digest_87 (m_noteMany : Int32) (m_noted : (Nat → Int32)) (x1 : Int64) (x3 : Int32) : Option ((Int64 × Int32) ⊕ (Int64)) := (if ((4 : Int32) * m_noteMany) ≤ x3 then some (Sum.inr x1) else (if oob x3 24 then none else some (Sum.inl ((((31 : Int64) * x1) + ((m_noted (x3).toNatClampNeg)).toInt64), (x3 + (1 : Int32))))))
def B_X11_digest_119 (m_markMany : Int32) (m_marked : (Nat → Int32)) (x1 : Int64) (x3 : Int32) : Option ((Int64 × Int32) ⊕ (Int64)) := (if ((3 : Int32) * m_markMany) ≤ x3 then some (Sum.inr x1) else (if oob x3 18 then none else some (Sum.inl ((((31 : Int64) * x1) + ((m_marked (x3).toNatClampNeg)).toInt64), (x3 + (1 : Int32))))))
def f_X11_digest (m_words : Int32) (m_kindNow : Int32) (m_secretNow : Int32) (m_guessed : Int32) (m_left : Int32) (m_wrong : Int32) (m_noteMany : Int32) (m_markMany : Int32) (m_typed : Int32) (m_undoMany : Int32) (m_above : Int64) (m_below : Int64) (m_codes : (Nat → Int32)) (m_noted : (Nat → Int32)) (m_marked : (Nat → Int32)) : Option (Int64) := ((lp (fun v => B_X11_digest_6 m_words m_kindNow m_secretNow m_guessed m_left m_wrong m_noteMany m_markMany m_typed m_undoMany v.1 v.2) KN ((1823 : Int64), (0 : Int32))).bind fun o4 => ((lp (fun v => B_X11_digest_33 m_words m_codes v.1 v.2) KN (o4, (0 : Int32))).bind fun o8 => ((some ((((31 : Int64) * (((31 : Int64) * o8) + (m_left).toInt64)) + (m_guessed).toInt64) : Int64)).bind fun o10 => ((lp (fun v => B_X11_digest_87 m_noteMany m_noted v.1 v.2) KN (o10, (0 : Int32))).bind fun o15 => ((lp (fun v => B_X11_digest_119 m_markMany m_marked v.1 v.2) KN (o15, (0 : Int32))).bind fun o19 => some (((31 : Int64) * (((31 : Int64) * o19) + m_above)) + m_below))))))
set_option maxHeartbeats 4000000 in
set_option maxRecDepth 100000 in
theorem B_X11_digest_6_W {m_words : Int32} {m_kindNow : Int32} {m_secretNow : Int32} {m_guessed : Int32} {m_left : Int32} {m_wrong : Int32} {m_noteMany : Int32} {m_markMany : Int32} {m_typed : Int32} {m_readAt : Int32} {m_readNumber : Int32} {m_undoMany : Int32} {m_lastGuesses : Int32} {m_above : Int64} {m_below : Int64} {m_refused : (Nat → Int32)} {m_codes : (Nat → Int32)} {m_noted : (Nat → Int32)} {m_marked : (Nat → Int32)} {m_masks : (Nat → Int32)} {m_text : (Nat → Int32)} {m_before : (Nat → Int32)} {m_ahead : (Nat → Int32)} {m_aside : (Nat → Int32)} {m_sure : (Nat → Int32)} {m_wrongs : (Nat → Int32)} {m_says : (Nat → Int32)} {m_evening : (Nat → Int32)} {m_images : (Nat → Int32)} {x1 : Int64} {x3 : Int32} (CF : CallFix p m c cX11_digest 4 s args wsAll RX11) (hG : Gd D cI cB cT s) {z : (Int64 × Int32) ⊕ (Int64)} (hk : ∀ (v' : Int64 × Int32) (ls : Array Slot), z = Sum.inl v' → lv_has ls 4 [(0, .ref a_m), (1, .long (v'.1)), (3, .int (v'.2))] → W p l e rm_X11_digest s m args below meth c s.heap [] 0 0 Q (F0 m 6 ls [])) (hx0 : ∀ (o' : Int64) (ls : Array Slot), z = Sum.inr o' → lv_has ls 4 [(0, .ref a_m), (1, .long (o'))] → W p l e rm_X11_digest s m args below meth c s.heap [] 0 0 Q (F0 m 31 ls [])) {ls : Array Slot} (hP : va_P D vwCl (wd_m a_m a_m_refused a_m_codes a_m_noted a_m_marked a_m_masks a_m_text a_m_before a_m_ahead a_m_aside a_m_sure a_m_wrongs a_m_says a_m_evening a_m_images cI cB cT m_words m_kindNow m_secretNow m_guessed m_left m_wrong m_noteMany m_markMany m_typed m_readAt m_readNumber m_undoMany m_lastGuesses m_above m_below m_refused m_codes m_noted m_marked m_masks m_text m_before m_ahead m_aside m_sure m_wrongs m_says m_evening m_images) s.heap) (hl : lv_has ls 4 [(0, .ref a_m), (1, .long x1), (3, .int x3)]) (hf : B_X11_digest_6 m_words m_kindNow m_secretNow m_guessed m_left m_wrong m_noteMany m_markMany m_typed m_undoMany x1 x3 = some z) : W p l e rm_X11_digest s m args below meth c s.heap [] 0 0 Q (F0 m 6 ls []) := by
  obtain ⟨hx, hb, hml, hown, hts⟩ := id CF
  unfold B_X11_digest_6 at hf
  refine lv_iload_n hx hb dX11_digest_6 rfl (lv_at hl 2 rfl) ?_
  refine lv_bipush (v := (10 : Int32)) hx hb dX11_digest_7 (by decide) ?_
  refine lv_icmp_ge (tgt := 31) hx hb dX11_digest_9 (by decide) (fun c1 => ?_) (fun c1 => ?_)
  · have hf := tk c1 hf
    exact hx0 _ _ (Option.some.inj hf).symm (lv_sub hl [0, 1] rfl)
  · have hf := fk c1 hf
    refine lv_ldc2 (v := (31 : Int64)) hx hb hown (hts _ wm_1411) dX11_digest_12 ?_
    refine lv_lload_n hx hb dX11_digest_15 rfl (lv_at hl 1 rfl) ?_
    refine lv_lmul hx hb dX11_digest_16 ?_
    refine lv_aload_n hx hb dX11_digest_17 rfl (lv_at hl 0 rfl) ?_
    refine lv_iload_n hx hb dX11_digest_18 rfl (lv_at hl 2 rfl) ?_
    obtain ⟨o2, e3, hf⟩ := lp_bind hf
    refine ro_Vi (x := o2) (As := [.int x3]) (rest := [.long ((31 : Int64) * x1)]) CF (c_X11_counted l D cI cB cT a_m a_m_refused a_m_codes a_m_noted a_m_marked a_m_masks a_m_text a_m_before a_m_ahead a_m_aside a_m_sure a_m_wrongs a_m_says a_m_evening a_m_images m_words m_kindNow m_secretNow m_guessed m_left m_wrong m_noteMany m_markMany m_typed m_readAt m_readNumber m_undoMany m_lastGuesses m_above m_below m_refused m_codes m_noted m_marked m_masks m_text m_before m_ahead m_aside m_sure m_wrongs m_says m_evening m_images x3 e3) ok_X11_counted wm_1402 ⟨rfl, rfl, Nat.le_of_ble_eq_true rfl, Nat.le_of_ble_eq_true rfl⟩ hG hP 0 9 vq_9 rfl ce_m_0 rfl hl.1 rfl (Nat.le_of_ble_eq_true rfl) ⟨Nat.zero_le _, Nat.zero_le _⟩ dX11_digest_19 ?_
    refine lv_i2l hx hb dX11_digest_22 rfl ?_
    refine lv_ladd hx hb dX11_digest_23 ?_
    refine lv_lstore_n (lv' := [(1, .long (((31 : Int64) * x1) + (o2).toInt64)), (0, .ref a_m), (3, .int x3)]) hx hb dX11_digest_24 rfl hl (by decide) rfl (fun ls hl => ?_)
    refine lv_iinc (v := (x3 + (1 : Int32))) (lv' := [(3, .int (x3 + (1 : Int32))), (1, .long (((31 : Int64) * x1) + (o2).toInt64)), (0, .ref a_m)]) hx hb dX11_digest_25 hl (k := 2) rfl (iinc_eq (by decide)) (by decide) rfl (fun ls hl => ?_)
    refine lv_goto (tgt := 6) hx hb dX11_digest_28 (by decide) ?_
    exact hk _ _ (Option.some.inj hf).symm (lv_sub hl [2, 1, 0] rfl)
set_option maxHeartbeats 4000000 in
set_option maxRecDepth 100000 in
theorem L_X11_digest_6_W {m_words : Int32} {m_kindNow : Int32} {m_secretNow : Int32} {m_guessed : Int32} {m_left : Int32} {m_wrong : Int32} {m_noteMany : Int32} {m_markMany : Int32} {m_typed : Int32} {m_readAt : Int32} {m_readNumber : Int32} {m_undoMany : Int32} {m_lastGuesses : Int32} {m_above : Int64} {m_below : Int64} {m_refused : (Nat → Int32)} {m_codes : (Nat → Int32)} {m_noted : (Nat → Int32)} {m_marked : (Nat → Int32)} {m_masks : (Nat → Int32)} {m_text : (Nat → Int32)} {m_before : (Nat → Int32)} {m_ahead : (Nat → Int32)} {m_aside : (Nat → Int32)} {m_sure : (Nat → Int32)} {m_wrongs : (Nat → Int32)} {m_says : (Nat → Int32)} {m_evening : (Nat → Int32)} {m_images : (Nat → Int32)} (CF : CallFix p m c cX11_digest 4 s args wsAll RX11) (hG : Gd D cI cB cT s) {o : Int64} (hx0 : ∀ (ls : Array Slot), lv_has ls 4 [(0, .ref a_m), (1, .long o)] → W p l e rm_X11_digest s m args below meth c s.heap [] 0 0 Q (F0 m 31 ls [])) : ∀ (n : Nat) (x1 : Int64) (x3 : Int32) (ls : Array Slot), va_P D vwCl (wd_m a_m a_m_refused a_m_codes a_m_noted a_m_marked a_m_masks a_m_text a_m_before a_m_ahead a_m_aside a_m_sure a_m_wrongs a_m_says a_m_evening a_m_images cI cB cT m_words m_kindNow m_secretNow m_guessed m_left m_wrong m_noteMany m_markMany m_typed m_readAt m_readNumber m_undoMany m_lastGuesses m_above m_below m_refused m_codes m_noted m_marked m_masks m_text m_before m_ahead m_aside m_sure m_wrongs m_says m_evening m_images) s.heap → lv_has ls 4 [(0, .ref a_m), (1, .long x1), (3, .int x3)] → lp (fun v => B_X11_digest_6 m_words m_kindNow m_secretNow m_guessed m_left m_wrong m_noteMany m_markMany m_typed m_undoMany v.1 v.2) n (x1, x3) = some o → W p l e rm_X11_digest s m args below meth c s.heap [] 0 0 Q (F0 m 6 ls []) := by
  intro n
  induction n with
  | zero =>
    intro x1 x3 ls hP hl hf
    exact (lp_zero hf).elim
  | succ n ih =>
    intro x1 x3 ls hP hl hf
    obtain ⟨z, hz, hf⟩ := lp_succ hf
    refine B_X11_digest_6_W CF hG ?_ ?_ hP hl hz
    · intro v' ls ez hl
      rcases hf with ⟨v2, ev, hf⟩ | ev
      · cases Sum.inl.inj (ez.symm.trans ev)
        exact ih v'.1 v'.2 ls hP hl hf
      · exact (lp_lr (ez.symm.trans ev)).elim
    · intro o' ls ez hl
      rcases hf with ⟨v2, ev, hf⟩ | ev
      · exact (lp_lr (ev.symm.trans ez)).elim
      · cases Sum.inr.inj (ez.symm.trans ev)
        exact hx0 ls  hl
set_option maxHeartbeats 4000000 in
set_option maxRecDepth 100000 in
theorem B_X11_digest_33_W {m_words : Int32} {m_kindNow : Int32} {m_secretNow : Int32} {m_guessed : Int32} {m_left : Int32} {m_wrong : Int32} {m_noteMany : Int32} {m_markMany : Int32} {m_typed : Int32} {m_readAt : Int32} {m_readNumber : Int32} {m_undoMany : Int32} {m_lastGuesses : Int32} {m_above : Int64} {m_below : Int64} {m_refused : (Nat → Int32)} {m_codes : (Nat → Int32)} {m_noted : (Nat → Int32)} {m_marked : (Nat → Int32)} {m_masks : (Nat → Int32)} {m_text : (Nat → Int32)} {m_before : (Nat → Int32)} {m_ahead : (Nat → Int32)} {m_aside : (Nat → Int32)} {m_sure : (Nat → Int32)} {m_wrongs : (Nat → Int32)} {m_says : (Nat → Int32)} {m_evening : (Nat → Int32)} {m_images : (Nat → Int32)} {x1 : Int64} {x3 : Int32} (CF : CallFix p m c cX11_digest 4 s args wsAll RX11) (hG : Gd D cI cB cT s) {z : (Int64 × Int32) ⊕ (Int64)} (hk : ∀ (v' : Int64 × Int32) (ls : Array Slot), z = Sum.inl v' → lv_has ls 4 [(0, .ref a_m), (1, .long (v'.1)), (3, .int (v'.2))] → W p l e rm_X11_digest s m args below meth c s.heap [] 0 0 Q (F0 m 33 ls [])) (hx0 : ∀ (o' : Int64) (ls : Array Slot), z = Sum.inr o' → lv_has ls 4 [(0, .ref a_m), (1, .long (o'))] → W p l e rm_X11_digest s m args below meth c s.heap [] 0 0 Q (F0 m 61 ls [])) {ls : Array Slot} (hP : va_P D vwCl (wd_m a_m a_m_refused a_m_codes a_m_noted a_m_marked a_m_masks a_m_text a_m_before a_m_ahead a_m_aside a_m_sure a_m_wrongs a_m_says a_m_evening a_m_images cI cB cT m_words m_kindNow m_secretNow m_guessed m_left m_wrong m_noteMany m_markMany m_typed m_readAt m_readNumber m_undoMany m_lastGuesses m_above m_below m_refused m_codes m_noted m_marked m_masks m_text m_before m_ahead m_aside m_sure m_wrongs m_says m_evening m_images) s.heap) (hl : lv_has ls 4 [(0, .ref a_m), (1, .long x1), (3, .int x3)]) (hf : B_X11_digest_33 m_words m_codes x1 x3 = some z) : W p l e rm_X11_digest s m args below meth c s.heap [] 0 0 Q (F0 m 33 ls []) := by
  obtain ⟨hx, hb, hml, hown, hts⟩ := id CF
  unfold B_X11_digest_33 at hf
  refine lv_iload_n hx hb dX11_digest_33 rfl (lv_at hl 2 rfl) ?_
  refine lv_aload_n hx hb dX11_digest_34 rfl (lv_at hl 0 rfl) ?_
  refine va_get (D := D) (ci := 9) (v := .int m_words) (C := RX11) (T := TX11) (N := 29) hx hb hts fin_X11 hown hG.1 hP 0 ce_m_0 vq_9 1 (by decide) (hts _ wm_923) (fun _ h9 => h9) rfl dX11_digest_35 ?_
  refine lv_icmp_ge (tgt := 61) hx hb dX11_digest_38 (by decide) (fun c6 => ?_) (fun c6 => ?_)
  · have hf := tk c6 hf
    exact hx0 _ _ (Option.some.inj hf).symm (lv_sub hl [0, 1] rfl)
  · have hf := fk c6 hf
    refine lv_ldc2 (v := (31 : Int64)) hx hb hown (hts _ wm_1411) dX11_digest_41 ?_
    refine lv_lload_n hx hb dX11_digest_44 rfl (lv_at hl 1 rfl) ?_
    refine lv_lmul hx hb dX11_digest_45 ?_
    refine lv_aload_n hx hb dX11_digest_46 rfl (lv_at hl 0 rfl) ?_
    refine va_get (D := D) (ci := 9) (v := .ref a_m_codes) (C := RX11) (T := TX11) (N := 29) hx hb hts fin_X11 hown hG.1 hP 0 ce_m_0 vq_9 9 (by decide) (hts _ wm_931) (fun _ h9 => h9) rfl dX11_digest_47 ?_
    refine lv_iload_n hx hb dX11_digest_50 rfl (lv_at hl 2 rfl) ?_
    obtain ⟨n7, hf⟩ := nk hf
    refine va_iald (f := m_codes) hx hb hG.1 hP 2 0 ce_m_2 rfl n7 dX11_digest_51 ?_
    refine lv_i2l hx hb dX11_digest_52 rfl ?_
    refine lv_ladd hx hb dX11_digest_53 ?_
    refine lv_lstore_n (lv' := [(1, .long (((31 : Int64) * x1) + ((m_codes (x3).toNatClampNeg)).toInt64)), (0, .ref a_m), (3, .int x3)]) hx hb dX11_digest_54 rfl hl (by decide) rfl (fun ls hl => ?_)
    refine lv_iinc (v := (x3 + (1 : Int32))) (lv' := [(3, .int (x3 + (1 : Int32))), (1, .long (((31 : Int64) * x1) + ((m_codes (x3).toNatClampNeg)).toInt64)), (0, .ref a_m)]) hx hb dX11_digest_55 hl (k := 2) rfl (iinc_eq (by decide)) (by decide) rfl (fun ls hl => ?_)
    refine lv_goto (tgt := 33) hx hb dX11_digest_58 (by decide) ?_
    exact hk _ _ (Option.some.inj hf).symm (lv_sub hl [2, 1, 0] rfl)
set_option maxHeartbeats 4000000 in
set_option maxRecDepth 100000 in
theorem L_X11_digest_33_W {m_words : Int32} {m_kindNow : Int32} {m_secretNow : Int32} {m_guessed : Int32} {m_left : Int32} {m_wrong : Int32} {m_noteMany : Int32} {m_markMany : Int32} {m_typed : Int32} {m_readAt : Int32} {m_readNumber : Int32} {m_undoMany : Int32} {m_lastGuesses : Int32} {m_above : Int64} {m_below : Int64} {m_refused : (Nat → Int32)} {m_codes : (Nat → Int32)} {m_noted : (Nat → Int32)} {m_marked : (Nat → Int32)} {m_masks : (Nat → Int32)} {m_text : (Nat → Int32)} {m_before : (Nat → Int32)} {m_ahead : (Nat → Int32)} {m_aside : (Nat → Int32)} {m_sure : (Nat → Int32)} {m_wrongs : (Nat → Int32)} {m_says : (Nat → Int32)} {m_evening : (Nat → Int32)} {m_images : (Nat → Int32)} (CF : CallFix p m c cX11_digest 4 s args wsAll RX11) (hG : Gd D cI cB cT s) {o : Int64} (hx0 : ∀ (ls : Array Slot), lv_has ls 4 [(0, .ref a_m), (1, .long o)] → W p l e rm_X11_digest s m args below meth c s.heap [] 0 0 Q (F0 m 61 ls [])) : ∀ (n : Nat) (x1 : Int64) (x3 : Int32) (ls : Array Slot), va_P D vwCl (wd_m a_m a_m_refused a_m_codes a_m_noted a_m_marked a_m_masks a_m_text a_m_before a_m_ahead a_m_aside a_m_sure a_m_wrongs a_m_says a_m_evening a_m_images cI cB cT m_words m_kindNow m_secretNow m_guessed m_left m_wrong m_noteMany m_markMany m_typed m_readAt m_readNumber m_undoMany m_lastGuesses m_above m_below m_refused m_codes m_noted m_marked m_masks m_text m_before m_ahead m_aside m_sure m_wrongs m_says m_evening m_images) s.heap → lv_has ls 4 [(0, .ref a_m), (1, .long x1), (3, .int x3)] → lp (fun v => B_X11_digest_33 m_words m_codes v.1 v.2) n (x1, x3) = some o → W p l e rm_X11_digest s m args below meth c s.heap [] 0 0 Q (F0 m 33 ls []) := by
  intro n
  induction n with
  | zero =>
    intro x1 x3 ls hP hl hf
    exact (lp_zero hf).elim
  | succ n ih =>
    intro x1 x3 ls hP hl hf
    obtain ⟨z, hz, hf⟩ := lp_succ hf
    refine B_X11_digest_33_W CF hG ?_ ?_ hP hl hz
    · intro v' ls ez hl
      rcases hf with ⟨v2, ev, hf⟩ | ev
      · cases Sum.inl.inj (ez.symm.trans ev)
        exact ih v'.1 v'.2 ls hP hl hf
      · exact (lp_lr (ez.symm.trans ev)).elim
    · intro o' ls ez hl
      rcases hf with ⟨v2, ev, hf⟩ | ev
      · exact (lp_lr (ev.symm.trans ez)).elim
      · cases Sum.inr.inj (ez.symm.trans ev)
        exact hx0 ls  hl
set_option maxHeartbeats 4000000 in
set_option maxRecDepth 100000 in
theorem B_X11_digest_87_W {m_words : Int32} {m_kindNow : Int32} {m_secretNow : Int32} {m_guessed : Int32} {m_left : Int32} {m_wrong : Int32} {m_noteMany : Int32} {m_markMany : Int32} {m_typed : Int32} {m_readAt : Int32} {m_readNumber : Int32} {m_undoMany : Int32} {m_lastGuesses : Int32} {m_above : Int64} {m_below : Int64} {m_refused : (Nat → Int32)} {m_codes : (Nat → Int32)} {m_noted : (Nat → Int32)} {m_marked : (Nat → Int32)} {m_masks : (Nat → Int32)} {m_text : (Nat → Int32)} {m_before : (Nat → Int32)} {m_ahead : (Nat → Int32)} {m_aside : (Nat → Int32)} {m_sure : (Nat → Int32)} {m_wrongs : (Nat → Int32)} {m_says : (Nat → Int32)} {m_evening : (Nat → Int32)} {m_images : (Nat → Int32)} {x1 : Int64} {x3 : Int32} (CF : CallFix p m c cX11_digest 4 s args wsAll RX11) (hG : Gd D cI cB cT s) {z : (Int64 × Int32) ⊕ (Int64)} (hk : ∀ (v' : Int64 × Int32) (ls : Array Slot), z = Sum.inl v' → lv_has ls 4 [(0, .ref a_m), (1, .long (v'.1)), (3, .int (v'.2))] → W p l e rm_X11_digest s m args below meth c s.heap [] 0 0 Q (F0 m 87 ls [])) (hx0 : ∀ (o' : Int64) (ls : Array Slot), z = Sum.inr o' → lv_has ls 4 [(0, .ref a_m), (1, .long (o'))] → W p l e rm_X11_digest s m args below meth c s.heap [] 0 0 Q (F0 m 117 ls [])) {ls : Array Slot} (hP : va_P D vwCl (wd_m a_m a_m_refused a_m_codes a_m_noted a_m_marked a_m_masks a_m_text a_m_before a_m_ahead a_m_aside a_m_sure a_m_wrongs a_m_says a_m_evening a_m_images cI cB cT m_words m_kindNow m_secretNow m_guessed m_left m_wrong m_noteMany m_markMany m_typed m_readAt m_readNumber m_undoMany m_lastGuesses m_above m_below m_refused m_codes m_noted m_marked m_masks m_text m_before m_ahead m_aside m_sure m_wrongs m_says m_evening m_images) s.heap) (hl : lv_has ls 4 [(0, .ref a_m), (1, .long x1), (3, .int x3)]) (hf : B_X11_digest_87 m_noteMany m_noted x1 x3 = some z) : W p l e rm_X11_digest s m args below meth c s.heap [] 0 0 Q (F0 m 87 ls []) := by
  obtain ⟨hx, hb, hml, hown, hts⟩ := id CF
  unfold B_X11_digest_87 at hf
  refine lv_iload_n hx hb dX11_digest_87 rfl (lv_at hl 2 rfl) ?_
  refine lv_iconst (v := (4 : Int32)) hx hb dX11_digest_88 (by decide) ?_
  refine lv_aload_n hx hb dX11_digest_89 rfl (lv_at hl 0 rfl) ?_
  refine va_get (D := D) (ci := 9) (v := .int m_noteMany) (C := RX11) (T := TX11) (N := 29) hx hb hts fin_X11 hown hG.1 hP 0 ce_m_0 vq_9 7 (by decide) (hts _ wm_929) (fun _ h9 => h9) rfl dX11_digest_90 ?_
  refine lv_imul hx hb dX11_digest_93 ?_
  refine lv_icmp_ge (tgt := 117) hx hb dX11_digest_94 (by decide) (fun c13 => ?_) (fun c13 => ?_)
  · have hf := tk c13 hf
    exact hx0 _ _ (Option.some.inj hf).symm (lv_sub hl [0, 1] rfl)
  · have hf := fk c13 hf
    refine lv_ldc2 (v := (31 : Int64)) hx hb hown (hts _ wm_1411) dX11_digest_97 ?_
    refine lv_lload_n hx hb dX11_digest_100 rfl (lv_at hl 1 rfl) ?_
    refine lv_lmul hx hb dX11_digest_101 ?_
    refine lv_aload_n hx hb dX11_digest_102 rfl (lv_at hl 0 rfl) ?_
    refine va_get (D := D) (ci := 9) (v := .ref a_m_noted) (C := RX11) (T := TX11) (N := 29) hx hb hts fin_X11 hown hG.1 hP 0 ce_m_0 vq_9 10 (by decide) (hts _ wm_932) (fun _ h9 => h9) rfl dX11_digest_103 ?_
    refine lv_iload_n hx hb dX11_digest_106 rfl (lv_at hl 2 rfl) ?_
    obtain ⟨n14, hf⟩ := nk hf
    refine va_iald (f := m_noted) hx hb hG.1 hP 3 0 ce_m_3 rfl n14 dX11_digest_107 ?_
    refine lv_i2l hx hb dX11_digest_108 rfl ?_
    refine lv_ladd hx hb dX11_digest_109 ?_
    refine lv_lstore_n (lv' := [(1, .long (((31 : Int64) * x1) + ((m_noted (x3).toNatClampNeg)).toInt64)), (0, .ref a_m), (3, .int x3)]) hx hb dX11_digest_110 rfl hl (by decide) rfl (fun ls hl => ?_)
    refine lv_iinc (v := (x3 + (1 : Int32))) (lv' := [(3, .int (x3 + (1 : Int32))), (1, .long (((31 : Int64) * x1) + ((m_noted (x3).toNatClampNeg)).toInt64)), (0, .ref a_m)]) hx hb dX11_digest_111 hl (k := 2) rfl (iinc_eq (by decide)) (by decide) rfl (fun ls hl => ?_)
    refine lv_goto (tgt := 87) hx hb dX11_digest_114 (by decide) ?_
    exact hk _ _ (Option.some.inj hf).symm (lv_sub hl [2, 1, 0] rfl)
set_option maxHeartbeats 4000000 in
set_option maxRecDepth 100000 in
theorem L_X11_digest_87_W {m_words : Int32} {m_kindNow : Int32} {m_secretNow : Int32} {m_guessed : Int32} {m_left : Int32} {m_wrong : Int32} {m_noteMany : Int32} {m_markMany : Int32} {m_typed : Int32} {m_readAt : Int32} {m_readNumber : Int32} {m_undoMany : Int32} {m_lastGuesses : Int32} {m_above : Int64} {m_below : Int64} {m_refused : (Nat → Int32)} {m_codes : (Nat → Int32)} {m_noted : (Nat → Int32)} {m_marked : (Nat → Int32)} {m_masks : (Nat → Int32)} {m_text : (Nat → Int32)} {m_before : (Nat → Int32)} {m_ahead : (Nat → Int32)} {m_aside : (Nat → Int32)} {m_sure : (Nat → Int32)} {m_wrongs : (Nat → Int32)} {m_says : (Nat → Int32)} {m_evening : (Nat → Int32)} {m_images : (Nat → Int32)} (CF : CallFix p m c cX11_digest 4 s args wsAll RX11) (hG : Gd D cI cB cT s) {o : Int64} (hx0 : ∀ (ls : Array Slot), lv_has ls 4 [(0, .ref a_m), (1, .long o)] → W p l e rm_X11_digest s m args below meth c s.heap [] 0 0 Q (F0 m 117 ls [])) : ∀ (n : Nat) (x1 : Int64) (x3 : Int32) (ls : Array Slot), va_P D vwCl (wd_m a_m a_m_refused a_m_codes a_m_noted a_m_marked a_m_masks a_m_text a_m_before a_m_ahead a_m_aside a_m_sure a_m_wrongs a_m_says a_m_evening a_m_images cI cB cT m_words m_kindNow m_secretNow m_guessed m_left m_wrong m_noteMany m_markMany m_typed m_readAt m_readNumber m_undoMany m_lastGuesses m_above m_below m_refused m_codes m_noted m_marked m_masks m_text m_before m_ahead m_aside m_sure m_wrongs m_says m_evening m_images) s.heap → lv_has ls 4 [(0, .ref a_m), (1, .long x1), (3, .int x3)] → lp (fun v => B_X11_digest_87 m_noteMany m_noted v.1 v.2) n (x1, x3) = some o → W p l e rm_X11_digest s m args below meth c s.heap [] 0 0 Q (F0 m 87 ls []) := by
  intro n
  induction n with
  | zero =>
    intro x1 x3 ls hP hl hf
    exact (lp_zero hf).elim
  | succ n ih =>
    intro x1 x3 ls hP hl hf
    obtain ⟨z, hz, hf⟩ := lp_succ hf
    refine B_X11_digest_87_W CF hG ?_ ?_ hP hl hz
    · intro v' ls ez hl
      rcases hf with ⟨v2, ev, hf⟩ | ev
      · cases Sum.inl.inj (ez.symm.trans ev)
        exact ih v'.1 v'.2 ls hP hl hf
      · exact (lp_lr (ez.symm.trans ev)).elim
    · intro o' ls ez hl
      rcases hf with ⟨v2, ev, hf⟩ | ev
      · exact (lp_lr (ev.symm.trans ez)).elim
      · cases Sum.inr.inj (ez.symm.trans ev)
        exact hx0 ls  hl
set_option maxHeartbeats 4000000 in
set_option maxRecDepth 100000 in
theorem B_X11_digest_119_W {m_words : Int32} {m_kindNow : Int32} {m_secretNow : Int32} {m_guessed : Int32} {m_left : Int32} {m_wrong : Int32} {m_noteMany : Int32} {m_markMany : Int32} {m_typed : Int32} {m_readAt : Int32} {m_readNumber : Int32} {m_undoMany : Int32} {m_lastGuesses : Int32} {m_above : Int64} {m_below : Int64} {m_refused : (Nat → Int32)} {m_codes : (Nat → Int32)} {m_noted : (Nat → Int32)} {m_marked : (Nat → Int32)} {m_masks : (Nat → Int32)} {m_text : (Nat → Int32)} {m_before : (Nat → Int32)} {m_ahead : (Nat → Int32)} {m_aside : (Nat → Int32)} {m_sure : (Nat → Int32)} {m_wrongs : (Nat → Int32)} {m_says : (Nat → Int32)} {m_evening : (Nat → Int32)} {m_images : (Nat → Int32)} {x1 : Int64} {x3 : Int32} (CF : CallFix p m c cX11_digest 4 s args wsAll RX11) (hG : Gd D cI cB cT s) {z : (Int64 × Int32) ⊕ (Int64)} (hk : ∀ (v' : Int64 × Int32) (ls : Array Slot), z = Sum.inl v' → lv_has ls 4 [(0, .ref a_m), (1, .long (v'.1)), (3, .int (v'.2))] → W p l e rm_X11_digest s m args below meth c s.heap [] 0 0 Q (F0 m 119 ls [])) (hx0 : ∀ (o' : Int64) (ls : Array Slot), z = Sum.inr o' → lv_has ls 4 [(0, .ref a_m), (1, .long (o'))] → W p l e rm_X11_digest s m args below meth c s.heap [] 0 0 Q (F0 m 149 ls [])) {ls : Array Slot} (hP : va_P D vwCl (wd_m a_m a_m_refused a_m_codes a_m_noted a_m_marked a_m_masks a_m_text a_m_before a_m_ahead a_m_aside a_m_sure a_m_wrongs a_m_says a_m_evening a_m_images cI cB cT m_words m_kindNow m_secretNow m_guessed m_left m_wrong m_noteMany m_markMany m_typed m_readAt m_readNumber m_undoMany m_lastGuesses m_above m_below m_refused m_codes m_noted m_marked m_masks m_text m_before m_ahead m_aside m_sure m_wrongs m_says m_evening m_images) s.heap) (hl : lv_has ls 4 [(0, .ref a_m), (1, .long x1), (3, .int x3)]) (hf : B_X11_digest_119 m_markMany m_marked x1 x3 = some z) : W p l e rm_X11_digest s m args below meth c s.heap [] 0 0 Q (F0 m 119 ls []) := by
  obtain ⟨hx, hb, hml, hown, hts⟩ := id CF
  unfold B_X11_digest_119 at hf
  refine lv_iload_n hx hb dX11_digest_119 rfl (lv_at hl 2 rfl) ?_
  refine lv_iconst (v := (3 : Int32)) hx hb dX11_digest_120 (by decide) ?_
  refine lv_aload_n hx hb dX11_digest_121 rfl (lv_at hl 0 rfl) ?_
  refine va_get (D := D) (ci := 9) (v := .int m_markMany) (C := RX11) (T := TX11) (N := 29) hx hb hts fin_X11 hown hG.1 hP 0 ce_m_0 vq_9 8 (by decide) (hts _ wm_930) (fun _ h9 => h9) rfl dX11_digest_122 ?_
  refine lv_imul hx hb dX11_digest_125 ?_
  refine lv_icmp_ge (tgt := 149) hx hb dX11_digest_126 (by decide) (fun c17 => ?_) (fun c17 => ?_)
  · have hf := tk c17 hf
    exact hx0 _ _ (Option.some.inj hf).symm (lv_sub hl [0, 1] rfl)
  · have hf := fk c17 hf
    refine lv_ldc2 (v := (31 : Int64)) hx hb hown (hts _ wm_1411) dX11_digest_129 ?_
    refine lv_lload_n hx hb dX11_digest_132 rfl (lv_at hl 1 rfl) ?_
    refine lv_lmul hx hb dX11_digest_133 ?_
    refine lv_aload_n hx hb dX11_digest_134 rfl (lv_at hl 0 rfl) ?_
    refine va_get (D := D) (ci := 9) (v := .ref a_m_marked) (C := RX11) (T := TX11) (N := 29) hx hb hts fin_X11 hown hG.1 hP 0 ce_m_0 vq_9 11 (by decide) (hts _ wm_933) (fun _ h9 => h9) rfl dX11_digest_135 ?_
    refine lv_iload_n hx hb dX11_digest_138 rfl (lv_at hl 2 rfl) ?_
    obtain ⟨n18, hf⟩ := nk hf
    refine va_iald (f := m_marked) hx hb hG.1 hP 4 0 ce_m_4 rfl n18 dX11_digest_139 ?_
    refine lv_i2l hx hb dX11_digest_140 rfl ?_
    refine lv_ladd hx hb dX11_digest_141 ?_
    refine lv_lstore_n (lv' := [(1, .long (((31 : Int64) * x1) + ((m_marked (x3).toNatClampNeg)).toInt64)), (0, .ref a_m), (3, .int x3)]) hx hb dX11_digest_142 rfl hl (by decide) rfl (fun ls hl => ?_)
    refine lv_iinc (v := (x3 + (1 : Int32))) (lv' := [(3, .int (x3 + (1 : Int32))), (1, .long (((31 : Int64) * x1) + ((m_marked (x3).toNatClampNeg)).toInt64)), (0, .ref a_m)]) hx hb dX11_digest_143 hl (k := 2) rfl (iinc_eq (by decide)) (by decide) rfl (fun ls hl => ?_)
    refine lv_goto (tgt := 119) hx hb dX11_digest_146 (by decide) ?_
    exact hk _ _ (Option.some.inj hf).symm (lv_sub hl [2, 1, 0] rfl)
set_option maxHeartbeats 4000000 in
set_option maxRecDepth 100000 in
theorem L_X11_digest_119_W {m_words : Int32} {m_kindNow : Int32} {m_secretNow : Int32} {m_guessed : Int32} {m_left : Int32} {m_wrong : Int32} {m_noteMany : Int32} {m_markMany : Int32} {m_typed : Int32} {m_readAt : Int32} {m_readNumber : Int32} {m_undoMany : Int32} {m_lastGuesses : Int32} {m_above : Int64} {m_below : Int64} {m_refused : (Nat → Int32)} {m_codes : (Nat → Int32)} {m_noted : (Nat → Int32)} {m_marked : (Nat → Int32)} {m_masks : (Nat → Int32)} {m_text : (Nat → Int32)} {m_before : (Nat → Int32)} {m_ahead : (Nat → Int32)} {m_aside : (Nat → Int32)} {m_sure : (Nat → Int32)} {m_wrongs : (Nat → Int32)} {m_says : (Nat → Int32)} {m_evening : (Nat → Int32)} {m_images : (Nat → Int32)} (CF : CallFix p m c cX11_digest 4 s args wsAll RX11) (hG : Gd D cI cB cT s) {o : Int64} (hx0 : ∀ (ls : Array Slot), lv_has ls 4 [(0, .ref a_m), (1, .long o)] → W p l e rm_X11_digest s m args below meth c s.heap [] 0 0 Q (F0 m 149 ls [])) : ∀ (n : Nat) (x1 : Int64) (x3 : Int32) (ls : Array Slot), va_P D vwCl (wd_m a_m a_m_refused a_m_codes a_m_noted a_m_marked a_m_masks a_m_text a_m_before a_m_ahead a_m_aside a_m_sure a_m_wrongs a_m_says a_m_evening a_m_images cI cB cT m_words m_kindNow m_secretNow m_guessed m_left m_wrong m_noteMany m_markMany m_typed m_readAt m_readNumber m_undoMany m_lastGuesses m_above m_below m_refused m_codes m_noted m_marked m_masks m_text m_before m_ahead m_aside m_sure m_wrongs m_says m_evening m_images) s.heap → lv_has ls 4 [(0, .ref a_m), (1, .long x1), (3, .int x3)] → lp (fun v => B_X11_digest_119 m_markMany m_marked v.1 v.2) n (x1, x3) = some o → W p l e rm_X11_digest s m args below meth c s.heap [] 0 0 Q (F0 m 119 ls []) := by
  intro n
  induction n with
  | zero =>
    intro x1 x3 ls hP hl hf
    exact (lp_zero hf).elim
  | succ n ih =>
    intro x1 x3 ls hP hl hf
    obtain ⟨z, hz, hf⟩ := lp_succ hf
    refine B_X11_digest_119_W CF hG ?_ ?_ hP hl hz
    · intro v' ls ez hl
      rcases hf with ⟨v2, ev, hf⟩ | ev
      · cases Sum.inl.inj (ez.symm.trans ev)
        exact ih v'.1 v'.2 ls hP hl hf
      · exact (lp_lr (ez.symm.trans ev)).elim
    · intro o' ls ez hl
      rcases hf with ⟨v2, ev, hf⟩ | ev
      · exact (lp_lr (ev.symm.trans ez)).elim
      · cases Sum.inr.inj (ez.symm.trans ev)
        exact hx0 ls  hl
set_option maxHeartbeats 4000000 in
set_option maxRecDepth 100000 in
theorem c_X11_digest (l : Launch) (D : va_G) (cI cB cT : ClassId) (a_m a_m_refused a_m_codes a_m_noted a_m_marked a_m_masks a_m_text a_m_before a_m_ahead a_m_aside a_m_sure a_m_wrongs a_m_says a_m_evening a_m_images : Nat) (m_words : Int32) (m_kindNow : Int32) (m_secretNow : Int32) (m_guessed : Int32) (m_left : Int32) (m_wrong : Int32) (m_noteMany : Int32) (m_markMany : Int32) (m_typed : Int32) (m_readAt : Int32) (m_readNumber : Int32) (m_undoMany : Int32) (m_lastGuesses : Int32) (m_above : Int64) (m_below : Int64) (m_refused : (Nat → Int32)) (m_codes : (Nat → Int32)) (m_noted : (Nat → Int32)) (m_marked : (Nat → Int32)) (m_masks : (Nat → Int32)) (m_text : (Nat → Int32)) (m_before : (Nat → Int32)) (m_ahead : (Nat → Int32)) (m_aside : (Nat → Int32)) (m_sure : (Nat → Int32)) (m_wrongs : (Nat → Int32)) (m_says : (Nat → Int32)) (m_evening : (Nat → Int32)) (m_images : (Nat → Int32)) {z : Int64} (hf : f_X11_digest m_words m_kindNow m_secretNow m_guessed m_left m_wrong m_noteMany m_markMany m_typed m_undoMany m_above m_below m_codes m_noted m_marked = some z) :
    Met l yX11_digest (Cond.code yX11_digest cX11_digest 4 (some .long) :: wsAll) rm_X11_digest (Pro [.ref a_m] D cI cB cT (wd_m a_m a_m_refused a_m_codes a_m_noted a_m_marked a_m_masks a_m_text a_m_before a_m_ahead a_m_aside a_m_sure a_m_wrongs a_m_says a_m_evening a_m_images cI cB cT m_words m_kindNow m_secretNow m_guessed m_left m_wrong m_noteMany m_markMany m_typed m_readAt m_readNumber m_undoMany m_lastGuesses m_above m_below m_refused m_codes m_noted m_marked m_masks m_text m_before m_ahead m_aside m_sure m_wrongs m_says m_evening m_images)) (Qr (some (.long z))) 0 0 (fun _ => False) := by
  refine ro_intro RX11 (by decide +kernel) rfl (Nat.le_of_ble_eq_true rfl) ?_
  intro p e s m below meth c ls CF hr hlk hG hP hl
  have hl : lv_has ls 4 [(0, .ref a_m)] := hl
  obtain ⟨hx, hb, hml, hown, hts⟩ := id CF
  unfold f_X11_digest at hf
  refine lv_ldc2 (v := (1823 : Int64)) hx hb hown (hts _ wm_1410) dX11_digest_0 ?_
  refine lv_lstore_n (lv' := [(1, .long (1823 : Int64)), (0, .ref a_m)]) hx hb dX11_digest_3 rfl hl (by decide) rfl (fun ls hl => ?_)
  refine lv_iconst (v := (0 : Int32)) hx hb dX11_digest_4 (by decide) ?_
  refine lv_istore_n (lv' := [(3, .int (0 : Int32)), (1, .long (1823 : Int64)), (0, .ref a_m)]) hx hb dX11_digest_5 rfl hl (by decide) rfl (fun ls hl => ?_)
  obtain ⟨o4, e5, hf⟩ := lp_bind hf
  refine L_X11_digest_6_W CF hG ?_ KN _ _ _ hP (lv_sub hl [2, 1, 0] rfl) e5
  intro ls hl
  refine lv_iconst (v := (0 : Int32)) hx hb dX11_digest_31 (by decide) ?_
  refine lv_istore_n (lv' := [(3, .int (0 : Int32)), (0, .ref a_m), (1, .long o4)]) hx hb dX11_digest_32 rfl hl (by decide) rfl (fun ls hl => ?_)
  obtain ⟨o8, e9, hf⟩ := lp_bind hf
  refine L_X11_digest_33_W CF hG ?_ KN _ _ _ hP (lv_sub hl [1, 2, 0] rfl) e9
  intro ls hl
  refine lv_ldc2 (v := (31 : Int64)) hx hb hown (hts _ wm_1411) dX11_digest_61 ?_
  refine lv_lload_n hx hb dX11_digest_64 rfl (lv_at hl 1 rfl) ?_
  refine lv_lmul hx hb dX11_digest_65 ?_
  refine lv_aload_n hx hb dX11_digest_66 rfl (lv_at hl 0 rfl) ?_
  refine va_get (D := D) (ci := 9) (v := .int m_left) (C := RX11) (T := TX11) (N := 29) hx hb hts fin_X11 hown hG.1 hP 0 ce_m_0 vq_9 5 (by decide) (hts _ wm_927) (fun _ h9 => h9) rfl dX11_digest_67 ?_
  refine lv_i2l hx hb dX11_digest_70 rfl ?_
  refine lv_ladd hx hb dX11_digest_71 ?_
  refine lv_lstore_n (lv' := [(1, .long (((31 : Int64) * o8) + (m_left).toInt64)), (0, .ref a_m)]) hx hb dX11_digest_72 rfl hl (by decide) rfl (fun ls hl => ?_)
  refine lv_ldc2 (v := (31 : Int64)) hx hb hown (hts _ wm_1411) dX11_digest_73 ?_
  refine lv_lload_n hx hb dX11_digest_76 rfl (lv_at hl 0 rfl) ?_
  refine lv_lmul hx hb dX11_digest_77 ?_
  refine lv_aload_n hx hb dX11_digest_78 rfl (lv_at hl 1 rfl) ?_
  refine va_get (D := D) (ci := 9) (v := .int m_guessed) (C := RX11) (T := TX11) (N := 29) hx hb hts fin_X11 hown hG.1 hP 0 ce_m_0 vq_9 4 (by decide) (hts _ wm_926) (fun _ h9 => h9) rfl dX11_digest_79 ?_
  refine lv_i2l hx hb dX11_digest_82 rfl ?_
  refine lv_ladd hx hb dX11_digest_83 ?_
  obtain ⟨o10, e11, hf⟩ := lp_bind hf
  refine lv_topl (fun y12 ey12 => ?_)
  obtain rfl : o10 = y12 := (Option.some.inj e11).symm.trans ey12.symm
  refine lv_lstore_n (lv' := [(1, .long o10), (0, .ref a_m)]) hx hb dX11_digest_84 rfl hl (by decide) rfl (fun ls hl => ?_)
  refine lv_iconst (v := (0 : Int32)) hx hb dX11_digest_85 (by decide) ?_
  refine lv_istore_n (lv' := [(3, .int (0 : Int32)), (1, .long o10), (0, .ref a_m)]) hx hb dX11_digest_86 rfl hl (by decide) rfl (fun ls hl => ?_)
  obtain ⟨o15, e16, hf⟩ := lp_bind hf
  refine L_X11_digest_87_W CF hG ?_ KN _ _ _ hP (lv_sub hl [2, 1, 0] rfl) e16
  intro ls hl
  refine lv_iconst (v := (0 : Int32)) hx hb dX11_digest_117 (by decide) ?_
  refine lv_istore_n (lv' := [(3, .int (0 : Int32)), (0, .ref a_m), (1, .long o15)]) hx hb dX11_digest_118 rfl hl (by decide) rfl (fun ls hl => ?_)
  obtain ⟨o19, e20, hf⟩ := lp_bind hf
  refine L_X11_digest_119_W CF hG ?_ KN _ _ _ hP (lv_sub hl [1, 2, 0] rfl) e20
  intro ls hl
  refine lv_ldc2 (v := (31 : Int64)) hx hb hown (hts _ wm_1411) dX11_digest_149 ?_
  refine lv_lload_n hx hb dX11_digest_152 rfl (lv_at hl 1 rfl) ?_
  refine lv_lmul hx hb dX11_digest_153 ?_
  refine lv_aload_n hx hb dX11_digest_154 rfl (lv_at hl 0 rfl) ?_
  refine va_get (D := D) (ci := 9) (v := .long m_above) (C := RX11) (T := TX11) (N := 29) hx hb hts fin_X11 hown hG.1 hP 0 ce_m_0 vq_9 23 (by decide) (hts _ wm_945) (fun _ h9 => h9) rfl dX11_digest_155 ?_
  refine lv_ladd hx hb dX11_digest_158 ?_
  refine lv_lstore_n (lv' := [(1, .long (((31 : Int64) * o19) + m_above)), (0, .ref a_m)]) hx hb dX11_digest_159 rfl hl (by decide) rfl (fun ls hl => ?_)
  refine lv_ldc2 (v := (31 : Int64)) hx hb hown (hts _ wm_1411) dX11_digest_160 ?_
  refine lv_lload_n hx hb dX11_digest_163 rfl (lv_at hl 0 rfl) ?_
  refine lv_lmul hx hb dX11_digest_164 ?_
  refine lv_aload_n hx hb dX11_digest_165 rfl (lv_at hl 1 rfl) ?_
  refine va_get (D := D) (ci := 9) (v := .long m_below) (C := RX11) (T := TX11) (N := 29) hx hb hts fin_X11 hown hG.1 hP 0 ce_m_0 vq_9 24 (by decide) (hts _ wm_946) (fun _ h9 => h9) rfl dX11_digest_166 ?_
  refine lv_ladd hx hb dX11_digest_169 ?_
  obtain rfl := Option.some.inj hf
  exact ro_lret CF hr hlk dX11_digest_170
end M_X11_digest
