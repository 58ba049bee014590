section M_X11_sureOf
variable {p : Program} {l : Launch} {e : Env} {s : State} {m : MethodId} {args : Array Value} {below : List Frame} {meth : Method} {c : Code} {Q : State → Prop} {A : Nat → Prop} {D : va_G} {cI cB cT : ClassId}
variable {a_m a_m_refused a_m_codes a_m_noted a_m_marked a_m_masks a_m_text a_m_before a_m_ahead a_m_aside a_m_sure a_m_wrongs a_m_says a_m_evening a_m_images : Nat}
def rm_X11_sureOf : Room := { frames := 3, cells := 0, slots := 0, locals := 74 }
def B_X11_sureOf_16 (m_words : Int32) (m_masks : (Nat → Int32)) (m_sure : (Nat → Int32)) (x1 : Int32) (x2 : Int32) (x3 : Int32) : Option ((Int32 × Int32) ⊕ (Int32)) := (if (10 : Int32) ≤ x3 then some (Sum.inr x2) else ((f_X11_isOneAtMost x1).bind fun o5 => (if o5 = 0 then ((f_X11_partsBy m_words m_masks x1 x3 (0 : Int32)).bind fun o8 => (if o8 ≤ (1 : Int32) then (if x2 ≤ (1048576 : Int32) then some (Sum.inl (x2, (x3 + (1 : Int32)))) else some (Sum.inl ((1048576 : Int32), (x3 + (1 : Int32))))) else ((f_X11_sureBy m_words m_masks m_sure x1 x3).bind fun o12 => (if x2 ≤ o12 then some (Sum.inl (x2, (x3 + (1 : Int32)))) else some (Sum.inl (o12, (x3 + (1 : Int32)))))))) else some (Sum.inr x2))))
def J_X11_sureOf_13 (m_words : Int32) (m_masks : (Nat → Int32)) (m_sure : (Nat → Int32)) (x1 : Int32) (y0 : Int32) : Option (Int32) := ((lp (fun v => B_X11_sureOf_16 m_words m_masks m_sure x1 v.1 v.2) KN (y0, (0 : Int32))).bind fun o15 => some o15)
def f_X11_sureOf (m_words : Int32) (m_masks : (Nat → Int32)) (m_sure : (Nat → Int32)) (p1 : Int32) : Option (Int32) := ((f_X11_isOneAtMost p1).bind fun o1 => (if o1 = 0 then J_X11_sureOf_13 m_words m_masks m_sure p1 (1048576 : Int32) else J_X11_sureOf_13 m_words m_masks m_sure p1 (0 : Int32)))
set_option maxHeartbeats 4000000 in
set_option maxRecDepth 100000 in
theorem B_X11_sureOf_16_W {m_words : Int32} {m_kindNow : Int32} {m_secretNow : Int32} {m_guessed : Int32} {m_left : Int32} {m_wrong : Int32} {m_noteMany : Int32} {m_markMany : Int32} {m_typed : Int32} {m_readAt : Int32} {m_readNumber : Int32} {m_undoMany : Int32} {m_lastGuesses : Int32} {m_above : Int64} {m_below : Int64} {m_refused : (Nat → Int32)} {m_codes : (Nat → Int32)} {m_noted : (Nat → Int32)} {m_marked : (Nat → Int32)} {m_masks : (Nat → Int32)} {m_text : (Nat → Int32)} {m_before : (Nat → Int32)} {m_ahead : (Nat → Int32)} {m_aside : (Nat → Int32)} {m_sure : (Nat → Int32)} {m_wrongs : (Nat → Int32)} {m_says : (Nat → Int32)} {m_evening : (Nat → Int32)} {m_images : (Nat → Int32)} {x1 : Int32} {x2 : Int32} {x3 : Int32} (CF : CallFix p m c cX11_sureOf 5 s args wsAll RX11) (hG : Gd D cI cB cT s) {z : (Int32 × Int32) ⊕ (Int32)} (hk : ∀ (v' : Int32 × Int32) (ls : Array Slot), z = Sum.inl v' → lv_has ls 5 [(0, .ref a_m), (1, .int x1), (2, .int (v'.1)), (3, .int (v'.2))] → W p l e rm_X11_sureOf s m args below meth c s.heap [] 0 0 Q (F0 m 16 ls [])) (hx0 : ∀ (o' : Int32) (ls : Array Slot), z = Sum.inr o' → lv_has ls 5 [(2, .int (o'))] → W p l e rm_X11_sureOf s m args below meth c s.heap [] 0 0 Q (F0 m 72 ls [])) {ls : Array Slot} (hP : va_P D vwCl (wd_m a_m a_m_refused a_m_codes a_m_noted a_m_marked a_m_masks a_m_text a_m_before a_m_ahead a_m_aside a_m_sure a_m_wrongs a_m_says a_m_evening a_m_images cI cB cT m_words m_kindNow m_secretNow m_guessed m_left m_wrong m_noteMany m_markMany m_typed m_readAt m_readNumber m_undoMany m_lastGuesses m_above m_below m_refused m_codes m_noted m_marked m_masks m_text m_before m_ahead m_aside m_sure m_wrongs m_says m_evening m_images) s.heap) (hl : lv_has ls 5 [(0, .ref a_m), (1, .int x1), (2, .int x2), (3, .int x3)]) (hf : B_X11_sureOf_16 m_words m_masks m_sure x1 x2 x3 = some z) : W p l e rm_X11_sureOf s m args below meth c s.heap [] 0 0 Q (F0 m 16 ls []) := by
  obtain ⟨hx, hb, hml, hown, hts⟩ := id CF
  unfold B_X11_sureOf_16 at hf
  refine lv_iload_n hx hb dX11_sureOf_16 rfl (lv_at hl 3 rfl) ?_
  refine lv_bipush (v := (10 : Int32)) hx hb dX11_sureOf_17 (by decide) ?_
  refine lv_icmp_ge (tgt := 72) hx hb dX11_sureOf_19 (by decide) (fun c4 => ?_) (fun c4 => ?_)
  · have hf := tk c4 hf
    exact hx0 _ _ (Option.some.inj hf).symm (lv_sub hl [2] rfl)
  · have hf := fk c4 hf
    refine lv_iload_n hx hb dX11_sureOf_22 rfl (lv_at hl 1 rfl) ?_
    obtain ⟨o5, e6, hf⟩ := lp_bind hf
    refine ro_Si (x := o5) (As := [.int x1]) (rest := []) CF (c_X11_isOneAtMost l D cI cB cT x1 e6) ok_X11_isOneAtMost wm_1247 ⟨rfl, rfl, Nat.le_of_ble_eq_true rfl, Nat.le_of_ble_eq_true rfl⟩ hG wd_E_P rfl hl.1 rfl (Nat.le_of_ble_eq_true rfl) ⟨Nat.zero_le _, Nat.zero_le _⟩ dX11_sureOf_23 ?_
    refine lv_if_ne (tgt := 72) hx hb dX11_sureOf_26 (by decide) (fun c7 => ?_) (fun c7 => ?_)
    · have hf := fk c7 hf
      exact hx0 _ _ (Option.some.inj hf).symm (lv_sub hl [2] rfl)
    · have hf := tk c7 hf
      refine lv_aload_n hx hb dX11_sureOf_29 rfl (lv_at hl 0 rfl) ?_
      refine lv_iload_n hx hb dX11_sureOf_30 rfl (lv_at hl 1 rfl) ?_
      refine lv_iload_n hx hb dX11_sureOf_31 rfl (lv_at hl 3 rfl) ?_
      refine lv_iconst (v := (0 : Int32)) hx hb dX11_sureOf_32 (by decide) ?_
      obtain ⟨o8, e9, hf⟩ := lp_bind hf
      refine ro_Vi (x := o8) (As := [.int x1, .int x3, .int (0 : Int32)]) (rest := []) CF (c_X11_partsBy l D cI cB cT a_m a_m_refused a_m_codes a_m_noted a_m_marked a_m_masks a_m_text a_m_before a_m_ahead a_m_aside a_m_sure a_m_wrongs a_m_says a_m_evening a_m_images m_words m_kindNow m_secretNow m_guessed m_left m_wrong m_noteMany m_markMany m_typed m_readAt m_readNumber m_undoMany m_lastGuesses m_above m_below m_refused m_codes m_noted m_marked m_masks m_text m_before m_ahead m_aside m_sure m_wrongs m_says m_evening m_images x1 x3 (0 : Int32) e9) ok_X11_partsBy wm_1234 ⟨rfl, rfl, Nat.le_of_ble_eq_true rfl, Nat.le_of_ble_eq_true rfl⟩ hG hP 0 9 vq_9 rfl ce_m_0 rfl hl.1 rfl (Nat.le_of_ble_eq_true rfl) ⟨Nat.zero_le _, Nat.zero_le _⟩ dX11_sureOf_33 ?_
      refine lv_iconst (v := (1 : Int32)) hx hb dX11_sureOf_36 (by decide) ?_
      refine lv_icmp_le (tgt := 49) hx hb dX11_sureOf_37 (by decide) (fun c10 => ?_) (fun c10 => ?_)
      · have hf := tk c10 hf
        refine lv_ldc (v := (1048576 : Int32)) hx hb hown (hts _ wm_1242) dX11_sureOf_49 ?_
        refine lv_istore (lv' := [(4, .int (1048576 : Int32)), (0, .ref a_m), (1, .int x1), (2, .int x2), (3, .int x3)]) hx hb dX11_sureOf_51 hl (by decide) rfl (fun ls hl => ?_)
        refine lv_iload hx hb dX11_sureOf_53 (lv_at hl 0 rfl) ?_
        refine lv_iload_n hx hb dX11_sureOf_55 rfl (lv_at hl 3 rfl) ?_
        refine lv_icmp_ge (tgt := 64) hx hb dX11_sureOf_56 (by decide) (fun c11 => ?_) (fun c11 => ?_)
        · have hf := tk c11 hf
          refine lv_iload_n hx hb dX11_sureOf_64 rfl (lv_at hl 3 rfl) ?_
          refine lv_istore_n (lv' := [(2, .int x2), (4, .int (1048576 : Int32)), (0, .ref a_m), (1, .int x1), (3, .int x3)]) hx hb dX11_sureOf_65 rfl hl (by decide) rfl (fun ls hl => ?_)
          refine lv_iinc (v := (x3 + (1 : Int32))) (lv' := [(3, .int (x3 + (1 : Int32))), (2, .int x2), (4, .int (1048576 : Int32)), (0, .ref a_m), (1, .int x1)]) hx hb dX11_sureOf_66 hl (k := 4) rfl (iinc_eq (by decide)) (by decide) rfl (fun ls hl => ?_)
          refine lv_goto (tgt := 16) hx hb dX11_sureOf_69 (by decide) ?_
          exact hk _ _ (Option.some.inj hf).symm (lv_sub hl [3, 4, 1, 0] rfl)
        · have hf := fk c11 hf
          refine lv_iload hx hb dX11_sureOf_59 (lv_at hl 0 rfl) ?_
          refine lv_goto (tgt := 65) hx hb dX11_sureOf_61 (by decide) ?_
          refine lv_istore_n (lv' := [(2, .int (1048576 : Int32)), (4, .int (1048576 : Int32)), (0, .ref a_m), (1, .int x1), (3, .int x3)]) hx hb dX11_sureOf_65 rfl hl (by decide) rfl (fun ls hl => ?_)
          refine lv_iinc (v := (x3 + (1 : Int32))) (lv' := [(3, .int (x3 + (1 : Int32))), (2, .int (1048576 : Int32)), (4, .int (1048576 : Int32)), (0, .ref a_m), (1, .int x1)]) hx hb dX11_sureOf_66 hl (k := 4) rfl (iinc_eq (by decide)) (by decide) rfl (fun ls hl => ?_)
          refine lv_goto (tgt := 16) hx hb dX11_sureOf_69 (by decide) ?_
          exact hk _ _ (Option.some.inj hf).symm (lv_sub hl [3, 4, 1, 0] rfl)
      · have hf := fk c10 hf
        refine lv_aload_n hx hb dX11_sureOf_40 rfl (lv_at hl 0 rfl) ?_
        refine lv_iload_n hx hb dX11_sureOf_41 rfl (lv_at hl 1 rfl) ?_
        refine lv_iload_n hx hb dX11_sureOf_42 rfl (lv_at hl 3 rfl) ?_
        obtain ⟨o12, e13, hf⟩ := lp_bind hf
        refine ro_Vi (x := o12) (As := [.int x1, .int x3]) (rest := []) CF (c_X11_sureBy l D cI cB cT a_m a_m_refused a_m_codes a_m_noted a_m_marked a_m_masks a_m_text a_m_before a_m_ahead a_m_aside a_m_sure a_m_wrongs a_m_says a_m_evening a_m_images m_words m_kindNow m_secretNow m_guessed m_left m_wrong m_noteMany m_markMany m_typed m_readAt m_readNumber m_undoMany m_lastGuesses m_above m_below m_refused m_codes m_noted m_marked m_masks m_text m_before m_ahead m_aside m_sure m_wrongs m_says m_evening m_images x1 x3 e13) ok_X11_sureBy wm_1258 ⟨rfl, rfl, Nat.le_of_ble_eq_true rfl, Nat.le_of_ble_eq_true rfl⟩ hG hP 0 9 vq_9 rfl ce_m_0 rfl hl.1 rfl (Nat.le_of_ble_eq_true rfl) ⟨Nat.zero_le _, Nat.zero_le _⟩ dX11_sureOf_43 ?_
        refine lv_goto (tgt := 51) hx hb dX11_sureOf_46 (by decide) ?_
        refine lv_istore (lv' := [(4, .int o12), (0, .ref a_m), (1, .int x1), (2, .int x2), (3, .int x3)]) hx hb dX11_sureOf_51 hl (by decide) rfl (fun ls hl => ?_)
        refine lv_iload hx hb dX11_sureOf_53 (lv_at hl 0 rfl) ?_
        refine lv_iload_n hx hb dX11_sureOf_55 rfl (lv_at hl 3 rfl) ?_
        refine lv_icmp_ge (tgt := 64) hx hb dX11_sureOf_56 (by decide) (fun c14 => ?_) (fun c14 => ?_)
        · have hf := tk c14 hf
          refine lv_iload_n hx hb dX11_sureOf_64 rfl (lv_at hl 3 rfl) ?_
          refine lv_istore_n (lv' := [(2, .int x2), (4, .int o12), (0, .ref a_m), (1, .int x1), (3, .int x3)]) hx hb dX11_sureOf_65 rfl hl (by decide) rfl (fun ls hl => ?_)
          refine lv_iinc (v := (x3 + (1 : Int32))) (lv' := [(3, .int (x3 + (1 : Int32))), (2, .int x2), (4, .int o12), (0, .ref a_m), (1, .int x1)]) hx hb dX11_sureOf_66 hl (k := 4) rfl (iinc_eq (by decide)) (by decide) rfl (fun ls hl => ?_)
          refine lv_goto (tgt := 16) hx hb dX11_sureOf_69 (by decide) ?_
          exact hk _ _ (Option.some.inj hf).symm (lv_sub hl [3, 4, 1, 0] rfl)
        · have hf := fk c14 hf
          refine lv_iload hx hb dX11_sureOf_59 (lv_at hl 0 rfl) ?_
          refine lv_goto (tgt := 65) hx hb dX11_sureOf_61 (by decide) ?_
          refine lv_istore_n (lv' := [(2, .int o12), (4, .int o12), (0, .ref a_m), (1, .int x1), (3, .int x3)]) hx hb dX11_sureOf_65 rfl hl (by decide) rfl (fun ls hl => ?_)
          refine lv_iinc (v := (x3 + (1 : Int32))) (lv' := [(3, .int (x3 + (1 : Int32))), (2, .int o12), (4, .int o12), (0, .ref a_m), (1, .int x1)]) hx hb dX11_sureOf_66 hl (k := 4) rfl (iinc_eq (by decide)) (by decide) rfl (fun ls hl => ?_)
          refine lv_goto (tgt := 16) hx hb dX11_sureOf_69 (by decide) ?_
          exact hk _ _ (Option.some.inj hf).symm (lv_sub hl [3, 4, 1, 0] rfl)
set_option maxHeartbeats 4000000 in
set_option maxRecDepth 100000 in
theorem L_X11_sureOf_16_W {m_words : Int32} {m_kindNow : Int32} {m_secretNow : Int32} {m_guessed : Int32} {m_left : Int32} {m_wrong : Int32} {m_noteMany : Int32} {m_markMany : Int32} {m_typed : Int32} {m_readAt : Int32} {m_readNumber : Int32} {m_undoMany : Int32} {m_lastGuesses : Int32} {m_above : Int64} {m_below : Int64} {m_refused : (Nat → Int32)} {m_codes : (Nat → Int32)} {m_noted : (Nat → Int32)} {m_marked : (Nat → Int32)} {m_masks : (Nat → Int32)} {m_text : (Nat → Int32)} {m_before : (Nat → Int32)} {m_ahead : (Nat → Int32)} {m_aside : (Nat → Int32)} {m_sure : (Nat → Int32)} {m_wrongs : (Nat → Int32)} {m_says : (Nat → Int32)} {m_evening : (Nat → Int32)} {m_images : (Nat → Int32)} {x1 : Int32} (CF : CallFix p m c cX11_sureOf 5 s args wsAll RX11) (hG : Gd D cI cB cT s) {o : Int32} (hx0 : ∀ (ls : Array Slot), lv_has ls 5 [(2, .int o)] → W p l e rm_X11_sureOf s m args below meth c s.heap [] 0 0 Q (F0 m 72 ls [])) : ∀ (n : Nat) (x2 : Int32) (x3 : Int32) (ls : Array Slot), va_P D vwCl (wd_m a_m a_m_refused a_m_codes a_m_noted a_m_marked a_m_masks a_m_text a_m_before a_m_ahead a_m_aside a_m_sure a_m_wrongs a_m_says a_m_evening a_m_images cI cB cT m_words m_kindNow m_secretNow m_guessed m_left m_wrong m_noteMany m_markMany m_typed m_readAt m_readNumber m_undoMany m_lastGuesses m_above m_below m_refused m_codes m_noted m_marked m_masks m_text m_before m_ahead m_aside m_sure m_wrongs m_says m_evening m_images) s.heap → lv_has ls 5 [(0, .ref a_m), (1, .int x1), (2, .int x2), (3, .int x3)] → lp (fun v => B_X11_sureOf_16 m_words m_masks m_sure x1 v.1 v.2) n (x2, x3) = some o → W p l e rm_X11_sureOf s m args below meth c s.heap [] 0 0 Q (F0 m 16 ls []) := by
  intro n
  induction n with
  | zero =>
    intro x2 x3 ls hP hl hf
    exact (lp_zero hf).elim
  | succ n ih =>
    intro x2 x3 ls hP hl hf
    obtain ⟨z, hz, hf⟩ := lp_succ hf
    refine B_X11_sureOf_16_W CF hG ?_ ?_ hP hl hz
    · intro v' ls ez hl
      rcases hf with ⟨v2, ev, hf⟩ | ev
      · cases Sum.inl.inj (ez.symm.trans ev)
        exact ih v'.1 v'.2 ls hP hl hf
      · exact (lp_lr (ez.symm.trans ev)).elim
    · intro o' ls ez hl
      rcases hf with ⟨v2, ev, hf⟩ | ev
      · exact (lp_lr (ev.symm.trans ez)).elim
      · cases Sum.inr.inj (ez.symm.trans ev)
        exact hx0 ls  hl
set_option maxHeartbeats 4000000 in
set_option maxRecDepth 100000 in
theorem J_X11_sureOf_13_W {m_words : Int32} {m_kindNow : Int32} {m_secretNow : Int32} {m_guessed : Int32} {m_left : Int32} {m_wrong : Int32} {m_noteMany : Int32} {m_markMany : Int32} {m_typed : Int32} {m_readAt : Int32} {m_readNumber : Int32} {m_undoMany : Int32} {m_lastGuesses : Int32} {m_above : Int64} {m_below : Int64} {m_refused : (Nat → Int32)} {m_codes : (Nat → Int32)} {m_noted : (Nat → Int32)} {m_marked : (Nat → Int32)} {m_masks : (Nat → Int32)} {m_text : (Nat → Int32)} {m_before : (Nat → Int32)} {m_ahead : (Nat → Int32)} {m_aside : (Nat → Int32)} {m_sure : (Nat → Int32)} {m_wrongs : (Nat → Int32)} {m_says : (Nat → Int32)} {m_evening : (Nat → Int32)} {m_images : (Nat → Int32)} {x1 : Int32} {y0 : Int32} (CF : CallFix p m c cX11_sureOf 5 s args wsAll RX11) (hG : Gd D cI cB cT s) {z : Int32} (hr : meth.sig.returnType = some .int) (hlk : meth.locks = false) {ls : Array Slot} (hP : va_P D vwCl (wd_m a_m a_m_refused a_m_codes a_m_noted a_m_marked a_m_masks a_m_text a_m_before a_m_ahead a_m_aside a_m_sure a_m_wrongs a_m_says a_m_evening a_m_images cI cB cT m_words m_kindNow m_secretNow m_guessed m_left m_wrong m_noteMany m_markMany m_typed m_readAt m_readNumber m_undoMany m_lastGuesses m_above m_below m_refused m_codes m_noted m_marked m_masks m_text m_before m_ahead m_aside m_sure m_wrongs m_says m_evening m_images) s.heap) (hl : lv_has ls 5 [(0, .ref a_m), (1, .int x1)]) (hf : J_X11_sureOf_13 m_words m_masks m_sure x1 y0 = some z) : W p l e rm_X11_sureOf s m args below meth c s.heap [] 0 0 (MQ below (Qr (some (.int z))) args s 0 0 (fun _ => False)) (F0 m 13 ls [.int y0]) := by
  obtain ⟨hx, hb, hml, hown, hts⟩ := id CF
  unfold J_X11_sureOf_13 at hf
  refine lv_istore_n (lv' := [(2, .int y0), (0, .ref a_m), (1, .int x1)]) hx hb dX11_sureOf_13 rfl hl (by decide) rfl (fun ls hl => ?_)
  refine lv_iconst (v := (0 : Int32)) hx hb dX11_sureOf_14 (by decide) ?_
  refine lv_istore_n (lv' := [(3, .int (0 : Int32)), (2, .int y0), (0, .ref a_m), (1, .int x1)]) hx hb dX11_sureOf_15 rfl hl (by decide) rfl (fun ls hl => ?_)
  obtain ⟨o15, e16, hf⟩ := lp_bind hf
  refine L_X11_sureOf_16_W CF hG ?_ KN _ _ _ hP (lv_sub hl [2, 3, 1, 0] rfl) e16
  intro ls hl
  refine lv_iload_n hx hb dX11_sureOf_72 rfl (lv_at hl 0 rfl) ?_
  obtain rfl := Option.some.inj hf
  exact ro_iret CF hr hlk dX11_sureOf_73
set_option maxHeartbeats 4000000 in
set_option maxRecDepth 100000 in
theorem c_X11_sureOf (l : Launch) (D : va_G) (cI cB cT : ClassId) (a_m a_m_refused a_m_codes a_m_noted a_m_marked a_m_masks a_m_text a_m_before a_m_ahead a_m_aside a_m_sure a_m_wrongs a_m_says a_m_evening a_m_images : Nat) (m_words : Int32) (m_kindNow : Int32) (m_secretNow : Int32) (m_guessed : Int32) (m_left : Int32) (m_wrong : Int32) (m_noteMany : Int32) (m_markMany : Int32) (m_typed : Int32) (m_readAt : Int32) (m_readNumber : Int32) (m_undoMany : Int32) (m_lastGuesses : Int32) (m_above : Int64) (m_below : Int64) (m_refused : (Nat → Int32)) (m_codes : (Nat → Int32)) (m_noted : (Nat → Int32)) (m_marked : (Nat → Int32)) (m_masks : (Nat → Int32)) (m_text : (Nat → Int32)) (m_before : (Nat → Int32)) (m_ahead : (Nat → Int32)) (m_aside : (Nat → Int32)) (m_sure : (Nat → Int32)) (m_wrongs : (Nat → Int32)) (m_says : (Nat → Int32)) (m_evening : (Nat → Int32)) (m_images : (Nat → Int32)) (p1 : Int32) {z : Int32} (hf : f_X11_sureOf m_words m_masks m_sure p1 = some z) :
    Met l yX11_sureOf (Cond.code yX11_sureOf cX11_sureOf 5 (some .int) :: wsAll) rm_X11_sureOf (Pro [.ref a_m, .int p1] D cI cB cT (wd_m a_m a_m_refused a_m_codes a_m_noted a_m_marked a_m_masks a_m_text a_m_before a_m_ahead a_m_aside a_m_sure a_m_wrongs a_m_says a_m_evening a_m_images cI cB cT m_words m_kindNow m_secretNow m_guessed m_left m_wrong m_noteMany m_markMany m_typed m_readAt m_readNumber m_undoMany m_lastGuesses m_above m_below m_refused m_codes m_noted m_marked m_masks m_text m_before m_ahead m_aside m_sure m_wrongs m_says m_evening m_images)) (Qr (some (.int z))) 0 0 (fun _ => False) := by
  refine ro_intro RX11 (by decide +kernel) rfl (Nat.le_of_ble_eq_true rfl) ?_
  intro p e s m below meth c ls CF hr hlk hG hP hl
  have hl : lv_has ls 5 [(0, .ref a_m), (1, .int p1)] := hl
  obtain ⟨hx, hb, hml, hown, hts⟩ := id CF
  unfold f_X11_sureOf at hf
  refine lv_iload_n hx hb dX11_sureOf_0 rfl (lv_at hl 1 rfl) ?_
  obtain ⟨o1, e2, hf⟩ := lp_bind hf
  refine ro_Si (x := o1) (As := [.int p1]) (rest := []) CF (c_X11_isOneAtMost l D cI cB cT p1 e2) ok_X11_isOneAtMost wm_1247 ⟨rfl, rfl, Nat.le_of_ble_eq_true rfl, Nat.le_of_ble_eq_true rfl⟩ hG wd_E_P rfl hl.1 rfl (Nat.le_of_ble_eq_true rfl) ⟨Nat.zero_le _, Nat.zero_le _⟩ dX11_sureOf_1 ?_
  refine lv_if_eq (tgt := 11) hx hb dX11_sureOf_4 (by decide) (fun c3 => ?_) (fun c3 => ?_)
  · have hf := tk c3 hf
    refine lv_ldc (v := (1048576 : Int32)) hx hb hown (hts _ wm_1242) dX11_sureOf_11 ?_
    exact J_X11_sureOf_13_W CF hG hr hlk hP (lv_sub hl [0, 1] rfl) hf
  · have hf := fk c3 hf
    refine lv_iconst (v := (0 : Int32)) hx hb dX11_sureOf_7 (by decide) ?_
    refine lv_goto (tgt := 13) hx hb dX11_sureOf_8 (by decide) ?_
    exact J_X11_sureOf_13_W CF hG hr hlk hP (lv_sub hl [0, 1] rfl) hf
end M_X11_sureOf
section M_X11_setSure
variable {p : Program} {l : Launch} {e : Env} {s : State} {m : MethodId} {args : Array Value} {below : List Frame} {meth : Method} {c : Code} {Q : State → Prop} {A : Nat → Prop} {D : va_G} {cI cB cT : ClassId}
variable {a_m a_m_refused a_m_codes a_m_noted a_m_marked a_m_masks a_m_text a_m_before a_m_ahead a_m_aside a_m_sure a_m_wrongs a_m_says a_m_evening a_m_images : Nat}
def rm_X11_setSure : Room := { frames := 4, cells := 0, slots := 0, locals := 98 }
def B_X11_setSure_2 (m_words : Int32) (m_left : Int32) (m_masks : (Nat → Int32)) (x1 : Int32) (m_sure : (Nat → Int32)) : Option ((Int32 × (Nat → Int32)) ⊕ ((Nat → Int32))) := (if ((1 : Int32) <<< (m_words &&& 31)) ≤ x1 then some (Sum.inr m_sure) else (if (x1 &&& (m_left ^^^ (-1 : Int32))) = 0 then ((f_X11_sureOf m_words m_masks m_sure x1).bind fun o3 => (if oob x1 256 then none else some (Sum.inl ((x1 + (1 : Int32)), (upd m_sure (x1).toNatClampNeg o3))))) else some (Sum.inl ((x1 + (1 : Int32)), m_sure))))
def f_X11_setSure (m_words : Int32) (m_left : Int32) (m_masks : (Nat → Int32)) (m_sure : (Nat → Int32)) : Option ((Nat → Int32)) := ((lp (fun v => B_X11_setSure_2 m_words m_left m_masks v.1 v.2) KN ((0 : Int32), m_sure)).bind fun o6 => some o6)
set_option maxHeartbeats 4000000 in
set_option maxRecDepth 100000 in
theorem B_X11_setSure_2_W {m_words : Int32} {m_kindNow : Int32} {m_secretNow : Int32} {m_guessed : Int32} {m_left : Int32} {m_wrong : Int32} {m_noteMany : Int32} {m_markMany : Int32} {m_typed : Int32} {m_readAt : Int32} {m_readNumber : Int32} {m_undoMany : Int32} {m_lastGuesses : Int32} {m_above : Int64} {m_below : Int64} {m_refused : (Nat → Int32)} {m_codes : (Nat → Int32)} {m_noted : (Nat → Int32)} {m_marked : (Nat → Int32)} {m_masks : (Nat → Int32)} {m_text : (Nat → Int32)} {m_before : (Nat → Int32)} {m_ahead : (Nat → Int32)} {m_aside : (Nat → Int32)} {m_sure : (Nat → Int32)} {m_wrongs : (Nat → Int32)} {m_says : (Nat → Int32)} {m_evening : (Nat → Int32)} {m_images : (Nat → Int32)} {x1 : Int32} (CF : CallFix p m c cX11_setSure 2 s args wsAll RX11) (hG : Gd D cI cB cT s) (hA : ∀ q : Nat, s.heap.size ≤ q → A q) {z : (Int32 × (Nat → Int32)) ⊕ ((Nat → Int32))} {H : Heap} {locs : List Loc} (hk : ∀ (v' : Int32 × (Nat → Int32)) (H : Heap) (locs : List Loc) (ls : Array Slot), z = Sum.inl v' → va_P D vwCl (wd_m a_m a_m_refused a_m_codes a_m_noted a_m_marked a_m_masks a_m_text a_m_before a_m_ahead a_m_aside a_m_sure a_m_wrongs a_m_says a_m_evening a_m_images cI cB cT m_words m_kindNow m_secretNow m_guessed m_left m_wrong m_noteMany m_markMany m_typed m_readAt m_readNumber m_undoMany m_lastGuesses m_above m_below m_refused m_codes m_noted m_marked m_masks m_text m_before m_ahead m_aside (v'.2) m_wrongs m_says m_evening m_images) H → va_D A (wd_m a_m a_m_refused a_m_codes a_m_noted a_m_marked a_m_masks a_m_text a_m_before a_m_ahead a_m_aside a_m_sure a_m_wrongs a_m_says a_m_evening a_m_images cI cB cT m_words m_kindNow m_secretNow m_guessed m_left m_wrong m_noteMany m_markMany m_typed m_readAt m_readNumber m_undoMany m_lastGuesses m_above m_below m_refused m_codes m_noted m_marked m_masks m_text m_before m_ahead m_aside (v'.2) m_wrongs m_says m_evening m_images) → va_S A s.heap H locs → lv_has ls 2 [(0, .ref a_m), (1, .int (v'.1))] → W p l e rm_X11_setSure s m args below meth c H locs 0 0 Q (F0 m 2 ls [])) (hx0 : ∀ (o' : (Nat → Int32)) (H : Heap) (locs : List Loc) (ls : Array Slot), z = Sum.inr o' → va_P D vwCl (wd_m a_m a_m_refused a_m_codes a_m_noted a_m_marked a_m_masks a_m_text a_m_before a_m_ahead a_m_aside a_m_sure a_m_wrongs a_m_says a_m_evening a_m_images cI cB cT m_words m_kindNow m_secretNow m_guessed m_left m_wrong m_noteMany m_markMany m_typed m_readAt m_readNumber m_undoMany m_lastGuesses m_above m_below m_refused m_codes m_noted m_marked m_masks m_text m_before m_ahead m_aside (o') m_wrongs m_says m_evening m_images) H → va_D A (wd_m a_m a_m_refused a_m_codes a_m_noted a_m_marked a_m_masks a_m_text a_m_before a_m_ahead a_m_aside a_m_sure a_m_wrongs a_m_says a_m_evening a_m_images cI cB cT m_words m_kindNow m_secretNow m_guessed m_left m_wrong m_noteMany m_markMany m_typed m_readAt m_readNumber m_undoMany m_lastGuesses m_above m_below m_refused m_codes m_noted m_marked m_masks m_text m_before m_ahead m_aside (o') m_wrongs m_says m_evening m_images) → va_S A s.heap H locs → lv_has ls 2 [] → W p l e rm_X11_setSure s m args below meth c H locs 0 0 Q (F0 m 40 ls [])) {ls : Array Slot} (hP : va_P D vwCl (wd_m a_m a_m_refused a_m_codes a_m_noted a_m_marked a_m_masks a_m_text a_m_before a_m_ahead a_m_aside a_m_sure a_m_wrongs a_m_says a_m_evening a_m_images cI cB cT m_words m_kindNow m_secretNow m_guessed m_left m_wrong m_noteMany m_markMany m_typed m_readAt m_readNumber m_undoMany m_lastGuesses m_above m_below m_refused m_codes m_noted m_marked m_masks m_text m_before m_ahead m_aside m_sure m_wrongs m_says m_evening m_images) H) (hD : va_D A (wd_m a_m a_m_refused a_m_codes a_m_noted a_m_marked a_m_masks a_m_text a_m_before a_m_ahead a_m_aside a_m_sure a_m_wrongs a_m_says a_m_evening a_m_images cI cB cT m_words m_kindNow m_secretNow m_guessed m_left m_wrong m_noteMany m_markMany m_typed m_readAt m_readNumber m_undoMany m_lastGuesses m_above m_below m_refused m_codes m_noted m_marked m_masks m_text m_before m_ahead m_aside m_sure m_wrongs m_says m_evening m_images)) (hS : va_S A s.heap H locs) (hl : lv_has ls 2 [(0, .ref a_m), (1, .int x1)]) (hf : B_X11_setSure_2 m_words m_left m_masks x1 m_sure = some z) : W p l e rm_X11_setSure s m args below meth c H locs 0 0 Q (F0 m 2 ls []) := by
  obtain ⟨hx, hb, hml, hown, hts⟩ := id CF
  unfold B_X11_setSure_2 at hf
  refine lv_iload_n hx hb dX11_setSure_2 rfl (lv_at hl 1 rfl) ?_
  refine lv_iconst (v := (1 : Int32)) hx hb dX11_setSure_3 (by decide) ?_
  refine lv_aload_n hx hb dX11_setSure_4 rfl (lv_at hl 0 rfl) ?_
  refine va_get (D := D) (ci := 9) (v := .int m_words) (C := RX11) (T := TX11) (N := 29) hx hb hts fin_X11 hown hG.1 hP 0 ce_m_0 vq_9 1 (by decide) (hts _ wm_923) (fun _ h9 => h9) rfl dX11_setSure_5 ?_
  refine lv_ishl hx hb dX11_setSure_8 ?_
  refine lv_icmp_ge (tgt := 40) hx hb dX11_setSure_9 (by decide) (fun c1 => ?_) (fun c1 => ?_)
  · have hf := tk c1 hf
    exact hx0 _ _ _ _ (Option.some.inj hf).symm hP hD hS (lv_sub hl [] rfl)
  · have hf := fk c1 hf
    refine lv_iload_n hx hb dX11_setSure_12 rfl (lv_at hl 1 rfl) ?_
    refine lv_aload_n hx hb dX11_setSure_13 rfl (lv_at hl 0 rfl) ?_
    refine va_get (D := D) (ci := 9) (v := .int m_left) (C := RX11) (T := TX11) (N := 29) hx hb hts fin_X11 hown hG.1 hP 0 ce_m_0 vq_9 5 (by decide) (hts _ wm_927) (fun _ h9 => h9) rfl dX11_setSure_14 ?_
    refine lv_iconst (v := (-1 : Int32)) hx hb dX11_setSure_17 (by decide) ?_
    refine lv_ixor hx hb dX11_setSure_18 ?_
    refine lv_iand hx hb dX11_setSure_19 ?_
    refine lv_if_ne (tgt := 34) hx hb dX11_setSure_20 (by decide) (fun c2 => ?_) (fun c2 => ?_)
    · have hf := fk c2 hf
      refine lv_iinc (v := (x1 + (1 : Int32))) (lv' := [(1, .int (x1 + (1 : Int32))), (0, .ref a_m)]) hx hb dX11_setSure_34 hl (k := 1) rfl (iinc_eq (by decide)) (by decide) rfl (fun ls hl => ?_)
      refine lv_goto (tgt := 2) hx hb dX11_setSure_37 (by decide) ?_
      exact hk _ _ _ _ (Option.some.inj hf).symm hP hD hS (lv_sub hl [1, 0] rfl)
    · have hf := tk c2 hf
      refine lv_aload_n hx hb dX11_setSure_23 rfl (lv_at hl 0 rfl) ?_
      refine va_get (D := D) (ci := 9) (v := .ref a_m_sure) (C := RX11) (T := TX11) (N := 29) hx hb hts fin_X11 hown hG.1 hP 0 ce_m_0 vq_9 21 (by decide) (hts _ wm_943) (fun _ h9 => h9) rfl dX11_setSure_24 ?_
      refine lv_iload_n hx hb dX11_setSure_27 rfl (lv_at hl 1 rfl) ?_
      refine lv_aload_n hx hb dX11_setSure_28 rfl (lv_at hl 0 rfl) ?_
      refine lv_iload_n hx hb dX11_setSure_29 rfl (lv_at hl 1 rfl) ?_
      obtain ⟨o3, e4, hf⟩ := lp_bind hf
      refine ro_Vi (x := o3) (As := [.int x1]) (rest := [.int x1, .ref a_m_sure]) CF (c_X11_sureOf l D cI cB cT a_m a_m_refused a_m_codes a_m_noted a_m_marked a_m_masks a_m_text a_m_before a_m_ahead a_m_aside a_m_sure a_m_wrongs a_m_says a_m_evening a_m_images m_words m_kindNow m_secretNow m_guessed m_left m_wrong m_noteMany m_markMany m_typed m_readAt m_readNumber m_undoMany m_lastGuesses m_above m_below m_refused m_codes m_noted m_marked m_masks m_text m_before m_ahead m_aside m_sure m_wrongs m_says m_evening m_images x1 e4) ok_X11_sureOf wm_1254 ⟨rfl, rfl, Nat.le_of_ble_eq_true rfl, Nat.le_of_ble_eq_true rfl⟩ hG hP 0 9 vq_9 rfl ce_m_0 rfl hl.1 rfl (Nat.le_of_ble_eq_true rfl) ⟨Nat.zero_le _, Nat.zero_le _⟩ dX11_setSure_30 ?_
      obtain ⟨n5, hf⟩ := nk hf
      refine va_iast (f := m_sure) hx hb hG.1 hP hD hS 10 0 ce_m_10 rfl n5 dX11_setSure_33 (fun H locs hP _ hS => ?_)
      have hP : va_P D vwCl (wd_m a_m a_m_refused a_m_codes a_m_noted a_m_marked a_m_masks a_m_text a_m_before a_m_ahead a_m_aside a_m_sure a_m_wrongs a_m_says a_m_evening a_m_images cI cB cT m_words m_kindNow m_secretNow m_guessed m_left m_wrong m_noteMany m_markMany m_typed m_readAt m_readNumber m_undoMany m_lastGuesses m_above m_below m_refused m_codes m_noted m_marked m_masks m_text m_before m_ahead m_aside (upd m_sure (x1).toNatClampNeg o3) m_wrongs m_says m_evening m_images) H := va_P_eq se_m_m_sure hP
      have hD : va_D A (wd_m a_m a_m_refused a_m_codes a_m_noted a_m_marked a_m_masks a_m_text a_m_before a_m_ahead a_m_aside a_m_sure a_m_wrongs a_m_says a_m_evening a_m_images cI cB cT m_words m_kindNow m_secretNow m_guessed m_left m_wrong m_noteMany m_markMany m_typed m_readAt m_readNumber m_undoMany m_lastGuesses m_above m_below m_refused m_codes m_noted m_marked m_masks m_text m_before m_ahead m_aside (upd m_sure (x1).toNatClampNeg o3) m_wrongs m_says m_evening m_images) := va_D_fst fs_m hD
      refine lv_iinc (v := (x1 + (1 : Int32))) (lv' := [(1, .int (x1 + (1 : Int32))), (0, .ref a_m)]) hx hb dX11_setSure_34 hl (k := 1) rfl (iinc_eq (by decide)) (by decide) rfl (fun ls hl => ?_)
      refine lv_goto (tgt := 2) hx hb dX11_setSure_37 (by decide) ?_
      exact hk _ _ _ _ (Option.some.inj hf).symm hP hD hS (lv_sub hl [1, 0] rfl)
set_option maxHeartbeats 4000000 in
set_option maxRecDepth 100000 in
theorem L_X11_setSure_2_W {m_words : Int32} {m_kindNow : Int32} {m_secretNow : Int32} {m_guessed : Int32} {m_left : Int32} {m_wrong : Int32} {m_noteMany : Int32} {m_markMany : Int32} {m_typed : Int32} {m_readAt : Int32} {m_readNumber : Int32} {m_undoMany : Int32} {m_lastGuesses : Int32} {m_above : Int64} {m_below : Int64} {m_refused : (Nat → Int32)} {m_codes : (Nat → Int32)} {m_noted : (Nat → Int32)} {m_marked : (Nat → Int32)} {m_masks : (Nat → Int32)} {m_text : (Nat → Int32)} {m_before : (Nat → Int32)} {m_ahead : (Nat → Int32)} {m_aside : (Nat → Int32)} {m_wrongs : (Nat → Int32)} {m_says : (Nat → Int32)} {m_evening : (Nat → Int32)} {m_images : (Nat → Int32)} (CF : CallFix p m c cX11_setSure 2 s args wsAll RX11) (hG : Gd D cI cB cT s) (hA : ∀ q : Nat, s.heap.size ≤ q → A q) {o : (Nat → Int32)} (hx0 : ∀ (H : Heap) (locs : List Loc) (ls : Array Slot), va_P D vwCl (wd_m a_m a_m_refused a_m_codes a_m_noted a_m_marked a_m_masks a_m_text a_m_before a_m_ahead a_m_aside a_m_sure a_m_wrongs a_m_says a_m_evening a_m_images cI cB cT m_words m_kindNow m_secretNow m_guessed m_left m_wrong m_noteMany m_markMany m_typed m_readAt m_readNumber m_undoMany m_lastGuesses m_above m_below m_refused m_codes m_noted m_marked m_masks m_text m_before m_ahead m_aside o m_wrongs m_says m_evening m_images) H → va_D A (wd_m a_m a_m_refused a_m_codes a_m_noted a_m_marked a_m_masks a_m_text a_m_before a_m_ahead a_m_aside a_m_sure a_m_wrongs a_m_says a_m_evening a_m_images cI cB cT m_words m_kindNow m_secretNow m_guessed m_left m_wrong m_noteMany m_markMany m_typed m_readAt m_readNumber m_undoMany m_lastGuesses m_above m_below m_refused m_codes m_noted m_marked m_masks m_text m_before m_ahead m_aside o m_wrongs m_says m_evening m_images) → va_S A s.heap H locs → lv_has ls 2 [] → W p l e rm_X11_setSure s m args below meth c H locs 0 0 Q (F0 m 40 ls [])) : ∀ (n : Nat) (x1 : Int32) (m_sure : (Nat → Int32)) (H : Heap) (locs : List Loc) (ls : Array Slot), va_P D vwCl (wd_m a_m a_m_refused a_m_codes a_m_noted a_m_marked a_m_masks a_m_text a_m_before a_m_ahead a_m_aside a_m_sure a_m_wrongs a_m_says a_m_evening a_m_images cI cB cT m_words m_kindNow m_secretNow m_guessed m_left m_wrong m_noteMany m_markMany m_typed m_readAt m_readNumber m_undoMany m_lastGuesses m_above m_below m_refused m_codes m_noted m_marked m_masks m_text m_before m_ahead m_aside m_sure m_wrongs m_says m_evening m_images) H → va_D A (wd_m a_m a_m_refused a_m_codes a_m_noted a_m_marked a_m_masks a_m_text a_m_before a_m_ahead a_m_aside a_m_sure a_m_wrongs a_m_says a_m_evening a_m_images cI cB cT m_words m_kindNow m_secretNow m_guessed m_left m_wrong m_noteMany m_markMany m_typed m_readAt m_readNumber m_undoMany m_lastGuesses m_above m_below m_refused m_codes m_noted m_marked m_masks m_text m_before m_ahead m_aside m_sure m_wrongs m_says m_evening m_images) → va_S A s.heap H locs → lv_has ls 2 [(0, .ref a_m), (1, .int x1)] → lp (fun v => B_X11_setSure_2 m_words m_left m_masks v.1 v.2) n (x1, m_sure) = some o → W p l e rm_X11_setSure s m args below meth c H locs 0 0 Q (F0 m 2 ls []) := by
  intro n
  induction n with
  | zero =>
    intro x1 m_sure H locs ls hP hD hS hl hf
    exact (lp_zero hf).elim
  | succ n ih =>
    intro x1 m_sure H locs ls hP hD hS hl hf
    obtain ⟨z, hz, hf⟩ := lp_succ hf
    refine B_X11_setSure_2_W CF hG hA ?_ ?_ hP hD hS hl hz
    · intro v' H locs ls ez hP hD hS hl
      rcases hf with ⟨v2, ev, hf⟩ | ev
      · cases Sum.inl.inj (ez.symm.trans ev)
        exact ih v'.1 v'.2 H locs ls hP hD hS hl hf
      · exact (lp_lr (ez.symm.trans ev)).elim
    · intro o' H locs ls ez hP hD hS hl
      rcases hf with ⟨v2, ev, hf⟩ | ev
      · exact (lp_lr (ev.symm.trans ez)).elim
      · cases Sum.inr.inj (ez.symm.trans ev)
        exact hx0 H locs ls hP hD hS hl
set_option maxHeartbeats 4000000 in
set_option maxRecDepth 100000 in
theorem c_X11_setSure (l : Launch) (D : va_G) (cI cB cT : ClassId) (sz : Nat) (a_m a_m_refused a_m_codes a_m_noted a_m_marked a_m_masks a_m_text a_m_before a_m_ahead a_m_aside a_m_sure a_m_wrongs a_m_says a_m_evening a_m_images : Nat) (m_words : Int32) (m_kindNow : Int32) (m_secretNow : Int32) (m_guessed : Int32) (m_left : Int32) (m_wrong : Int32) (m_noteMany : Int32) (m_markMany : Int32) (m_typed : Int32) (m_readAt : Int32) (m_readNumber : Int32) (m_undoMany : Int32) (m_lastGuesses : Int32) (m_above : Int64) (m_below : Int64) (m_refused : (Nat → Int32)) (m_codes : (Nat → Int32)) (m_noted : (Nat → Int32)) (m_marked : (Nat → Int32)) (m_masks : (Nat → Int32)) (m_text : (Nat → Int32)) (m_before : (Nat → Int32)) (m_ahead : (Nat → Int32)) (m_aside : (Nat → Int32)) (m_sure : (Nat → Int32)) (m_wrongs : (Nat → Int32)) (m_says : (Nat → Int32)) (m_evening : (Nat → Int32)) (m_images : (Nat → Int32)) {z : (Nat → Int32)} (hf : f_X11_setSure m_words m_left m_masks m_sure = some z) :
    Met l yX11_setSure (Cond.code yX11_setSure cX11_setSure 2 none :: wsAll) rm_X11_setSure (Pwr [.ref a_m] D cI cB cT (wd_m a_m a_m_refused a_m_codes a_m_noted a_m_marked a_m_masks a_m_text a_m_before a_m_ahead a_m_aside a_m_sure a_m_wrongs a_m_says a_m_evening a_m_images cI cB cT m_words m_kindNow m_secretNow m_guessed m_left m_wrong m_noteMany m_markMany m_typed m_readAt m_readNumber m_undoMany m_lastGuesses m_above m_below m_refused m_codes m_noted m_marked m_masks m_text m_before m_ahead m_aside m_sure m_wrongs m_says m_evening m_images) sz) (Qw none D (wd_m a_m a_m_refused a_m_codes a_m_noted a_m_marked a_m_masks a_m_text a_m_before a_m_ahead a_m_aside a_m_sure a_m_wrongs a_m_says a_m_evening a_m_images cI cB cT m_words m_kindNow m_secretNow m_guessed m_left m_wrong m_noteMany m_markMany m_typed m_readAt m_readNumber m_undoMany m_lastGuesses m_above m_below m_refused m_codes m_noted m_marked m_masks m_text m_before m_ahead m_aside z m_wrongs m_says m_evening m_images) (va_A (wd_m a_m a_m_refused a_m_codes a_m_noted a_m_marked a_m_masks a_m_text a_m_before a_m_ahead a_m_aside a_m_sure a_m_wrongs a_m_says a_m_evening a_m_images cI cB cT m_words m_kindNow m_secretNow m_guessed m_left m_wrong m_noteMany m_markMany m_typed m_readAt m_readNumber m_undoMany m_lastGuesses m_above m_below m_refused m_codes m_noted m_marked m_masks m_text m_before m_ahead m_aside m_sure m_wrongs m_says m_evening m_images) sz)) 0 0 (va_A (wd_m a_m a_m_refused a_m_codes a_m_noted a_m_marked a_m_masks a_m_text a_m_before a_m_ahead a_m_aside a_m_sure a_m_wrongs a_m_says a_m_evening a_m_images cI cB cT m_words m_kindNow m_secretNow m_guessed m_left m_wrong m_noteMany m_markMany m_typed m_readAt m_readNumber m_undoMany m_lastGuesses m_above m_below m_refused m_codes m_noted m_marked m_masks m_text m_before m_ahead m_aside m_sure m_wrongs m_says m_evening m_images) sz) := by
  refine wr_intro RX11 (by decide +kernel) rfl (Nat.le_of_ble_eq_true rfl) ?_
  intro p e s m below meth c ls A H locs CF hr hlk hG hP hD hS hA hl
  have hl : lv_has ls 2 [(0, .ref a_m)] := hl
  obtain ⟨hx, hb, hml, hown, hts⟩ := id CF
  unfold f_X11_setSure at hf
  refine lv_iconst (v := (0 : Int32)) hx hb dX11_setSure_0 (by decide) ?_
  refine lv_istore_n (lv' := [(1, .int (0 : Int32)), (0, .ref a_m)]) hx hb dX11_setSure_1 rfl hl (by decide) rfl (fun ls hl => ?_)
  obtain ⟨o6, e7, hf⟩ := lp_bind hf
  refine L_X11_setSure_2_W CF hG hA ?_ KN _ _ _ _ _ hP hD hS (lv_sub hl [1, 0] rfl) e7
  intro H locs ls hP hD hS hl
  obtain rfl := Option.some.inj hf
  exact wr_vret CF hr hlk hP hS dX11_setSure_40
end M_X11_setSure
section M_X11_surely
variable {p : Program} {l : Launch} {e : Env} {s : State} {m : MethodId} {args : Array Value} {below : List Frame} {meth : Method} {c : Code} {Q : State → Prop} {A : Nat → Prop} {D : va_G} {cI cB cT : ClassId}
variable {a_m a_m_refused a_m_codes a_m_noted a_m_marked a_m_masks a_m_text a_m_before a_m_ahead a_m_aside a_m_sure a_m_wrongs a_m_says a_m_evening a_m_images : Nat}
def rm_X11_surely : Room := { frames := 5, cells := 0, slots := 0, locals := 119 }
def J_X11_surely_80 (m_words : Int32) (m_left : Int32) (m_masks : (Nat → Int32)) (m_sure : (Nat → Int32)) (x2 : Int32) (x3 : Int32) (y0 : Int32) : Option ((Int32 × Int32) ⊕ (Int32)) := (if y0 = 0 then some (Sum.inl (x2, (x3 + (-1 : Int32)))) else ((f_X11_sureBy m_words m_masks m_sure m_left x3).bind fun o15 => (if oob m_left 256 then none else (if o15 = (m_sure (m_left).toNatClampNeg) then some (Sum.inl (x3, (x3 + (-1 : Int32)))) else some (Sum.inl (x2, (x3 + (-1 : Int32))))))))
def B_X11_surely_57 (m_words : Int32) (m_left : Int32) (m_masks : (Nat → Int32)) (m_sure : (Nat → Int32)) (x2 : Int32) (x3 : Int32) : Option ((Int32 × Int32) ⊕ (Int32)) := (if x3 < 0 then some (Sum.inr x2) else ((f_X11_partsBy m_words m_masks m_left x3 (0 : Int32)).bind fun o11 => (if o11 ≤ (1 : Int32) then J_X11_surely_80 m_words m_left m_masks m_sure x2 x3 (0 : Int32) else J_X11_surely_80 m_words m_left m_masks m_sure x2 x3 (1 : Int32))))
def f_X11_surely (m_words : Int32) (m_left : Int32) (m_refused : (Nat → Int32)) (m_masks : (Nat → Int32)) (m_sure : (Nat → Int32)) (p1 : Int32) : Option (Int32 × (Nat → Int32) × (Nat → Int32)) := ((f_X11_in p1 (0 : Int32) (1 : Int32)).bind fun o1 => (if o1 = 0 then ((f_X11_bad m_refused).bind fun o23 => some (o23.1, o23.2, m_sure)) else ((f_X11_isOneAtMost m_left).bind fun o4 => (if o4 = 0 then ((f_X11_setSure m_words m_left m_masks m_sure).bind fun o7 => (if p1 = 0 then (if oob m_left 256 then none else some ((o7 (m_left).toNatClampNeg), m_refused, o7)) else ((lp (fun v => B_X11_surely_57 m_words m_left m_masks o7 v.1 v.2) KN ((-1 : Int32), (9 : Int32))).bind fun o19 => some (o19, m_refused, o7)))) else (if p1 = 0 then some ((0 : Int32), m_refused, m_sure) else some ((-1 : Int32), m_refused, m_sure))))))
set_option maxHeartbeats 4000000 in
set_option maxRecDepth 100000 in
theorem J_X11_surely_80_W {m_words : Int32} {m_kindNow : Int32} {m_secretNow : Int32} {m_guessed : Int32} {m_left : Int32} {m_wrong : Int32} {m_noteMany : Int32} {m_markMany : Int32} {m_typed : Int32} {m_readAt : Int32} {m_readNumber : Int32} {m_undoMany : Int32} {m_lastGuesses : Int32} {m_above : Int64} {m_below : Int64} {m_refused : (Nat → Int32)} {m_codes : (Nat → Int32)} {m_noted : (Nat → Int32)} {m_marked : (Nat → Int32)} {m_masks : (Nat → Int32)} {m_text : (Nat → Int32)} {m_before : (Nat → Int32)} {m_ahead : (Nat → Int32)} {m_aside : (Nat → Int32)} {m_sure : (Nat → Int32)} {m_wrongs : (Nat → Int32)} {m_says : (Nat → Int32)} {m_evening : (Nat → Int32)} {m_images : (Nat → Int32)} {x2 : Int32} {x3 : Int32} {y0 : Int32} (CF : CallFix p m c cX11_surely 5 s args wsAll RX11) (hG : Gd D cI cB cT s) (hA : ∀ q : Nat, s.heap.size ≤ q → A q) {z : (Int32 × Int32) ⊕ (Int32)} {H : Heap} {locs : List Loc} (hk : ∀ (v' : Int32 × Int32) (H : Heap) (locs : List Loc) (ls : Array Slot), z = Sum.inl v' → va_P D vwCl (wd_m a_m a_m_refused a_m_codes a_m_noted a_m_marked a_m_masks a_m_text a_m_before a_m_ahead a_m_aside a_m_sure a_m_wrongs a_m_says a_m_evening a_m_images cI cB cT m_words m_kindNow m_secretNow m_guessed m_left m_wrong m_noteMany m_markMany m_typed m_readAt m_readNumber m_undoMany m_lastGuesses m_above m_below m_refused m_codes m_noted m_marked m_masks m_text m_before m_ahead m_aside m_sure m_wrongs m_says m_evening m_images) H → va_D A (wd_m a_m a_m_refused a_m_codes a_m_noted a_m_marked a_m_masks a_m_text a_m_before a_m_ahead a_m_aside a_m_sure a_m_wrongs a_m_says a_m_evening a_m_images cI cB cT m_words m_kindNow m_secretNow m_guessed m_left m_wrong m_noteMany m_markMany m_typed m_readAt m_readNumber m_undoMany m_lastGuesses m_above m_below m_refused m_codes m_noted m_marked m_masks m_text m_before m_ahead m_aside m_sure m_wrongs m_says m_evening m_images) → va_S A s.heap H locs → lv_has ls 5 [(0, .ref a_m), (2, .int (v'.1)), (3, .int (v'.2))] → W p l e rm_X11_surely s m args below meth c H locs 0 0 Q (F0 m 57 ls [])) (hx0 : ∀ (o' : Int32) (H : Heap) (locs : List Loc) (ls : Array Slot), z = Sum.inr o' → va_P D vwCl (wd_m a_m a_m_refused a_m_codes a_m_noted a_m_marked a_m_masks a_m_text a_m_before a_m_ahead a_m_aside a_m_sure a_m_wrongs a_m_says a_m_evening a_m_images cI cB cT m_words m_kindNow m_secretNow m_guessed m_left m_wrong m_noteMany m_markMany m_typed m_readAt m_readNumber m_undoMany m_lastGuesses m_above m_below m_refused m_codes m_noted m_marked m_masks m_text m_before m_ahead m_aside m_sure m_wrongs m_says m_evening m_images) H → va_D A (wd_m a_m a_m_refused a_m_codes a_m_noted a_m_marked a_m_masks a_m_text a_m_before a_m_ahead a_m_aside a_m_sure a_m_wrongs a_m_says a_m_evening a_m_images cI cB cT m_words m_kindNow m_secretNow m_guessed m_left m_wrong m_noteMany m_markMany m_typed m_readAt m_readNumber m_undoMany m_lastGuesses m_above m_below m_refused m_codes m_noted m_marked m_masks m_text m_before m_ahead m_aside m_sure m_wrongs m_says m_evening m_images) → va_S A s.heap H locs → lv_has ls 5 [(2, .int (o'))] → W p l e rm_X11_surely s m args below meth c H locs 0 0 Q (F0 m 120 ls [])) {ls : Array Slot} (hP : va_P D vwCl (wd_m a_m a_m_refused a_m_codes a_m_noted a_m_marked a_m_masks a_m_text a_m_before a_m_ahead a_m_aside a_m_sure a_m_wrongs a_m_says a_m_evening a_m_images cI cB cT m_words m_kindNow m_secretNow m_guessed m_left m_wrong m_noteMany m_markMany m_typed m_readAt m_readNumber m_undoMany m_lastGuesses m_above m_below m_refused m_codes m_noted m_marked m_masks m_text m_before m_ahead m_aside m_sure m_wrongs m_says m_evening m_images) H) (hD : va_D A (wd_m a_m a_m_refused a_m_codes a_m_noted a_m_marked a_m_masks a_m_text a_m_before a_m_ahead a_m_aside a_m_sure a_m_wrongs a_m_says a_m_evening a_m_images cI cB cT m_words m_kindNow m_secretNow m_guessed m_left m_wrong m_noteMany m_markMany m_typed m_readAt m_readNumber m_undoMany m_lastGuesses m_above m_below m_refused m_codes m_noted m_marked m_masks m_text m_before m_ahead m_aside m_sure m_wrongs m_says m_evening m_images)) (hS : va_S A s.heap H locs) (hl : lv_has ls 5 [(0, .ref a_m), (2, .int x2), (3, .int x3)]) (hf : J_X11_surely_80 m_words m_left m_masks m_sure x2 x3 y0 = some z) : W p l e rm_X11_surely s m args below meth c H locs 0 0 Q (F0 m 80 ls [.int y0]) := by
  obtain ⟨hx, hb, hml, hown, hts⟩ := id CF
  unfold J_X11_surely_80 at hf
  refine lv_istore (lv' := [(4, .int y0), (0, .ref a_m), (2, .int x2), (3, .int x3)]) hx hb dX11_surely_80 hl (by decide) rfl (fun ls hl => ?_)
  refine lv_iload hx hb dX11_surely_82 (lv_at hl 0 rfl) ?_
  refine lv_if_eq (tgt := 112) hx hb dX11_surely_84 (by decide) (fun c14 => ?_) (fun c14 => ?_)
  · have hf := tk c14 hf
    refine lv_iload_n hx hb dX11_surely_112 rfl (lv_at hl 2 rfl) ?_
    refine lv_istore_n (lv' := [(2, .int x2), (4, .int y0), (0, .ref a_m), (3, .int x3)]) hx hb dX11_surely_113 rfl hl (by decide) rfl (fun ls hl => ?_)
    refine lv_iinc (v := (x3 + (-1 : Int32))) (lv' := [(3, .int (x3 + (-1 : Int32))), (2, .int x2), (4, .int y0), (0, .ref a_m)]) hx hb dX11_surely_114 hl (k := 3) rfl (iinc_eq (by decide)) (by decide) rfl (fun ls hl => ?_)
    refine lv_goto (tgt := 57) hx hb dX11_surely_117 (by decide) ?_
    exact hk _ _ _ _ (Option.some.inj hf).symm hP hD hS (lv_sub hl [3, 1, 0] rfl)
  · have hf := fk c14 hf
    refine lv_aload_n hx hb dX11_surely_87 rfl (lv_at hl 1 rfl) ?_
    refine lv_aload_n hx hb dX11_surely_88 rfl (lv_at hl 1 rfl) ?_
    refine va_get (D := D) (ci := 9) (v := .int m_left) (C := RX11) (T := TX11) (N := 29) hx hb hts fin_X11 hown hG.1 hP 0 ce_m_0 vq_9 5 (by decide) (hts _ wm_927) (fun _ h9 => h9) rfl dX11_surely_89 ?_
    refine lv_iload_n hx hb dX11_surely_92 rfl (lv_at hl 3 rfl) ?_
    obtain ⟨o15, e16, hf⟩ := lp_bind hf
    refine ro_Vi (x := o15) (As := [.int m_left, .int x3]) (rest := []) CF (c_X11_sureBy l D cI cB cT a_m a_m_refused a_m_codes a_m_noted a_m_marked a_m_masks a_m_text a_m_before a_m_ahead a_m_aside a_m_sure a_m_wrongs a_m_says a_m_evening a_m_images m_words m_kindNow m_secretNow m_guessed m_left m_wrong m_noteMany m_markMany m_typed m_readAt m_readNumber m_undoMany m_lastGuesses m_above m_below m_refused m_codes m_noted m_marked m_masks m_text m_before m_ahead m_aside m_sure m_wrongs m_says m_evening m_images m_left x3 e16) ok_X11_sureBy wm_1258 ⟨rfl, rfl, Nat.le_of_ble_eq_true rfl, Nat.le_of_ble_eq_true rfl⟩ hG hP 0 9 vq_9 rfl ce_m_0 rfl hl.1 rfl (Nat.le_of_ble_eq_true rfl) ⟨Nat.zero_le _, Nat.zero_le _⟩ dX11_surely_93 ?_
    refine lv_aload_n hx hb dX11_surely_96 rfl (lv_at hl 1 rfl) ?_
    refine va_get (D := D) (ci := 9) (v := .ref a_m_sure) (C := RX11) (T := TX11) (N := 29) hx hb hts fin_X11 hown hG.1 hP 0 ce_m_0 vq_9 21 (by decide) (hts _ wm_943) (fun _ h9 => h9) rfl dX11_surely_97 ?_
    refine lv_aload_n hx hb dX11_surely_100 rfl (lv_at hl 1 rfl) ?_
    refine va_get (D := D) (ci := 9) (v := .int m_left) (C := RX11) (T := TX11) (N := 29) hx hb hts fin_X11 hown hG.1 hP 0 ce_m_0 vq_9 5 (by decide) (hts _ wm_927) (fun _ h9 => h9) rfl dX11_surely_101 ?_
    obtain ⟨n17, hf⟩ := nk hf
    refine va_iald (f := m_sure) hx hb hG.1 hP 10 0 ce_m_10 rfl n17 dX11_surely_104 ?_
    refine lv_icmp_ne (tgt := 112) hx hb dX11_surely_105 (by decide) (fun c18 => ?_) (fun c18 => ?_)
    · have hf := fk c18 hf
      refine lv_iload_n hx hb dX11_surely_112 rfl (lv_at hl 2 rfl) ?_
      refine lv_istore_n (lv' := [(2, .int x2), (4, .int y0), (0, .ref a_m), (3, .int x3)]) hx hb dX11_surely_113 rfl hl (by decide) rfl (fun ls hl => ?_)
      refine lv_iinc (v := (x3 + (-1 : Int32))) (lv' := [(3, .int (x3 + (-1 : Int32))), (2, .int x2), (4, .int y0), (0, .ref a_m)]) hx hb dX11_surely_114 hl (k := 3) rfl (iinc_eq (by decide)) (by decide) rfl (fun ls hl => ?_)
      refine lv_goto (tgt := 57) hx hb dX11_surely_117 (by decide) ?_
      exact hk _ _ _ _ (Option.some.inj hf).symm hP hD hS (lv_sub hl [3, 1, 0] rfl)
    · have hf := tk c18 hf
      refine lv_iload_n hx hb dX11_surely_108 rfl (lv_at hl 3 rfl) ?_
      refine lv_goto (tgt := 113) hx hb dX11_surely_109 (by decide) ?_
      refine lv_istore_n (lv' := [(2, .int x3), (4, .int y0), (0, .ref a_m), (3, .int x3)]) hx hb dX11_surely_113 rfl hl (by decide) rfl (fun ls hl => ?_)
      refine lv_iinc (v := (x3 + (-1 : Int32))) (lv' := [(3, .int (x3 + (-1 : Int32))), (2, .int x3), (4, .int y0), (0, .ref a_m)]) hx hb dX11_surely_114 hl (k := 3) rfl (iinc_eq (by decide)) (by decide) rfl (fun ls hl => ?_)
      refine lv_goto (tgt := 57) hx hb dX11_surely_117 (by decide) ?_
      exact hk _ _ _ _ (Option.some.inj hf).symm hP hD hS (lv_sub hl [3, 1, 0] rfl)
set_option maxHeartbeats 4000000 in
set_option maxRecDepth 100000 in
theorem B_X11_surely_57_W {m_words : Int32} {m_kindNow : Int32} {m_secretNow : Int32} {m_guessed : Int32} {m_left : Int32} {m_wrong : Int32} {m_noteMany : Int32} {m_markMany : Int32} {m_typed : Int32} {m_readAt : Int32} {m_readNumber : Int32} {m_undoMany : Int32} {m_lastGuesses : Int32} {m_above : Int64} {m_below : Int64} {m_refused : (Nat → Int32)} {m_codes : (Nat → Int32)} {m_noted : (Nat → Int32)} {m_marked : (Nat → Int32)} {m_masks : (Nat → Int32)} {m_text : (Nat → Int32)} {m_before : (Nat → Int32)} {m_ahead : (Nat → Int32)} {m_aside : (Nat → Int32)} {m_sure : (Nat → Int32)} {m_wrongs : (Nat → Int32)} {m_says : (Nat → Int32)} {m_evening : (Nat → Int32)} {m_images : (Nat → Int32)} {x2 : Int32} {x3 : Int32} (CF : CallFix p m c cX11_surely 5 s args wsAll RX11) (hG : Gd D cI cB cT s) (hA : ∀ q : Nat, s.heap.size ≤ q → A q) {z : (Int32 × Int32) ⊕ (Int32)} {H : Heap} {locs : List Loc} (hk : ∀ (v' : Int32 × Int32) (H : Heap) (locs : List Loc) (ls : Array Slot), z = Sum.inl v' → va_P D vwCl (wd_m a_m a_m_refused a_m_codes a_m_noted a_m_marked a_m_masks a_m_text a_m_before a_m_ahead a_m_aside a_m_sure a_m_wrongs a_m_says a_m_evening a_m_images cI cB cT m_words m_kindNow m_secretNow m_guessed m_left m_wrong m_noteMany m_markMany m_typed m_readAt m_readNumber m_undoMany m_lastGuesses m_above m_below m_refused m_codes m_noted m_marked m_masks m_text m_before m_ahead m_aside m_sure m_wrongs m_says m_evening m_images) H → va_D A (wd_m a_m a_m_refused a_m_codes a_m_noted a_m_marked a_m_masks a_m_text a_m_before a_m_ahead a_m_aside a_m_sure a_m_wrongs a_m_says a_m_evening a_m_images cI cB cT m_words m_kindNow m_secretNow m_guessed m_left m_wrong m_noteMany m_markMany m_typed m_readAt m_readNumber m_undoMany m_lastGuesses m_above m_below m_refused m_codes m_noted m_marked m_masks m_text m_before m_ahead m_aside m_sure m_wrongs m_says m_evening m_images) → va_S A s.heap H locs → lv_has ls 5 [(0, .ref a_m), (2, .int (v'.1)), (3, .int (v'.2))] → W p l e rm_X11_surely s m args below meth c H locs 0 0 Q (F0 m 57 ls [])) (hx0 : ∀ (o' : Int32) (H : Heap) (locs : List Loc) (ls : Array Slot), z = Sum.inr o' → va_P D vwCl (wd_m a_m a_m_refused a_m_codes a_m_noted a_m_marked a_m_masks a_m_text a_m_before a_m_ahead a_m_aside a_m_sure a_m_wrongs a_m_says a_m_evening a_m_images cI cB cT m_words m_kindNow m_secretNow m_guessed m_left m_wrong m_noteMany m_markMany m_typed m_readAt m_readNumber m_undoMany m_lastGuesses m_above m_below m_refused m_codes m_noted m_marked m_masks m_text m_before m_ahead m_aside m_sure m_wrongs m_says m_evening m_images) H → va_D A (wd_m a_m a_m_refused a_m_codes a_m_noted a_m_marked a_m_masks a_m_text a_m_before a_m_ahead a_m_aside a_m_sure a_m_wrongs a_m_says a_m_evening a_m_images cI cB cT m_words m_kindNow m_secretNow m_guessed m_left m_wrong m_noteMany m_markMany m_typed m_readAt m_readNumber m_undoMany m_lastGuesses m_above m_below m_refused m_codes m_noted m_marked m_masks m_text m_before m_ahead m_aside m_sure m_wrongs m_says m_evening m_images) → va_S A s.heap H locs → lv_has ls 5 [(2, .int (o'))] → W p l e rm_X11_surely s m args below meth c H locs 0 0 Q (F0 m 120 ls [])) {ls : Array Slot} (hP : va_P D vwCl (wd_m a_m a_m_refused a_m_codes a_m_noted a_m_marked a_m_masks a_m_text a_m_before a_m_ahead a_m_aside a_m_sure a_m_wrongs a_m_says a_m_evening a_m_images cI cB cT m_words m_kindNow m_secretNow m_guessed m_left m_wrong m_noteMany m_markMany m_typed m_readAt m_readNumber m_undoMany m_lastGuesses m_above m_below m_refused m_codes m_noted m_marked m_masks m_text m_before m_ahead m_aside m_sure m_wrongs m_says m_evening m_images) H) (hD : va_D A (wd_m a_m a_m_refused a_m_codes a_m_noted a_m_marked a_m_masks a_m_text a_m_before a_m_ahead a_m_aside a_m_sure a_m_wrongs a_m_says a_m_evening a_m_images cI cB cT m_words m_kindNow m_secretNow m_guessed m_left m_wrong m_noteMany m_markMany m_typed m_readAt m_readNumber m_undoMany m_lastGuesses m_above m_below m_refused m_codes m_noted m_marked m_masks m_text m_before m_ahead m_aside m_sure m_wrongs m_says m_evening m_images)) (hS : va_S A s.heap H locs) (hl : lv_has ls 5 [(0, .ref a_m), (2, .int x2), (3, .int x3)]) (hf : B_X11_surely_57 m_words m_left m_masks m_sure x2 x3 = some z) : W p l e rm_X11_surely s m args below meth c H locs 0 0 Q (F0 m 57 ls []) := by
  obtain ⟨hx, hb, hml, hown, hts⟩ := id CF
  unfold B_X11_surely_57 at hf
  refine lv_iload_n hx hb dX11_surely_57 rfl (lv_at hl 2 rfl) ?_
  refine lv_if_lt (tgt := 120) hx hb dX11_surely_58 (by decide) (fun c10 => ?_) (fun c10 => ?_)
  · have hf := tk c10 hf
    exact hx0 _ _ _ _ (Option.some.inj hf).symm hP hD hS (lv_sub hl [1] rfl)
  · have hf := fk c10 hf
    refine lv_aload_n hx hb dX11_surely_61 rfl (lv_at hl 0 rfl) ?_
    refine lv_aload_n hx hb dX11_surely_62 rfl (lv_at hl 0 rfl) ?_
    refine va_get (D := D) (ci := 9) (v := .int m_left) (C := RX11) (T := TX11) (N := 29) hx hb hts fin_X11 hown hG.1 hP 0 ce_m_0 vq_9 5 (by decide) (hts _ wm_927) (fun _ h9 => h9) rfl dX11_surely_63 ?_
    refine lv_iload_n hx hb dX11_surely_66 rfl (lv_at hl 2 rfl) ?_
    refine lv_iconst (v := (0 : Int32)) hx hb dX11_surely_67 (by decide) ?_
    obtain ⟨o11, e12, hf⟩ := lp_bind hf
    refine ro_Vi (x := o11) (As := [.int m_left, .int x3, .int (0 : Int32)]) (rest := []) CF (c_X11_partsBy l D cI cB cT a_m a_m_refused a_m_codes a_m_noted a_m_marked a_m_masks a_m_text a_m_before a_m_ahead a_m_aside a_m_sure a_m_wrongs a_m_says a_m_evening a_m_images m_words m_kindNow m_secretNow m_guessed m_left m_wrong m_noteMany m_markMany m_typed m_readAt m_readNumber m_undoMany m_lastGuesses m_above m_below m_refused m_codes m_noted m_marked m_masks m_text m_before m_ahead m_aside m_sure m_wrongs m_says m_evening m_images m_left x3 (0 : Int32) e12) ok_X11_partsBy wm_1234 ⟨rfl, rfl, Nat.le_of_ble_eq_true rfl, Nat.le_of_ble_eq_true rfl⟩ hG hP 0 9 vq_9 rfl ce_m_0 rfl hl.1 rfl (Nat.le_of_ble_eq_true rfl) ⟨Nat.zero_le _, Nat.zero_le _⟩ dX11_surely_68 ?_
    refine lv_iconst (v := (1 : Int32)) hx hb dX11_surely_71 (by decide) ?_
    refine lv_icmp_le (tgt := 79) hx hb dX11_surely_72 (by decide) (fun c13 => ?_) (fun c13 => ?_)
    · have hf := tk c13 hf
      refine lv_iconst (v := (0 : Int32)) hx hb dX11_surely_79 (by decide) ?_
      exact J_X11_surely_80_W CF hG hA hk hx0 hP hD hS (lv_sub hl [0, 1, 2] rfl) hf
    · have hf := fk c13 hf
      refine lv_iconst (v := (1 : Int32)) hx hb dX11_surely_75 (by decide) ?_
      refine lv_goto (tgt := 80) hx hb dX11_surely_76 (by decide) ?_
      exact J_X11_surely_80_W CF hG hA hk hx0 hP hD hS (lv_sub hl [0, 1, 2] rfl) hf
set_option maxHeartbeats 4000000 in
set_option maxRecDepth 100000 in
theorem L_X11_surely_57_W {m_words : Int32} {m_kindNow : Int32} {m_secretNow : Int32} {m_guessed : Int32} {m_left : Int32} {m_wrong : Int32} {m_noteMany : Int32} {m_markMany : Int32} {m_typed : Int32} {m_readAt : Int32} {m_readNumber : Int32} {m_undoMany : Int32} {m_lastGuesses : Int32} {m_above : Int64} {m_below : Int64} {m_refused : (Nat → Int32)} {m_codes : (Nat → Int32)} {m_noted : (Nat → Int32)} {m_marked : (Nat → Int32)} {m_masks : (Nat → Int32)} {m_text : (Nat → Int32)} {m_before : (Nat → Int32)} {m_ahead : (Nat → Int32)} {m_aside : (Nat → Int32)} {m_sure : (Nat → Int32)} {m_wrongs : (Nat → Int32)} {m_says : (Nat → Int32)} {m_evening : (Nat → Int32)} {m_images : (Nat → Int32)} (CF : CallFix p m c cX11_surely 5 s args wsAll RX11) (hG : Gd D cI cB cT s) (hA : ∀ q : Nat, s.heap.size ≤ q → A q) {o : Int32} (hx0 : ∀ (H : Heap) (locs : List Loc) (ls : Array Slot), va_P D vwCl (wd_m a_m a_m_refused a_m_codes a_m_noted a_m_marked a_m_masks a_m_text a_m_before a_m_ahead a_m_aside a_m_sure a_m_wrongs a_m_says a_m_evening a_m_images cI cB cT m_words m_kindNow m_secretNow m_guessed m_left m_wrong m_noteMany m_markMany m_typed m_readAt m_readNumber m_undoMany m_lastGuesses m_above m_below m_refused m_codes m_noted m_marked m_masks m_text m_before m_ahead m_aside m_sure m_wrongs m_says m_evening m_images) H → va_D A (wd_m a_m a_m_refused a_m_codes a_m_noted a_m_marked a_m_masks a_m_text a_m_before a_m_ahead a_m_aside a_m_sure a_m_wrongs a_m_says a_m_evening a_m_images cI cB cT m_words m_kindNow m_secretNow m_guessed m_left m_wrong m_noteMany m_markMany m_typed m_readAt m_readNumber m_undoMany m_lastGuesses m_above m_below m_refused m_codes m_noted m_marked m_masks m_text m_before m_ahead m_aside m_sure m_wrongs m_says m_evening m_images) → va_S A s.heap H locs → lv_has ls 5 [(2, .int o)] → W p l e rm_X11_surely s m args below meth c H locs 0 0 Q (F0 m 120 ls [])) : ∀ (n : Nat) (x2 : Int32) (x3 : Int32) (H : Heap) (locs : List Loc) (ls : Array Slot), va_P D vwCl (wd_m a_m a_m_refused a_m_codes a_m_noted a_m_marked a_m_masks a_m_text a_m_before a_m_ahead a_m_aside a_m_sure a_m_wrongs a_m_says a_m_evening a_m_images cI cB cT m_words m_kindNow m_secretNow m_guessed m_left m_wrong m_noteMany m_markMany m_typed m_readAt m_readNumber m_undoMany m_lastGuesses m_above m_below m_refused m_codes m_noted m_marked m_masks m_text m_before m_ahead m_aside m_sure m_wrongs m_says m_evening m_images) H → va_D A (wd_m a_m a_m_refused a_m_codes a_m_noted a_m_marked a_m_masks a_m_text a_m_before a_m_ahead a_m_aside a_m_sure a_m_wrongs a_m_says a_m_evening a_m_images cI cB cT m_words m_kindNow m_secretNow m_guessed m_left m_wrong m_noteMany m_markMany m_typed m_readAt m_readNumber m_undoMany m_lastGuesses m_above m_below m_refused m_codes m_noted m_marked m_masks m_text m_before m_ahead m_aside m_sure m_wrongs m_says m_evening m_images) → va_S A s.heap H locs → lv_has ls 5 [(0, .ref a_m), (2, .int x2), (3, .int x3)] → lp (fun v => B_X11_surely_57 m_words m_left m_masks m_sure v.1 v.2) n (x2, x3) = some o → W p l e rm_X11_surely s m args below meth c H locs 0 0 Q (F0 m 57 ls []) := by
  intro n
  induction n with
  | zero =>
    intro x2 x3 H locs ls hP hD hS hl hf
    exact (lp_zero hf).elim
  | succ n ih =>
    intro x2 x3 H locs ls hP hD hS hl hf
    obtain ⟨z, hz, hf⟩ := lp_succ hf
    refine B_X11_surely_57_W CF hG hA ?_ ?_ hP hD hS hl hz
    · intro v' H locs ls ez hP hD hS hl
      rcases hf with ⟨v2, ev, hf⟩ | ev
      · cases Sum.inl.inj (ez.symm.trans ev)
        exact ih v'.1 v'.2 H locs ls hP hD hS hl hf
      · exact (lp_lr (ez.symm.trans ev)).elim
    · intro o' H locs ls ez hP hD hS hl
      rcases hf with ⟨v2, ev, hf⟩ | ev
      · exact (lp_lr (ev.symm.trans ez)).elim
      · cases Sum.inr.inj (ez.symm.trans ev)
        exact hx0 H locs ls hP hD hS hl
set_option maxHeartbeats 4000000 in
set_option maxRecDepth 100000 in
theorem c_X11_surely (l : Launch) (D : va_G) (cI cB cT : ClassId) (sz : Nat) (a_m a_m_refused a_m_codes a_m_noted a_m_marked a_m_masks a_m_text a_m_before a_m_ahead a_m_aside a_m_sure a_m_wrongs a_m_says a_m_evening a_m_images : Nat) (m_words : Int32) (m_kindNow : Int32) (m_secretNow : Int32) (m_guessed : Int32) (m_left : Int32) (m_wrong : Int32) (m_noteMany : Int32) (m_markMany : Int32) (m_typed : Int32) (m_readAt : Int32) (m_readNumber : Int32) (m_undoMany : Int32) (m_lastGuesses : Int32) (m_above : Int64) (m_below : Int64) (m_refused : (Nat → Int32)) (m_codes : (Nat → Int32)) (m_noted : (Nat → Int32)) (m_marked : (Nat → Int32)) (m_masks : (Nat → Int32)) (m_text : (Nat → Int32)) (m_before : (Nat → Int32)) (m_ahead : (Nat → Int32)) (m_aside : (Nat → Int32)) (m_sure : (Nat → Int32)) (m_wrongs : (Nat → Int32)) (m_says : (Nat → Int32)) (m_evening : (Nat → Int32)) (m_images : (Nat → Int32)) (p1 : Int32) {z : Int32 × (Nat → Int32) × (Nat → Int32)} (hf : f_X11_surely m_words m_left m_refused m_masks m_sure p1 = some z) :
    Met l yX11_surely (Cond.code yX11_surely cX11_surely 5 (some .int) :: wsAll) rm_X11_surely (Pwr [.ref a_m, .int p1] D cI cB cT (wd_m a_m a_m_refused a_m_codes a_m_noted a_m_marked a_m_masks a_m_text a_m_before a_m_ahead a_m_aside a_m_sure a_m_wrongs a_m_says a_m_evening a_m_images cI cB cT m_words m_kindNow m_secretNow m_guessed m_left m_wrong m_noteMany m_markMany m_typed m_readAt m_readNumber m_undoMany m_lastGuesses m_above m_below m_refused m_codes m_noted m_marked m_masks m_text m_before m_ahead m_aside m_sure m_wrongs m_says m_evening m_images) sz) (Qw (some (.int z.1)) D (wd_m a_m a_m_refused a_m_codes a_m_noted a_m_marked a_m_masks a_m_text a_m_before a_m_ahead a_m_aside a_m_sure a_m_wrongs a_m_says a_m_evening a_m_images cI cB cT m_words m_kindNow m_secretNow m_guessed m_left m_wrong m_noteMany m_markMany m_typed m_readAt m_readNumber m_undoMany m_lastGuesses m_above m_below z.2.1 m_codes m_noted m_marked m_masks m_text m_before m_ahead m_aside z.2.2 m_wrongs m_says m_evening m_images) (va_A (wd_m a_m a_m_refused a_m_codes a_m_noted a_m_marked a_m_masks a_m_text a_m_before a_m_ahead a_m_aside a_m_sure a_m_wrongs a_m_says a_m_evening a_m_images cI cB cT m_words m_kindNow m_secretNow m_guessed m_left m_wrong m_noteMany m_markMany m_typed m_readAt m_readNumber m_undoMany m_lastGuesses m_above m_below m_refused m_codes m_noted m_marked m_masks m_text m_before m_ahead m_aside m_sure m_wrongs m_says m_evening m_images) sz)) 0 0 (va_A (wd_m a_m a_m_refused a_m_codes a_m_noted a_m_marked a_m_masks a_m_text a_m_before a_m_ahead a_m_aside a_m_sure a_m_wrongs a_m_says a_m_evening a_m_images cI cB cT m_words m_kindNow m_secretNow m_guessed m_left m_wrong m_noteMany m_markMany m_typed m_readAt m_readNumber m_undoMany m_lastGuesses m_above m_below m_refused m_codes m_noted m_marked m_masks m_text m_before m_ahead m_aside m_sure m_wrongs m_says m_evening m_images) sz) := by
  refine wr_intro RX11 (by decide +kernel) rfl (Nat.le_of_ble_eq_true rfl) ?_
  intro p e s m below meth c ls A H locs CF hr hlk hG hP hD hS hA hl
  have hl : lv_has ls 5 [(0, .ref a_m), (1, .int p1)] := hl
  obtain ⟨hx, hb, hml, hown, hts⟩ := id CF
  unfold f_X11_surely at hf
  refine lv_iload_n hx hb dX11_surely_0 rfl (lv_at hl 1 rfl) ?_
  refine lv_iconst (v := (0 : Int32)) hx hb dX11_surely_1 (by decide) ?_
  refine lv_iconst (v := (1 : Int32)) hx hb dX11_surely_2 (by decide) ?_
  obtain ⟨o1, e2, hf⟩ := lp_bind hf
  refine ro_Si (x := o1) (As := [.int p1, .int (0 : Int32), .int (1 : Int32)]) (rest := []) CF (c_X11_in l D cI cB cT p1 (0 : Int32) (1 : Int32) e2) ok_X11_in wm_1017 ⟨rfl, rfl, Nat.le_of_ble_eq_true rfl, Nat.le_of_ble_eq_true rfl⟩ hG wd_E_P rfl hl.1 rfl (Nat.le_of_ble_eq_true rfl) ⟨Nat.zero_le _, Nat.zero_le _⟩ dX11_surely_3 ?_
  refine lv_if_ne (tgt := 14) hx hb dX11_surely_6 (by decide) (fun c3 => ?_) (fun c3 => ?_)
  · have hf := fk c3 hf
    refine lv_aload_n hx hb dX11_surely_14 rfl (lv_at hl 0 rfl) ?_
    refine va_get (D := D) (ci := 9) (v := .int m_left) (C := RX11) (T := TX11) (N := 29) hx hb hts fin_X11 hown hG.1 hP 0 ce_m_0 vq_9 5 (by decide) (hts _ wm_927) (fun _ h9 => h9) rfl dX11_surely_15 ?_
    obtain ⟨o4, e5, hf⟩ := lp_bind hf
    refine ro_Si (x := o4) (As := [.int m_left]) (rest := []) CF (c_X11_isOneAtMost l D cI cB cT m_left e5) ok_X11_isOneAtMost wm_1247 ⟨rfl, rfl, Nat.le_of_ble_eq_true rfl, Nat.le_of_ble_eq_true rfl⟩ hG wd_E_P rfl hl.1 rfl (Nat.le_of_ble_eq_true rfl) ⟨Nat.zero_le _, Nat.zero_le _⟩ dX11_surely_18 ?_
    refine lv_if_eq (tgt := 34) hx hb dX11_surely_21 (by decide) (fun c6 => ?_) (fun c6 => ?_)
    · have hf := tk c6 hf
      refine lv_aload_n hx hb dX11_surely_34 rfl (lv_at hl 0 rfl) ?_
      obtain ⟨o7, e8, hf⟩ := lp_bind hf
      refine wr_Wv (ws' := (wd_m a_m a_m_refused a_m_codes a_m_noted a_m_marked a_m_masks a_m_text a_m_before a_m_ahead a_m_aside a_m_sure a_m_wrongs a_m_says a_m_evening a_m_images cI cB cT m_words m_kindNow m_secretNow m_guessed m_left m_wrong m_noteMany m_markMany m_typed m_readAt m_readNumber m_undoMany m_lastGuesses m_above m_below m_refused m_codes m_noted m_marked m_masks m_text m_before m_ahead m_aside o7 m_wrongs m_says m_evening m_images)) (As := []) (rest := []) CF (c_X11_setSure l D cI cB cT H.size a_m a_m_refused a_m_codes a_m_noted a_m_marked a_m_masks a_m_text a_m_before a_m_ahead a_m_aside a_m_sure a_m_wrongs a_m_says a_m_evening a_m_images m_words m_kindNow m_secretNow m_guessed m_left m_wrong m_noteMany m_markMany m_typed m_readAt m_readNumber m_undoMany m_lastGuesses m_above m_below m_refused m_codes m_noted m_marked m_masks m_text m_before m_ahead m_aside m_sure m_wrongs m_says m_evening m_images e8) ok_X11_setSure wm_1250 ⟨rfl, rfl, Nat.le_of_ble_eq_true rfl, Nat.le_of_ble_eq_true rfl⟩ hG hP hD hS hA fs_m 0 9 vq_9 rfl ce_m_0 rfl hl.1 rfl (Nat.le_of_ble_eq_true rfl) ⟨Nat.zero_le _, Nat.zero_le _⟩ dX11_surely_35 (fun H locs hP hD hS => ?_)
      refine lv_iload_n hx hb dX11_surely_38 rfl (lv_at hl 1 rfl) ?_
      refine lv_if_ne (tgt := 52) hx hb dX11_surely_39 (by decide) (fun c9 => ?_) (fun c9 => ?_)
      · have hf := fk c9 hf
        refine lv_iconst (v := (-1 : Int32)) hx hb dX11_surely_52 (by decide) ?_
        refine lv_istore_n (lv' := [(2, .int (-1 : Int32)), (0, .ref a_m), (1, .int p1)]) hx hb dX11_surely_53 rfl hl (by decide) rfl (fun ls hl => ?_)
        refine lv_bipush (v := (9 : Int32)) hx hb dX11_surely_54 (by decide) ?_
        refine lv_istore_n (lv' := [(3, .int (9 : Int32)), (2, .int (-1 : Int32)), (0, .ref a_m), (1, .int p1)]) hx hb dX11_surely_56 rfl hl (by decide) rfl (fun ls hl => ?_)
        obtain ⟨o19, e20, hf⟩ := lp_bind hf
        refine L_X11_surely_57_W CF hG hA ?_ KN _ _ _ _ _ hP hD hS (lv_sub hl [2, 1, 0] rfl) e20
        intro H locs ls hP hD hS hl
        refine lv_iload_n hx hb dX11_surely_120 rfl (lv_at hl 0 rfl) ?_
        obtain rfl := Option.some.inj hf
        exact wr_iret CF hr hlk hP hS dX11_surely_121
      · have hf := tk c9 hf
        refine lv_aload_n hx hb dX11_surely_42 rfl (lv_at hl 0 rfl) ?_
        refine va_get (D := D) (ci := 9) (v := .ref a_m_sure) (C := RX11) (T := TX11) (N := 29) hx hb hts fin_X11 hown hG.1 hP 0 ce_m_0 vq_9 21 (by decide) (hts _ wm_943) (fun _ h9 => h9) rfl dX11_surely_43 ?_
        refine lv_aload_n hx hb dX11_surely_46 rfl (lv_at hl 0 rfl) ?_
        refine va_get (D := D) (ci := 9) (v := .int m_left) (C := RX11) (T := TX11) (N := 29) hx hb hts fin_X11 hown hG.1 hP 0 ce_m_0 vq_9 5 (by decide) (hts _ wm_927) (fun _ h9 => h9) rfl dX11_surely_47 ?_
        obtain ⟨n21, hf⟩ := nk hf
        refine va_iald (f := o7) hx hb hG.1 hP 10 0 ce_m_10 rfl n21 dX11_surely_50 ?_
        obtain rfl := Option.some.inj hf
        exact wr_iret CF hr hlk hP hS dX11_surely_51
    · have hf := fk c6 hf
      refine lv_iload_n hx hb dX11_surely_24 rfl (lv_at hl 1 rfl) ?_
      refine lv_if_ne (tgt := 32) hx hb dX11_surely_25 (by decide) (fun c22 => ?_) (fun c22 => ?_)
      · have hf := fk c22 hf
        refine lv_iconst (v := (-1 : Int32)) hx hb dX11_surely_32 (by decide) ?_
        obtain rfl := Option.some.inj hf
        exact wr_iret CF hr hlk hP hS dX11_surely_33
      · have hf := tk c22 hf
        refine lv_iconst (v := (0 : Int32)) hx hb dX11_surely_28 (by decide) ?_
        refine lv_goto (tgt := 33) hx hb dX11_surely_29 (by decide) ?_
        obtain rfl := Option.some.inj hf
        exact wr_iret CF hr hlk hP hS dX11_surely_33
  · have hf := tk c3 hf
    refine lv_aload_n hx hb dX11_surely_9 rfl (lv_at hl 0 rfl) ?_
    obtain ⟨o23, e24, hf⟩ := lp_bind hf
    refine wr_Wi (x := o23.1) (ws' := (wd_m a_m a_m_refused a_m_codes a_m_noted a_m_marked a_m_masks a_m_text a_m_before a_m_ahead a_m_aside a_m_sure a_m_wrongs a_m_says a_m_evening a_m_images cI cB cT m_words m_kindNow m_secretNow m_guessed m_left m_wrong m_noteMany m_markMany m_typed m_readAt m_readNumber m_undoMany m_lastGuesses m_above m_below o23.2 m_codes m_noted m_marked m_masks m_text m_before m_ahead m_aside m_sure m_wrongs m_says m_evening m_images)) (As := []) (rest := []) CF (c_X11_bad l D cI cB cT H.size a_m a_m_refused a_m_codes a_m_noted a_m_marked a_m_masks a_m_text a_m_before a_m_ahead a_m_aside a_m_sure a_m_wrongs a_m_says a_m_evening a_m_images m_words m_kindNow m_secretNow m_guessed m_left m_wrong m_noteMany m_markMany m_typed m_readAt m_readNumber m_undoMany m_lastGuesses m_above m_below m_refused m_codes m_noted m_marked m_masks m_text m_before m_ahead m_aside m_sure m_wrongs m_says m_evening m_images e24) ok_X11_bad wm_1020 ⟨rfl, rfl, Nat.le_of_ble_eq_true rfl, Nat.le_of_ble_eq_true rfl⟩ hG hP hD hS hA fs_m 0 9 vq_9 rfl ce_m_0 rfl hl.1 rfl (Nat.le_of_ble_eq_true rfl) ⟨Nat.zero_le _, Nat.zero_le _⟩ dX11_surely_10 (fun H locs hP hD hS => ?_)
    obtain rfl := Option.some.inj hf
    exact wr_iret CF hr hlk hP hS dX11_surely_13
end M_X11_surely
section M_X11_letterNotOf
variable {p : Program} {l : Launch} {e : Env} {s : State} {m : MethodId} {args : Array Value} {below : List Frame} {meth : Method} {c : Code} {Q : State → Prop} {A : Nat → Prop} {D : va_G} {cI cB cT : ClassId}
def rm_X11_letterNotOf : Room := { frames := 1, cells := 0, slots := 0, locals := 21 }
def B_X11_letterNotOf_4 (x0 : Int32) (x1 : Int32) (x2 : Int32) (x3 : Int32) : Option ((Int32 × Int32) ⊕ (Int32)) := (if (10 : Int32) ≤ x3 then some (Sum.inr x2) else ((f_X11_has x0 x3).bind fun o2 => (if o2 = 0 then (if x1 = 0 then (if x2 = (-1 : Int32) then some (Sum.inl (x3, (x3 + (1 : Int32)))) else some (Sum.inl (x2, (x3 + (1 : Int32))))) else some (Sum.inl (x3, (x3 + (1 : Int32))))) else some (Sum.inl (x2, (x3 + (1 : Int32)))))))
def f_X11_letterNotOf (p1 : Int32) (p2 : Int32) : Option (Int32) := ((lp (fun v => B_X11_letterNotOf_4 p1 p2 v.1 v.2) KN ((-1 : Int32), (0 : Int32))).bind fun o7 => some o7)
set_option maxHeartbeats 4000000 in
set_option maxRecDepth 100000 in
theorem B_X11_letterNotOf_4_W {x0 : Int32} {x1 : Int32} {x2 : Int32} {x3 : Int32} (CF : CallFix p m c cX11_letterNotOf 4 s args wsAll RX11) (hG : Gd D cI cB cT s) {z : (Int32 × Int32) ⊕ (Int32)} (hk : ∀ (v' : Int32 × Int32) (ls : Array Slot), z = Sum.inl v' → lv_has ls 4 [(0, .int x0), (1, .int x1), (2, .int (v'.1)), (3, .int (v'.2))] → W p l e rm_X11_letterNotOf s m args below meth c s.heap [] 0 0 Q (F0 m 4 ls [])) (hx0 : ∀ (o' : Int32) (ls : Array Slot), z = Sum.inr o' → lv_has ls 4 [(2, .int (o'))] → W p l e rm_X11_letterNotOf s m args below meth c s.heap [] 0 0 Q (F0 m 39 ls [])) {ls : Array Slot} (hP : va_P D vwCl wd_E s.heap) (hl : lv_has ls 4 [(0, .int x0), (1, .int x1), (2, .int x2), (3, .int x3)]) (hf : B_X11_letterNotOf_4 x0 x1 x2 x3 = some z) : W p l e rm_X11_letterNotOf s m args below meth c s.heap [] 0 0 Q (F0 m 4 ls []) := by
  obtain ⟨hx, hb, hml, hown, hts⟩ := id CF
  unfold B_X11_letterNotOf_4 at hf
  refine lv_iload_n hx hb dX11_letterNotOf_4 rfl (lv_at hl 3 rfl) ?_
  refine lv_bipush (v := (10 : Int32)) hx hb dX11_letterNotOf_5 (by decide) ?_
  refine lv_icmp_ge (tgt := 39) hx hb dX11_letterNotOf_7 (by decide) (fun c1 => ?_) (fun c1 => ?_)
  · have hf := tk c1 hf
    exact hx0 _ _ (Option.some.inj hf).symm (lv_sub hl [2] rfl)
  · have hf := fk c1 hf
    refine lv_iload_n hx hb dX11_letterNotOf_10 rfl (lv_at hl 0 rfl) ?_
    refine lv_iload_n hx hb dX11_letterNotOf_11 rfl (lv_at hl 3 rfl) ?_
    obtain ⟨o2, e3, hf⟩ := lp_bind hf
    refine ro_Si (x := o2) (As := [.int x0, .int x3]) (rest := []) CF (c_X11_has l D cI cB cT x0 x3 e3) ok_X11_has wm_1133 ⟨rfl, rfl, Nat.le_of_ble_eq_true rfl, Nat.le_of_ble_eq_true rfl⟩ hG wd_E_P rfl hl.1 rfl (Nat.le_of_ble_eq_true rfl) ⟨Nat.zero_le _, Nat.zero_le _⟩ dX11_letterNotOf_12 ?_
    refine lv_if_ne (tgt := 31) hx hb dX11_letterNotOf_15 (by decide) (fun c4 => ?_) (fun c4 => ?_)
    · have hf := fk c4 hf
      refine lv_iload_n hx hb dX11_letterNotOf_31 rfl (lv_at hl 2 rfl) ?_
      refine lv_istore_n (lv' := [(2, .int x2), (0, .int x0), (1, .int x1), (3, .int x3)]) hx hb dX11_letterNotOf_32 rfl hl (by decide) rfl (fun ls hl => ?_)
      refine lv_iinc (v := (x3 + (1 : Int32))) (lv' := [(3, .int (x3 + (1 : Int32))), (2, .int x2), (0, .int x0), (1, .int x1)]) hx hb dX11_letterNotOf_33 hl (k := 3) rfl (iinc_eq (by decide)) (by decide) rfl (fun ls hl => ?_)
      refine lv_goto (tgt := 4) hx hb dX11_letterNotOf_36 (by decide) ?_
      exact hk _ _ (Option.some.inj hf).symm (lv_sub hl [2, 3, 1, 0] rfl)
    · have hf := tk c4 hf
      refine lv_iload_n hx hb dX11_letterNotOf_18 rfl (lv_at hl 1 rfl) ?_
      refine lv_if_ne (tgt := 27) hx hb dX11_letterNotOf_19 (by decide) (fun c5 => ?_) (fun c5 => ?_)
      · have hf := fk c5 hf
        refine lv_iload_n hx hb dX11_letterNotOf_27 rfl (lv_at hl 3 rfl) ?_
        refine lv_goto (tgt := 32) hx hb dX11_letterNotOf_28 (by decide) ?_
        refine lv_istore_n (lv' := [(2, .int x3), (0, .int x0), (1, .int x1), (3, .int x3)]) hx hb dX11_letterNotOf_32 rfl hl (by decide) rfl (fun ls hl => ?_)
        refine lv_iinc (v := (x3 + (1 : Int32))) (lv' := [(3, .int (x3 + (1 : Int32))), (2, .int x3), (0, .int x0), (1, .int x1)]) hx hb dX11_letterNotOf_33 hl (k := 3) rfl (iinc_eq (by decide)) (by decide) rfl (fun ls hl => ?_)
        refine lv_goto (tgt := 4) hx hb dX11_letterNotOf_36 (by decide) ?_
        exact hk _ _ (Option.some.inj hf).symm (lv_sub hl [2, 3, 1, 0] rfl)
      · have hf := tk c5 hf
        refine lv_iload_n hx hb dX11_letterNotOf_22 rfl (lv_at hl 2 rfl) ?_
        refine lv_iconst (v := (-1 : Int32)) hx hb dX11_letterNotOf_23 (by decide) ?_
        refine lv_icmp_ne (tgt := 31) hx hb dX11_letterNotOf_24 (by decide) (fun c6 => ?_) (fun c6 => ?_)
        · have hf := fk c6 hf
          refine lv_iload_n hx hb dX11_letterNotOf_31 rfl (lv_at hl 2 rfl) ?_
          refine lv_istore_n (lv' := [(2, .int x2), (0, .int x0), (1, .int x1), (3, .int x3)]) hx hb dX11_letterNotOf_32 rfl hl (by decide) rfl (fun ls hl => ?_)
          refine lv_iinc (v := (x3 + (1 : Int32))) (lv' := [(3, .int (x3 + (1 : Int32))), (2, .int x2), (0, .int x0), (1, .int x1)]) hx hb dX11_letterNotOf_33 hl (k := 3) rfl (iinc_eq (by decide)) (by decide) rfl (fun ls hl => ?_)
          refine lv_goto (tgt := 4) hx hb dX11_letterNotOf_36 (by decide) ?_
          exact hk _ _ (Option.some.inj hf).symm (lv_sub hl [2, 3, 1, 0] rfl)
        · have hf := tk c6 hf
          refine lv_iload_n hx hb dX11_letterNotOf_27 rfl (lv_at hl 3 rfl) ?_
          refine lv_goto (tgt := 32) hx hb dX11_letterNotOf_28 (by decide) ?_
          refine lv_istore_n (lv' := [(2, .int x3), (0, .int x0), (1, .int x1), (3, .int x3)]) hx hb dX11_letterNotOf_32 rfl hl (by decide) rfl (fun ls hl => ?_)
          refine lv_iinc (v := (x3 + (1 : Int32))) (lv' := [(3, .int (x3 + (1 : Int32))), (2, .int x3), (0, .int x0), (1, .int x1)]) hx hb dX11_letterNotOf_33 hl (k := 3) rfl (iinc_eq (by decide)) (by decide) rfl (fun ls hl => ?_)
          refine lv_goto (tgt := 4) hx hb dX11_letterNotOf_36 (by decide) ?_
          exact hk _ _ (Option.some.inj hf).symm (lv_sub hl [2, 3, 1, 0] rfl)
set_option maxHeartbeats 4000000 in
set_option maxRecDepth 100000 in
theorem L_X11_letterNotOf_4_W {x0 : Int32} {x1 : Int32} (CF : CallFix p m c cX11_letterNotOf 4 s args wsAll RX11) (hG : Gd D cI cB cT s) {o : Int32} (hx0 : ∀ (ls : Array Slot), lv_has ls 4 [(2, .int o)] → W p l e rm_X11_letterNotOf s m args below meth c s.heap [] 0 0 Q (F0 m 39 ls [])) : ∀ (n : Nat) (x2 : Int32) (x3 : Int32) (ls : Array Slot), va_P D vwCl wd_E s.heap → lv_has ls 4 [(0, .int x0), (1, .int x1), (2, .int x2), (3, .int x3)] → lp (fun v => B_X11_letterNotOf_4 x0 x1 v.1 v.2) n (x2, x3) = some o → W p l e rm_X11_letterNotOf s m args below meth c s.heap [] 0 0 Q (F0 m 4 ls []) := by
  intro n
  induction n with
  | zero =>
    intro x2 x3 ls hP hl hf
    exact (lp_zero hf).elim
  | succ n ih =>
    intro x2 x3 ls hP hl hf
    obtain ⟨z, hz, hf⟩ := lp_succ hf
    refine B_X11_letterNotOf_4_W CF hG ?_ ?_ hP hl hz
    · intro v' ls ez hl
      rcases hf with ⟨v2, ev, hf⟩ | ev
      · cases Sum.inl.inj (ez.symm.trans ev)
        exact ih v'.1 v'.2 ls hP hl hf
      · exact (lp_lr (ez.symm.trans ev)).elim
    · intro o' ls ez hl
      rcases hf with ⟨v2, ev, hf⟩ | ev
      · exact (lp_lr (ev.symm.trans ez)).elim
      · cases Sum.inr.inj (ez.symm.trans ev)
        exact hx0 ls  hl
set_option maxHeartbeats 4000000 in
set_option maxRecDepth 100000 in
theorem c_X11_letterNotOf (l : Launch) (D : va_G) (cI cB cT : ClassId) (p1 : Int32) (p2 : Int32) {z : Int32} (hf : f_X11_letterNotOf p1 p2 = some z) :
    Met l yX11_letterNotOf (Cond.code yX11_letterNotOf cX11_letterNotOf 4 (some .int) :: wsAll) rm_X11_letterNotOf (Pro [.int p1, .int p2] D cI cB cT wd_E) (Qr (some (.int z))) 0 0 (fun _ => False) := by
  refine ro_intro RX11 (by decide +kernel) rfl (Nat.le_of_ble_eq_true rfl) ?_
  intro p e s m below meth c ls CF hr hlk hG hP hl
  have hl : lv_has ls 4 [(0, .int p1), (1, .int p2)] := hl
  obtain ⟨hx, hb, hml, hown, hts⟩ := id CF
  unfold f_X11_letterNotOf at hf
  refine lv_iconst (v := (-1 : Int32)) hx hb dX11_letterNotOf_0 (by decide) ?_
  refine lv_istore_n (lv' := [(2, .int (-1 : Int32)), (0, .int p1), (1, .int p2)]) hx hb dX11_letterNotOf_1 rfl hl (by decide) rfl (fun ls hl => ?_)
  refine lv_iconst (v := (0 : Int32)) hx hb dX11_letterNotOf_2 (by decide) ?_
  refine lv_istore_n (lv' := [(3, .int (0 : Int32)), (2, .int (-1 : Int32)), (0, .int p1), (1, .int p2)]) hx hb dX11_letterNotOf_3 rfl hl (by decide) rfl (fun ls hl => ?_)
  obtain ⟨o7, e8, hf⟩ := lp_bind hf
  refine L_X11_letterNotOf_4_W CF hG ?_ KN _ _ _ hP (lv_sub hl [2, 3, 1, 0] rfl) e8
  intro ls hl
  refine lv_iload_n hx hb dX11_letterNotOf_39 rfl (lv_at hl 0 rfl) ?_
  obtain rfl := Option.some.inj hf
  exact ro_iret CF hr hlk dX11_letterNotOf_40
end M_X11_letterNotOf
section M_X11_haveLetter
variable {p : Program} {l : Launch} {e : Env} {s : State} {m : MethodId} {args : Array Value} {below : List Frame} {meth : Method} {c : Code} {Q : State → Prop} {A : Nat → Prop} {D : va_G} {cI cB cT : ClassId}
variable {a_m a_m_refused a_m_codes a_m_noted a_m_marked a_m_masks a_m_text a_m_before a_m_ahead a_m_aside a_m_sure a_m_wrongs a_m_says a_m_evening a_m_images : Nat}
def rm_X11_haveLetter : Room := { frames := 2, cells := 0, slots := 0, locals := 47 }
def f_X11_haveLetter (m_words : Int32) (m_masks : (Nat → Int32)) (p1 : Int32) (p2 : Int32) : Option (Int32) := ((f_X11_bits p1).bind fun o1 => ((f_X11_haveMask m_words m_masks p1 p2 (0 : Int32)).bind fun o3 => some (o1 - o3)))
set_option maxHeartbeats 4000000 in
set_option maxRecDepth 100000 in
theorem c_X11_haveLetter (l : Launch) (D : va_G) (cI cB cT : ClassId) (a_m a_m_refused a_m_codes a_m_noted a_m_marked a_m_masks a_m_text a_m_before a_m_ahead a_m_aside a_m_sure a_m_wrongs a_m_says a_m_evening a_m_images : Nat) (m_words : Int32) (m_kindNow : Int32) (m_secretNow : Int32) (m_guessed : Int32) (m_left : Int32) (m_wrong : Int32) (m_noteMany : Int32) (m_markMany : Int32) (m_typed : Int32) (m_readAt : Int32) (m_readNumber : Int32) (m_undoMany : Int32) (m_lastGuesses : Int32) (m_above : Int64) (m_below : Int64) (m_refused : (Nat → Int32)) (m_codes : (Nat → Int32)) (m_noted : (Nat → Int32)) (m_marked : (Nat → Int32)) (m_masks : (Nat → Int32)) (m_text : (Nat → Int32)) (m_before : (Nat → Int32)) (m_ahead : (Nat → Int32)) (m_aside : (Nat → Int32)) (m_sure : (Nat → Int32)) (m_wrongs : (Nat → Int32)) (m_says : (Nat → Int32)) (m_evening : (Nat → Int32)) (m_images : (Nat → Int32)) (p1 : Int32) (p2 : Int32) {z : Int32} (hf : f_X11_haveLetter m_words m_masks p1 p2 = some z) :
    Met l yX11_haveLetter (Cond.code yX11_haveLetter cX11_haveLetter 3 (some .int) :: wsAll) rm_X11_haveLetter (Pro [.ref a_m, .int p1, .int p2] D cI cB cT (wd_m a_m a_m_refused a_m_codes a_m_noted a_m_marked a_m_masks a_m_text a_m_before a_m_ahead a_m_aside a_m_sure a_m_wrongs a_m_says a_m_evening a_m_images cI cB cT m_words m_kindNow m_secretNow m_guessed m_left m_wrong m_noteMany m_markMany m_typed m_readAt m_readNumber m_undoMany m_lastGuesses m_above m_below m_refused m_codes m_noted m_marked m_masks m_text m_before m_ahead m_aside m_sure m_wrongs m_says m_evening m_images)) (Qr (some (.int z))) 0 0 (fun _ => False) := by
  refine ro_intro RX11 (by decide +kernel) rfl (Nat.le_of_ble_eq_true rfl) ?_
  intro p e s m below meth c ls CF hr hlk hG hP hl
  have hl : lv_has ls 3 [(0, .ref a_m), (1, .int p1), (2, .int p2)] := hl
  obtain ⟨hx, hb, hml, hown, hts⟩ := id CF
  unfold f_X11_haveLetter at hf
  refine lv_iload_n hx hb dX11_haveLetter_0 rfl (lv_at hl 1 rfl) ?_
  obtain ⟨o1, e2, hf⟩ := lp_bind hf
  refine ro_Si (x := o1) (As := [.int p1]) (rest := []) CF (c_X11_bits l D cI cB cT p1 e2) ok_X11_bits wm_1144 ⟨rfl, rfl, Nat.le_of_ble_eq_true rfl, Nat.le_of_ble_eq_true rfl⟩ hG wd_E_P rfl hl.1 rfl (Nat.le_of_ble_eq_true rfl) ⟨Nat.zero_le _, Nat.zero_le _⟩ dX11_haveLetter_1 ?_
  refine lv_aload_n hx hb dX11_haveLetter_4 rfl (lv_at hl 0 rfl) ?_
  refine lv_iload_n hx hb dX11_haveLetter_5 rfl (lv_at hl 1 rfl) ?_
  refine lv_iload_n hx hb dX11_haveLetter_6 rfl (lv_at hl 2 rfl) ?_
  refine lv_iconst (v := (0 : Int32)) hx hb dX11_haveLetter_7 (by decide) ?_
  obtain ⟨o3, e4, hf⟩ := lp_bind hf
  refine ro_Vi (x := o3) (As := [.int p1, .int p2, .int (0 : Int32)]) (rest := [.int o1]) CF (c_X11_haveMask l D cI cB cT a_m a_m_refused a_m_codes a_m_noted a_m_marked a_m_masks a_m_text a_m_before a_m_ahead a_m_aside a_m_sure a_m_wrongs a_m_says a_m_evening a_m_images m_words m_kindNow m_secretNow m_guessed m_left m_wrong m_noteMany m_markMany m_typed m_readAt m_readNumber m_undoMany m_lastGuesses m_above m_below m_refused m_codes m_noted m_marked m_masks m_text m_before m_ahead m_aside m_sure m_wrongs m_says m_evening m_images p1 p2 (0 : Int32) e4) ok_X11_haveMask wm_1163 ⟨rfl, rfl, Nat.le_of_ble_eq_true rfl, Nat.le_of_ble_eq_true rfl⟩ hG hP 0 9 vq_9 rfl ce_m_0 rfl hl.1 rfl (Nat.le_of_ble_eq_true rfl) ⟨Nat.zero_le _, Nat.zero_le _⟩ dX11_haveLetter_8 ?_
  refine lv_isub hx hb dX11_haveLetter_11 ?_
  obtain rfl := Option.some.inj hf
  exact ro_iret CF hr hlk dX11_haveLetter_12
end M_X11_haveLetter
section M_X11_often
variable {p : Program} {l : Launch} {e : Env} {s : State} {m : MethodId} {args : Array Value} {below : List Frame} {meth : Method} {c : Code} {Q : State → Prop} {A : Nat → Prop} {D : va_G} {cI cB cT : ClassId}
variable {a_m a_m_refused a_m_codes a_m_noted a_m_marked a_m_masks a_m_text a_m_before a_m_ahead a_m_aside a_m_sure a_m_wrongs a_m_says a_m_evening a_m_images : Nat}
def rm_X11_often : Room := { frames := 3, cells := 0, slots := 0, locals := 69 }
def J_X11_often_35 (x3 : Int32) (x4 : Int32) (x5 : Int32) (y0 : Int32) : Option ((Int32 × Int32 × Int32) ⊕ (Int32)) := (if y0 ≤ x4 then (if y0 ≤ x4 then some (Sum.inl (x3, x4, (x5 + (1 : Int32)))) else some (Sum.inl (x3, y0, (x5 + (1 : Int32))))) else (if y0 ≤ x4 then some (Sum.inl (x5, x4, (x5 + (1 : Int32)))) else some (Sum.inl (x5, y0, (x5 + (1 : Int32))))))
def B_X11_often_8 (m_words : Int32) (m_masks : (Nat → Int32)) (x1 : Int32) (x2 : Int32) (x3 : Int32) (x4 : Int32) (x5 : Int32) : Option ((Int32 × Int32 × Int32) ⊕ (Int32)) := (if (10 : Int32) ≤ x5 then some (Sum.inr x3) else ((f_X11_has x2 x5).bind fun o2 => (if o2 = 0 then ((f_X11_haveLetter m_words m_masks x1 x5).bind fun o5 => J_X11_often_35 x3 x4 x5 o5) else J_X11_often_35 x3 x4 x5 (-1 : Int32))))
def f_X11_often (m_words : Int32) (m_masks : (Nat → Int32)) (p1 : Int32) (p2 : Int32) : Option (Int32) := ((lp (fun v => B_X11_often_8 m_words m_masks p1 p2 v.1 v.2.1 v.2.2) KN ((-1 : Int32), (-1 : Int32), (0 : Int32))).bind fun o10 => some o10)
set_option maxHeartbeats 4000000 in
set_option maxRecDepth 100000 in
theorem J_X11_often_35_W {m_words : Int32} {m_kindNow : Int32} {m_secretNow : Int32} {m_guessed : Int32} {m_left : Int32} {m_wrong : Int32} {m_noteMany : Int32} {m_markMany : Int32} {m_typed : Int32} {m_readAt : Int32} {m_readNumber : Int32} {m_undoMany : Int32} {m_lastGuesses : Int32} {m_above : Int64} {m_below : Int64} {m_refused : (Nat → Int32)} {m_codes : (Nat → Int32)} {m_noted : (Nat → Int32)} {m_marked : (Nat → Int32)} {m_masks : (Nat → Int32)} {m_text : (Nat → Int32)} {m_before : (Nat → Int32)} {m_ahead : (Nat → Int32)} {m_aside : (Nat → Int32)} {m_sure : (Nat → Int32)} {m_wrongs : (Nat → Int32)} {m_says : (Nat → Int32)} {m_evening : (Nat → Int32)} {m_images : (Nat → Int32)} {x1 : Int32} {x2 : Int32} {x3 : Int32} {x4 : Int32} {x5 : Int32} {y0 : Int32} (CF : CallFix p m c cX11_often 7 s args wsAll RX11) (hG : Gd D cI cB cT s) {z : (Int32 × Int32 × Int32) ⊕ (Int32)} (hk : ∀ (v' : Int32 × Int32 × Int32) (ls : Array Slot), z = Sum.inl v' → lv_has ls 7 [(0, .ref a_m), (1, .int x1), (2, .int x2), (3, .int (v'.1)), (4, .int (v'.2.1)), (5, .int (v'.2.2))] → W p l e rm_X11_often s m args below meth c s.heap [] 0 0 Q (F0 m 8 ls [])) (hx0 : ∀ (o' : Int32) (ls : Array Slot), z = Sum.inr o' → lv_has ls 7 [(3, .int (o'))] → W p l e rm_X11_often s m args below meth c s.heap [] 0 0 Q (F0 m 73 ls [])) {ls : Array Slot} (hP : va_P D vwCl (wd_m a_m a_m_refused a_m_codes a_m_noted a_m_marked a_m_masks a_m_text a_m_before a_m_ahead a_m_aside a_m_sure a_m_wrongs a_m_says a_m_evening a_m_images cI cB cT m_words m_kindNow m_secretNow m_guessed m_left m_wrong m_noteMany m_markMany m_typed m_readAt m_readNumber m_undoMany m_lastGuesses m_above m_below m_refused m_codes m_noted m_marked m_masks m_text m_before m_ahead m_aside m_sure m_wrongs m_says m_evening m_images) s.heap) (hl : lv_has ls 7 [(0, .ref a_m), (1, .int x1), (2, .int x2), (3, .int x3), (4, .int x4), (5, .int x5)]) (hf : J_X11_often_35 x3 x4 x5 y0 = some z) : W p l e rm_X11_often s m args below meth c s.heap [] 0 0 Q (F0 m 35 ls [.int y0]) := by
  obtain ⟨hx, hb, hml, hown, hts⟩ := id CF
  unfold J_X11_often_35 at hf
  refine lv_istore (lv' := [(6, .int y0), (0, .ref a_m), (1, .int x1), (2, .int x2), (3, .int x3), (4, .int x4), (5, .int x5)]) hx hb dX11_often_35 hl (by decide) rfl (fun ls hl => ?_)
  refine lv_iload hx hb dX11_often_37 (lv_at hl 0 rfl) ?_
  refine lv_iload hx hb dX11_often_39 (lv_at hl 5 rfl) ?_
  refine lv_icmp_le (tgt := 49) hx hb dX11_often_41 (by decide) (fun c7 => ?_) (fun c7 => ?_)
  · have hf := tk c7 hf
    refine lv_iload_n hx hb dX11_often_49 rfl (lv_at hl 4 rfl) ?_
    refine lv_istore_n (lv' := [(3, .int x3), (6, .int y0), (0, .ref a_m), (1, .int x1), (2, .int x2), (4, .int x4), (5, .int x5)]) hx hb dX11_often_50 rfl hl (by decide) rfl (fun ls hl => ?_)
    refine lv_iload hx hb dX11_often_51 (lv_at hl 1 rfl) ?_
    refine lv_iload hx hb dX11_often_53 (lv_at hl 5 rfl) ?_
    refine lv_icmp_le (tgt := 63) hx hb dX11_often_55 (by decide) (fun c8 => ?_) (fun c8 => ?_)
    · have hf := tk c8 hf
      refine lv_iload hx hb dX11_often_63 (lv_at hl 5 rfl) ?_
      refine lv_istore (lv' := [(4, .int x4), (3, .int x3), (6, .int y0), (0, .ref a_m), (1, .int x1), (2, .int x2), (5, .int x5)]) hx hb dX11_often_65 hl (by decide) rfl (fun ls hl => ?_)
      refine lv_iinc (v := (x5 + (1 : Int32))) (lv' := [(5, .int (x5 + (1 : Int32))), (4, .int x4), (3, .int x3), (6, .int y0), (0, .ref a_m), (1, .int x1), (2, .int x2)]) hx hb dX11_often_67 hl (k := 6) rfl (iinc_eq (by decide)) (by decide) rfl (fun ls hl => ?_)
      refine lv_goto (tgt := 8) hx hb dX11_often_70 (by decide) ?_
      exact hk _ _ (Option.some.inj hf).symm (lv_sub hl [4, 5, 6, 2, 1, 0] rfl)
    · have hf := fk c8 hf
      refine lv_iload hx hb dX11_often_58 (lv_at hl 1 rfl) ?_
      refine lv_goto (tgt := 65) hx hb dX11_often_60 (by decide) ?_
      refine lv_istore (lv' := [(4, .int y0), (3, .int x3), (6, .int y0), (0, .ref a_m), (1, .int x1), (2, .int x2), (5, .int x5)]) hx hb dX11_often_65 hl (by decide) rfl (fun ls hl => ?_)
      refine lv_iinc (v := (x5 + (1 : Int32))) (lv' := [(5, .int (x5 + (1 : Int32))), (4, .int y0), (3, .int x3), (6, .int y0), (0, .ref a_m), (1, .int x1), (2, .int x2)]) hx hb dX11_often_67 hl (k := 6) rfl (iinc_eq (by decide)) (by decide) rfl (fun ls hl => ?_)
      refine lv_goto (tgt := 8) hx hb dX11_often_70 (by decide) ?_
      exact hk _ _ (Option.some.inj hf).symm (lv_sub hl [4, 5, 6, 2, 1, 0] rfl)
  · have hf := fk c7 hf
    refine lv_iload hx hb dX11_often_44 (lv_at hl 6 rfl) ?_
    refine lv_goto (tgt := 50) hx hb dX11_often_46 (by decide) ?_
    refine lv_istore_n (lv' := [(3, .int x5), (6, .int y0), (0, .ref a_m), (1, .int x1), (2, .int x2), (4, .int x4), (5, .int x5)]) hx hb dX11_often_50 rfl hl (by decide) rfl (fun ls hl => ?_)
    refine lv_iload hx hb dX11_often_51 (lv_at hl 1 rfl) ?_
    refine lv_iload hx hb dX11_often_53 (lv_at hl 5 rfl) ?_
    refine lv_icmp_le (tgt := 63) hx hb dX11_often_55 (by decide) (fun c9 => ?_) (fun c9 => ?_)
    · have hf := tk c9 hf
      refine lv_iload hx hb dX11_often_63 (lv_at hl 5 rfl) ?_
      refine lv_istore (lv' := [(4, .int x4), (3, .int x5), (6, .int y0), (0, .ref a_m), (1, .int x1), (2, .int x2), (5, .int x5)]) hx hb dX11_often_65 hl (by decide) rfl (fun ls hl => ?_)
      refine lv_iinc (v := (x5 + (1 : Int32))) (lv' := [(5, .int (x5 + (1 : Int32))), (4, .int x4), (3, .int x5), (6, .int y0), (0, .ref a_m), (1, .int x1), (2, .int x2)]) hx hb dX11_often_67 hl (k := 6) rfl (iinc_eq (by decide)) (by decide) rfl (fun ls hl => ?_)
      refine lv_goto (tgt := 8) hx hb dX11_often_70 (by decide) ?_
      exact hk _ _ (Option.some.inj hf).symm (lv_sub hl [4, 5, 6, 2, 1, 0] rfl)
    · have hf := fk c9 hf
      refine lv_iload hx hb dX11_often_58 (lv_at hl 1 rfl) ?_
      refine lv_goto (tgt := 65) hx hb dX11_often_60 (by decide) ?_
      refine lv_istore (lv' := [(4, .int y0), (3, .int x5), (6, .int y0), (0, .ref a_m), (1, .int x1), (2, .int x2), (5, .int x5)]) hx hb dX11_often_65 hl (by decide) rfl (fun ls hl => ?_)
      refine lv_iinc (v := (x5 + (1 : Int32))) (lv' := [(5, .int (x5 + (1 : Int32))), (4, .int y0), (3, .int x5), (6, .int y0), (0, .ref a_m), (1, .int x1), (2, .int x2)]) hx hb dX11_often_67 hl (k := 6) rfl (iinc_eq (by decide)) (by decide) rfl (fun ls hl => ?_)
      refine lv_goto (tgt := 8) hx hb dX11_often_70 (by decide) ?_
      exact hk _ _ (Option.some.inj hf).symm (lv_sub hl [4, 5, 6, 2, 1, 0] rfl)
set_option maxHeartbeats 4000000 in
set_option maxRecDepth 100000 in
theorem B_X11_often_8_W {m_words : Int32} {m_kindNow : Int32} {m_secretNow : Int32} {m_guessed : Int32} {m_left : Int32} {m_wrong : Int32} {m_noteMany : Int32} {m_markMany : Int32} {m_typed : Int32} {m_readAt : Int32} {m_readNumber : Int32} {m_undoMany : Int32} {m_lastGuesses : Int32} {m_above : Int64} {m_below : Int64} {m_refused : (Nat → Int32)} {m_codes : (Nat → Int32)} {m_noted : (Nat → Int32)} {m_marked : (Nat → Int32)} {m_masks : (Nat → Int32)} {m_text : (Nat → Int32)} {m_before : (Nat → Int32)} {m_ahead : (Nat → Int32)} {m_aside : (Nat → Int32)} {m_sure : (Nat → Int32)} {m_wrongs : (Nat → Int32)} {m_says : (Nat → Int32)} {m_evening : (Nat → Int32)} {m_images : (Nat → Int32)} {x1 : Int32} {x2 : Int32} {x3 : Int32} {x4 : Int32} {x5 : Int32} (CF : CallFix p m c cX11_often 7 s args wsAll RX11) (hG : Gd D cI cB cT s) {z : (Int32 × Int32 × Int32) ⊕ (Int32)} (hk : ∀ (v' : Int32 × Int32 × Int32) (ls : Array Slot), z = Sum.inl v' → lv_has ls 7 [(0, .ref a_m), (1, .int x1), (2, .int x2), (3, .int (v'.1)), (4, .int (v'.2.1)), (5, .int (v'.2.2))] → W p l e rm_X11_often s m args below meth c s.heap [] 0 0 Q (F0 m 8 ls [])) (hx0 : ∀ (o' : Int32) (ls : Array Slot), z = Sum.inr o' → lv_has ls 7 [(3, .int (o'))] → W p l e rm_X11_often s m args below meth c s.heap [] 0 0 Q (F0 m 73 ls [])) {ls : Array Slot} (hP : va_P D vwCl (wd_m a_m a_m_refused a_m_codes a_m_noted a_m_marked a_m_masks a_m_text a_m_before a_m_ahead a_m_aside a_m_sure a_m_wrongs a_m_says a_m_evening a_m_images cI cB cT m_words m_kindNow m_secretNow m_guessed m_left m_wrong m_noteMany m_markMany m_typed m_readAt m_readNumber m_undoMany m_lastGuesses m_above m_below m_refused m_codes m_noted m_marked m_masks m_text m_before m_ahead m_aside m_sure m_wrongs m_says m_evening m_images) s.heap) (hl : lv_has ls 7 [(0, .ref a_m), (1, .int x1), (2, .int x2), (3, .int x3), (4, .int x4), (5, .int x5)]) (hf : B_X11_often_8 m_words m_masks x1 x2 x3 x4 x5 = some z) : W p l e rm_X11_often s m args below meth c s.heap [] 0 0 Q (F0 m 8 ls []) := by
  obtain ⟨hx, hb, hml, hown, hts⟩ := id CF
  unfold B_X11_often_8 at hf
  refine lv_iload hx hb dX11_often_8 (lv_at hl 5 rfl) ?_
  refine lv_bipush (v := (10 : Int32)) hx hb dX11_often_10 (by decide) ?_
  refine lv_icmp_ge (tgt := 73) hx hb dX11_often_12 (by decide) (fun c1 => ?_) (fun c1 => ?_)
  · have hf := tk c1 hf
    exact hx0 _ _ (Option.some.inj hf).symm (lv_sub hl [3] rfl)
  · have hf := fk c1 hf
    refine lv_iload_n hx hb dX11_often_15 rfl (lv_at hl 2 rfl) ?_
    refine lv_iload hx hb dX11_often_16 (lv_at hl 5 rfl) ?_
    obtain ⟨o2, e3, hf⟩ := lp_bind hf
    refine ro_Si (x := o2) (As := [.int x2, .int x5]) (rest := []) CF (c_X11_has l D cI cB cT x2 x5 e3) ok_X11_has wm_1133 ⟨rfl, rfl, Nat.le_of_ble_eq_true rfl, Nat.le_of_ble_eq_true rfl⟩ hG wd_E_P rfl hl.1 rfl (Nat.le_of_ble_eq_true rfl) ⟨Nat.zero_le _, Nat.zero_le _⟩ dX11_often_18 ?_
    refine lv_if_eq (tgt := 28) hx hb dX11_often_21 (by decide) (fun c4 => ?_) (fun c4 => ?_)
    · have hf := tk c4 hf
      refine lv_aload_n hx hb dX11_often_28 rfl (lv_at hl 0 rfl) ?_
      refine lv_iload_n hx hb dX11_often_29 rfl (lv_at hl 1 rfl) ?_
      refine lv_iload hx hb dX11_often_30 (lv_at hl 5 rfl) ?_
      obtain ⟨o5, e6, hf⟩ := lp_bind hf
      refine ro_Vi (x := o5) (As := [.int x1, .int x5]) (rest := []) CF (c_X11_haveLetter l D cI cB cT a_m a_m_refused a_m_codes a_m_noted a_m_marked a_m_masks a_m_text a_m_before a_m_ahead a_m_aside a_m_sure a_m_wrongs a_m_says a_m_evening a_m_images m_words m_kindNow m_secretNow m_guessed m_left m_wrong m_noteMany m_markMany m_typed m_readAt m_readNumber m_undoMany m_lastGuesses m_above m_below m_refused m_codes m_noted m_marked m_masks m_text m_before m_ahead m_aside m_sure m_wrongs m_says m_evening m_images x1 x5 e6) ok_X11_haveLetter wm_1274 ⟨rfl, rfl, Nat.le_of_ble_eq_true rfl, Nat.le_of_ble_eq_true rfl⟩ hG hP 0 9 vq_9 rfl ce_m_0 rfl hl.1 rfl (Nat.le_of_ble_eq_true rfl) ⟨Nat.zero_le _, Nat.zero_le _⟩ dX11_often_32 ?_
      exact J_X11_often_35_W CF hG hk hx0 hP (lv_sub hl [0, 1, 2, 3, 4, 5] rfl) hf
    · have hf := fk c4 hf
      refine lv_iconst (v := (-1 : Int32)) hx hb dX11_often_24 (by decide) ?_
      refine lv_goto (tgt := 35) hx hb dX11_often_25 (by decide) ?_
      exact J_X11_often_35_W CF hG hk hx0 hP (lv_sub hl [0, 1, 2, 3, 4, 5] rfl) hf
set_option maxHeartbeats 4000000 in
set_option maxRecDepth 100000 in
theorem L_X11_often_8_W {m_words : Int32} {m_kindNow : Int32} {m_secretNow : Int32} {m_guessed : Int32} {m_left : Int32} {m_wrong : Int32} {m_noteMany : Int32} {m_markMany : Int32} {m_typed : Int32} {m_readAt : Int32} {m_readNumber : Int32} {m_undoMany : Int32} {m_lastGuesses : Int32} {m_above : Int64} {m_below : Int64} {m_refused : (Nat → Int32)} {m_codes : (Nat → Int32)} {m_noted : (Nat → Int32)} {m_marked : (Nat → Int32)} {m_masks : (Nat → Int32)} {m_text : (Nat → Int32)} {m_before : (Nat → Int32)} {m_ahead : (Nat → Int32)} {m_aside : (Nat → Int32)} {m_sure : (Nat → Int32)} {m_wrongs : (Nat → Int32)} {m_says : (Nat → Int32)} {m_evening : (Nat → Int32)} {m_images : (Nat → Int32)} {x1 : Int32} {x2 : Int32} (CF : CallFix p m c cX11_often 7 s args wsAll RX11) (hG : Gd D cI cB cT s) {o : Int32} (hx0 : ∀ (ls : Array Slot), lv_has ls 7 [(3, .int o)] → W p l e rm_X11_often s m args below meth c s.heap [] 0 0 Q (F0 m 73 ls [])) : ∀ (n : Nat) (x3 : Int32) (x4 : Int32) (x5 : Int32) (ls : Array Slot), va_P D vwCl (wd_m a_m a_m_refused a_m_codes a_m_noted a_m_marked a_m_masks a_m_text a_m_before a_m_ahead a_m_aside a_m_sure a_m_wrongs a_m_says a_m_evening a_m_images cI cB cT m_words m_kindNow m_secretNow m_guessed m_left m_wrong m_noteMany m_markMany m_typed m_readAt m_readNumber m_undoMany m_lastGuesses m_above m_below m_refused m_codes m_noted m_marked m_masks m_text m_before m_ahead m_aside m_sure m_wrongs m_says m_evening m_images) s.heap → lv_has ls 7 [(0, .ref a_m), (1, .int x1), (2, .int x2), (3, .int x3), (4, .int x4), (5, .int x5)] → lp (fun v => B_X11_often_8 m_words m_masks x1 x2 v.1 v.2.1 v.2.2) n (x3, x4, x5) = some o → W p l e rm_X11_often s m args below meth c s.heap [] 0 0 Q (F0 m 8 ls []) := by
  intro n
  induction n with
  | zero =>
    intro x3 x4 x5 ls hP hl hf
    exact (lp_zero hf).elim
  | succ n ih =>
    intro x3 x4 x5 ls hP hl hf
    obtain ⟨z, hz, hf⟩ := lp_succ hf
    refine B_X11_often_8_W CF hG ?_ ?_ hP hl hz
    · intro v' ls ez hl
      rcases hf with ⟨v2, ev, hf⟩ | ev
      · cases Sum.inl.inj (ez.symm.trans ev)
        exact ih v'.1 v'.2.1 v'.2.2 ls hP hl hf
      · exact (lp_lr (ez.symm.trans ev)).elim
    · intro o' ls ez hl
      rcases hf with ⟨v2, ev, hf⟩ | ev
      · exact (lp_lr (ev.symm.trans ez)).elim
      · cases Sum.inr.inj (ez.symm.trans ev)
        exact hx0 ls  hl
set_option maxHeartbeats 4000000 in
set_option maxRecDepth 100000 in
theorem c_X11_often (l : Launch) (D : va_G) (cI cB cT : ClassId) (a_m a_m_refused a_m_codes a_m_noted a_m_marked a_m_masks a_m_text a_m_before a_m_ahead a_m_aside a_m_sure a_m_wrongs a_m_says a_m_evening a_m_images : Nat) (m_words : Int32) (m_kindNow : Int32) (m_secretNow : Int32) (m_guessed : Int32) (m_left : Int32) (m_wrong : Int32) (m_noteMany : Int32) (m_markMany : Int32) (m_typed : Int32) (m_readAt : Int32) (m_readNumber : Int32) (m_undoMany : Int32) (m_lastGuesses : Int32) (m_above : Int64) (m_below : Int64) (m_refused : (Nat → Int32)) (m_codes : (Nat → Int32)) (m_noted : (Nat → Int32)) (m_marked : (Nat → Int32)) (m_masks : (Nat → Int32)) (m_text : (Nat → Int32)) (m_before : (Nat → Int32)) (m_ahead : (Nat → Int32)) (m_aside : (Nat → Int32)) (m_sure : (Nat → Int32)) (m_wrongs : (Nat → Int32)) (m_says : (Nat → Int32)) (m_evening : (Nat → Int32)) (m_images : (Nat → Int32)) (p1 : Int32) (p2 : Int32) {z : Int32} (hf : f_X11_often m_words m_masks p1 p2 = some z) :
    Met l yX11_often (Cond.code yX11_often cX11_often 7 (some .int) :: wsAll) rm_X11_often (Pro [.ref a_m, .int p1, .int p2] D cI cB cT (wd_m a_m a_m_refused a_m_codes a_m_noted a_m_marked a_m_masks a_m_text a_m_before a_m_ahead a_m_aside a_m_sure a_m_wrongs a_m_says a_m_evening a_m_images cI cB cT m_words m_kindNow m_secretNow m_guessed m_left m_wrong m_noteMany m_markMany m_typed m_readAt m_readNumber m_undoMany m_lastGuesses m_above m_below m_refused m_codes m_noted m_marked m_masks m_text m_before m_ahead m_aside m_sure m_wrongs m_says m_evening m_images)) (Qr (some (.int z))) 0 0 (fun _ => False) := by
  refine ro_intro RX11 (by decide +kernel) rfl (Nat.le_of_ble_eq_true rfl) ?_
  intro p e s m below meth c ls CF hr hlk hG hP hl
  have hl : lv_has ls 7 [(0, .ref a_m), (1, .int p1), (2, .int p2)] := hl
  obtain ⟨hx, hb, hml, hown, hts⟩ := id CF
  unfold f_X11_often at hf
  refine lv_iconst (v := (-1 : Int32)) hx hb dX11_often_0 (by decide) ?_
  refine lv_istore_n (lv' := [(3, .int (-1 : Int32)), (0, .ref a_m), (1, .int p1), (2, .int p2)]) hx hb dX11_often_1 rfl hl (by decide) rfl (fun ls hl => ?_)
  refine lv_iconst (v := (-1 : Int32)) hx hb dX11_often_2 (by decide) ?_
  refine lv_istore (lv' := [(4, .int (-1 : Int32)), (3, .int (-1 : Int32)), (0, .ref a_m), (1, .int p1), (2, .int p2)]) hx hb dX11_often_3 hl (by decide) rfl (fun ls hl => ?_)
  refine lv_iconst (v := (0 : Int32)) hx hb dX11_often_5 (by decide) ?_
  refine lv_istore (lv' := [(5, .int (0 : Int32)), (4, .int (-1 : Int32)), (3, .int (-1 : Int32)), (0, .ref a_m), (1, .int p1), (2, .int p2)]) hx hb dX11_often_6 hl (by decide) rfl (fun ls hl => ?_)
  obtain ⟨o10, e11, hf⟩ := lp_bind hf
  refine L_X11_often_8_W CF hG ?_ KN _ _ _ _ hP (lv_sub hl [3, 4, 5, 2, 1, 0] rfl) e11
  intro ls hl
  refine lv_iload_n hx hb dX11_often_73 rfl (lv_at hl 0 rfl) ?_
  obtain rfl := Option.some.inj hf
  exact ro_iret CF hr hlk dX11_often_74
end M_X11_often
