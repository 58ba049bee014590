section M_X11_mildly
variable {p : Program} {l : Launch} {e : Env} {s : State} {m : MethodId} {args : Array Value} {below : List Frame} {meth : Method} {c : Code} {Q : State → Prop} {A : Nat → Prop} {D : va_G} {cI cB cT : ClassId}
variable {a_m a_m_refused a_m_codes a_m_noted a_m_marked a_m_masks a_m_text a_m_before a_m_ahead a_m_aside a_m_sure a_m_wrongs a_m_says a_m_evening a_m_images : Nat}
def rm_X11_mildly : Room := { frames := 2, cells := 0, slots := 0, locals := 47 }
def J_X11_mildly_35 (x3 : Int32) (x4 : Int32) (x5 : Int32) (y0 : Int32) : Option ((Int32 × Int32 × Int32) ⊕ (Int32)) := (if y0 < 0 then (if y0 ≤ x4 then some (Sum.inl (x3, x4, (x5 + (1 : Int32)))) else some (Sum.inl (x3, y0, (x5 + (1 : Int32))))) else (if y0 < x4 then (if y0 ≤ x4 then some (Sum.inl (x3, x4, (x5 + (1 : Int32)))) else some (Sum.inl (x3, y0, (x5 + (1 : Int32))))) else (if y0 ≤ x4 then some (Sum.inl (x5, x4, (x5 + (1 : Int32)))) else some (Sum.inl (x5, y0, (x5 + (1 : Int32)))))))
def B_X11_mildly_8 (m_words : Int32) (m_masks : (Nat → Int32)) (x1 : Int32) (x2 : Int32) (x3 : Int32) (x4 : Int32) (x5 : Int32) : Option ((Int32 × Int32 × Int32) ⊕ (Int32)) := (if (16 : Int32) ≤ x5 then some (Sum.inr x3) else ((f_X11_haveMask m_words m_masks x1 x2 x5).bind fun o2 => (if o2 ≤ 0 then J_X11_mildly_35 x3 x4 x5 (-1 : Int32) else ((f_X11_bits x5).bind fun o10 => J_X11_mildly_35 x3 x4 x5 o10))))
def f_X11_mildly (m_words : Int32) (m_masks : (Nat → Int32)) (p1 : Int32) (p2 : Int32) : Option (Int32) := ((lp (fun v => B_X11_mildly_8 m_words m_masks p1 p2 v.1 v.2.1 v.2.2) KN ((0 : Int32), (-1 : Int32), (0 : Int32))).bind fun o12 => some o12)
set_option maxHeartbeats 4000000 in
set_option maxRecDepth 100000 in
theorem J_X11_mildly_35_W {m_words : Int32} {m_kindNow : Int32} {m_secretNow : Int32} {m_guessed : Int32} {m_left : Int32} {m_wrong : Int32} {m_noteMany : Int32} {m_markMany : Int32} {m_typed : Int32} {m_readAt : Int32} {m_readNumber : Int32} {m_undoMany : Int32} {m_lastGuesses : Int32} {m_above : Int64} {m_below : Int64} {m_refused : (Nat → Int32)} {m_codes : (Nat → Int32)} {m_noted : (Nat → Int32)} {m_marked : (Nat → Int32)} {m_masks : (Nat → Int32)} {m_text : (Nat → Int32)} {m_before : (Nat → Int32)} {m_ahead : (Nat → Int32)} {m_aside : (Nat → Int32)} {m_sure : (Nat → Int32)} {m_wrongs : (Nat → Int32)} {m_says : (Nat → Int32)} {m_evening : (Nat → Int32)} {m_images : (Nat → Int32)} {x1 : Int32} {x2 : Int32} {x3 : Int32} {x4 : Int32} {x5 : Int32} {y0 : Int32} (CF : CallFix p m c cX11_mildly 7 s args wsAll RX11) (hG : Gd D cI cB cT s) {z : (Int32 × Int32 × Int32) ⊕ (Int32)} (hk : ∀ (v' : Int32 × Int32 × Int32) (ls : Array Slot), z = Sum.inl v' → lv_has ls 7 [(0, .ref a_m), (1, .int x1), (2, .int x2), (3, .int (v'.1)), (4, .int (v'.2.1)), (5, .int (v'.2.2))] → W p l e rm_X11_mildly s m args below meth c s.heap [] 0 0 Q (F0 m 8 ls [])) (hx0 : ∀ (o' : Int32) (ls : Array Slot), z = Sum.inr o' → lv_has ls 7 [(3, .int (o'))] → W p l e rm_X11_mildly s m args below meth c s.heap [] 0 0 Q (F0 m 78 ls [])) {ls : Array Slot} (hP : va_P D vwCl (wd_m a_m a_m_refused a_m_codes a_m_noted a_m_marked a_m_masks a_m_text a_m_before a_m_ahead a_m_aside a_m_sure a_m_wrongs a_m_says a_m_evening a_m_images cI cB cT m_words m_kindNow m_secretNow m_guessed m_left m_wrong m_noteMany m_markMany m_typed m_readAt m_readNumber m_undoMany m_lastGuesses m_above m_below m_refused m_codes m_noted m_marked m_masks m_text m_before m_ahead m_aside m_sure m_wrongs m_says m_evening m_images) s.heap) (hl : lv_has ls 7 [(0, .ref a_m), (1, .int x1), (2, .int x2), (3, .int x3), (4, .int x4), (5, .int x5)]) (hf : J_X11_mildly_35 x3 x4 x5 y0 = some z) : W p l e rm_X11_mildly s m args below meth c s.heap [] 0 0 Q (F0 m 35 ls [.int y0]) := by
  obtain ⟨hx, hb, hml, hown, hts⟩ := id CF
  unfold J_X11_mildly_35 at hf
  refine lv_istore (lv' := [(6, .int y0), (0, .ref a_m), (1, .int x1), (2, .int x2), (3, .int x3), (4, .int x4), (5, .int x5)]) hx hb dX11_mildly_35 hl (by decide) rfl (fun ls hl => ?_)
  refine lv_iload hx hb dX11_mildly_37 (lv_at hl 0 rfl) ?_
  refine lv_if_lt (tgt := 54) hx hb dX11_mildly_39 (by decide) (fun c5 => ?_) (fun c5 => ?_)
  · have hf := tk c5 hf
    refine lv_iload_n hx hb dX11_mildly_54 rfl (lv_at hl 4 rfl) ?_
    refine lv_istore_n (lv' := [(3, .int x3), (6, .int y0), (0, .ref a_m), (1, .int x1), (2, .int x2), (4, .int x4), (5, .int x5)]) hx hb dX11_mildly_55 rfl hl (by decide) rfl (fun ls hl => ?_)
    refine lv_iload hx hb dX11_mildly_56 (lv_at hl 1 rfl) ?_
    refine lv_iload hx hb dX11_mildly_58 (lv_at hl 5 rfl) ?_
    refine lv_icmp_le (tgt := 68) hx hb dX11_mildly_60 (by decide) (fun c6 => ?_) (fun c6 => ?_)
    · have hf := tk c6 hf
      refine lv_iload hx hb dX11_mildly_68 (lv_at hl 5 rfl) ?_
      refine lv_istore (lv' := [(4, .int x4), (3, .int x3), (6, .int y0), (0, .ref a_m), (1, .int x1), (2, .int x2), (5, .int x5)]) hx hb dX11_mildly_70 hl (by decide) rfl (fun ls hl => ?_)
      refine lv_iinc (v := (x5 + (1 : Int32))) (lv' := [(5, .int (x5 + (1 : Int32))), (4, .int x4), (3, .int x3), (6, .int y0), (0, .ref a_m), (1, .int x1), (2, .int x2)]) hx hb dX11_mildly_72 hl (k := 6) rfl (iinc_eq (by decide)) (by decide) rfl (fun ls hl => ?_)
      refine lv_goto (tgt := 8) hx hb dX11_mildly_75 (by decide) ?_
      exact hk _ _ (Option.some.inj hf).symm (lv_sub hl [4, 5, 6, 2, 1, 0] rfl)
    · have hf := fk c6 hf
      refine lv_iload hx hb dX11_mildly_63 (lv_at hl 1 rfl) ?_
      refine lv_goto (tgt := 70) hx hb dX11_mildly_65 (by decide) ?_
      refine lv_istore (lv' := [(4, .int y0), (3, .int x3), (6, .int y0), (0, .ref a_m), (1, .int x1), (2, .int x2), (5, .int x5)]) hx hb dX11_mildly_70 hl (by decide) rfl (fun ls hl => ?_)
      refine lv_iinc (v := (x5 + (1 : Int32))) (lv' := [(5, .int (x5 + (1 : Int32))), (4, .int y0), (3, .int x3), (6, .int y0), (0, .ref a_m), (1, .int x1), (2, .int x2)]) hx hb dX11_mildly_72 hl (k := 6) rfl (iinc_eq (by decide)) (by decide) rfl (fun ls hl => ?_)
      refine lv_goto (tgt := 8) hx hb dX11_mildly_75 (by decide) ?_
      exact hk _ _ (Option.some.inj hf).symm (lv_sub hl [4, 5, 6, 2, 1, 0] rfl)
  · have hf := fk c5 hf
    refine lv_iload hx hb dX11_mildly_42 (lv_at hl 0 rfl) ?_
    refine lv_iload hx hb dX11_mildly_44 (lv_at hl 5 rfl) ?_
    refine lv_icmp_lt (tgt := 54) hx hb dX11_mildly_46 (by decide) (fun c7 => ?_) (fun c7 => ?_)
    · have hf := tk c7 hf
      refine lv_iload_n hx hb dX11_mildly_54 rfl (lv_at hl 4 rfl) ?_
      refine lv_istore_n (lv' := [(3, .int x3), (6, .int y0), (0, .ref a_m), (1, .int x1), (2, .int x2), (4, .int x4), (5, .int x5)]) hx hb dX11_mildly_55 rfl hl (by decide) rfl (fun ls hl => ?_)
      refine lv_iload hx hb dX11_mildly_56 (lv_at hl 1 rfl) ?_
      refine lv_iload hx hb dX11_mildly_58 (lv_at hl 5 rfl) ?_
      refine lv_icmp_le (tgt := 68) hx hb dX11_mildly_60 (by decide) (fun c8 => ?_) (fun c8 => ?_)
      · have hf := tk c8 hf
        refine lv_iload hx hb dX11_mildly_68 (lv_at hl 5 rfl) ?_
        refine lv_istore (lv' := [(4, .int x4), (3, .int x3), (6, .int y0), (0, .ref a_m), (1, .int x1), (2, .int x2), (5, .int x5)]) hx hb dX11_mildly_70 hl (by decide) rfl (fun ls hl => ?_)
        refine lv_iinc (v := (x5 + (1 : Int32))) (lv' := [(5, .int (x5 + (1 : Int32))), (4, .int x4), (3, .int x3), (6, .int y0), (0, .ref a_m), (1, .int x1), (2, .int x2)]) hx hb dX11_mildly_72 hl (k := 6) rfl (iinc_eq (by decide)) (by decide) rfl (fun ls hl => ?_)
        refine lv_goto (tgt := 8) hx hb dX11_mildly_75 (by decide) ?_
        exact hk _ _ (Option.some.inj hf).symm (lv_sub hl [4, 5, 6, 2, 1, 0] rfl)
      · have hf := fk c8 hf
        refine lv_iload hx hb dX11_mildly_63 (lv_at hl 1 rfl) ?_
        refine lv_goto (tgt := 70) hx hb dX11_mildly_65 (by decide) ?_
        refine lv_istore (lv' := [(4, .int y0), (3, .int x3), (6, .int y0), (0, .ref a_m), (1, .int x1), (2, .int x2), (5, .int x5)]) hx hb dX11_mildly_70 hl (by decide) rfl (fun ls hl => ?_)
        refine lv_iinc (v := (x5 + (1 : Int32))) (lv' := [(5, .int (x5 + (1 : Int32))), (4, .int y0), (3, .int x3), (6, .int y0), (0, .ref a_m), (1, .int x1), (2, .int x2)]) hx hb dX11_mildly_72 hl (k := 6) rfl (iinc_eq (by decide)) (by decide) rfl (fun ls hl => ?_)
        refine lv_goto (tgt := 8) hx hb dX11_mildly_75 (by decide) ?_
        exact hk _ _ (Option.some.inj hf).symm (lv_sub hl [4, 5, 6, 2, 1, 0] rfl)
    · have hf := fk c7 hf
      refine lv_iload hx hb dX11_mildly_49 (lv_at hl 6 rfl) ?_
      refine lv_goto (tgt := 55) hx hb dX11_mildly_51 (by decide) ?_
      refine lv_istore_n (lv' := [(3, .int x5), (6, .int y0), (0, .ref a_m), (1, .int x1), (2, .int x2), (4, .int x4), (5, .int x5)]) hx hb dX11_mildly_55 rfl hl (by decide) rfl (fun ls hl => ?_)
      refine lv_iload hx hb dX11_mildly_56 (lv_at hl 1 rfl) ?_
      refine lv_iload hx hb dX11_mildly_58 (lv_at hl 5 rfl) ?_
      refine lv_icmp_le (tgt := 68) hx hb dX11_mildly_60 (by decide) (fun c9 => ?_) (fun c9 => ?_)
      · have hf := tk c9 hf
        refine lv_iload hx hb dX11_mildly_68 (lv_at hl 5 rfl) ?_
        refine lv_istore (lv' := [(4, .int x4), (3, .int x5), (6, .int y0), (0, .ref a_m), (1, .int x1), (2, .int x2), (5, .int x5)]) hx hb dX11_mildly_70 hl (by decide) rfl (fun ls hl => ?_)
        refine lv_iinc (v := (x5 + (1 : Int32))) (lv' := [(5, .int (x5 + (1 : Int32))), (4, .int x4), (3, .int x5), (6, .int y0), (0, .ref a_m), (1, .int x1), (2, .int x2)]) hx hb dX11_mildly_72 hl (k := 6) rfl (iinc_eq (by decide)) (by decide) rfl (fun ls hl => ?_)
        refine lv_goto (tgt := 8) hx hb dX11_mildly_75 (by decide) ?_
        exact hk _ _ (Option.some.inj hf).symm (lv_sub hl [4, 5, 6, 2, 1, 0] rfl)
      · have hf := fk c9 hf
        refine lv_iload hx hb dX11_mildly_63 (lv_at hl 1 rfl) ?_
        refine lv_goto (tgt := 70) hx hb dX11_mildly_65 (by decide) ?_
        refine lv_istore (lv' := [(4, .int y0), (3, .int x5), (6, .int y0), (0, .ref a_m), (1, .int x1), (2, .int x2), (5, .int x5)]) hx hb dX11_mildly_70 hl (by decide) rfl (fun ls hl => ?_)
        refine lv_iinc (v := (x5 + (1 : Int32))) (lv' := [(5, .int (x5 + (1 : Int32))), (4, .int y0), (3, .int x5), (6, .int y0), (0, .ref a_m), (1, .int x1), (2, .int x2)]) hx hb dX11_mildly_72 hl (k := 6) rfl (iinc_eq (by decide)) (by decide) rfl (fun ls hl => ?_)
        refine lv_goto (tgt := 8) hx hb dX11_mildly_75 (by decide) ?_
        exact hk _ _ (Option.some.inj hf).symm (lv_sub hl [4, 5, 6, 2, 1, 0] rfl)
set_option maxHeartbeats 4000000 in
set_option maxRecDepth 100000 in
theorem B_X11_mildly_8_W {m_words : Int32} {m_kindNow : Int32} {m_secretNow : Int32} {m_guessed : Int32} {m_left : Int32} {m_wrong : Int32} {m_noteMany : Int32} {m_markMany : Int32} {m_typed : Int32} {m_readAt : Int32} {m_readNumber : Int32} {m_undoMany : Int32} {m_lastGuesses : Int32} {m_above : Int64} {m_below : Int64} {m_refused : (Nat → Int32)} {m_codes : (Nat → Int32)} {m_noted : (Nat → Int32)} {m_marked : (Nat → Int32)} {m_masks : (Nat → Int32)} {m_text : (Nat → Int32)} {m_before : (Nat → Int32)} {m_ahead : (Nat → Int32)} {m_aside : (Nat → Int32)} {m_sure : (Nat → Int32)} {m_wrongs : (Nat → Int32)} {m_says : (Nat → Int32)} {m_evening : (Nat → Int32)} {m_images : (Nat → Int32)} {x1 : Int32} {x2 : Int32} {x3 : Int32} {x4 : Int32} {x5 : Int32} (CF : CallFix p m c cX11_mildly 7 s args wsAll RX11) (hG : Gd D cI cB cT s) {z : (Int32 × Int32 × Int32) ⊕ (Int32)} (hk : ∀ (v' : Int32 × Int32 × Int32) (ls : Array Slot), z = Sum.inl v' → lv_has ls 7 [(0, .ref a_m), (1, .int x1), (2, .int x2), (3, .int (v'.1)), (4, .int (v'.2.1)), (5, .int (v'.2.2))] → W p l e rm_X11_mildly s m args below meth c s.heap [] 0 0 Q (F0 m 8 ls [])) (hx0 : ∀ (o' : Int32) (ls : Array Slot), z = Sum.inr o' → lv_has ls 7 [(3, .int (o'))] → W p l e rm_X11_mildly s m args below meth c s.heap [] 0 0 Q (F0 m 78 ls [])) {ls : Array Slot} (hP : va_P D vwCl (wd_m a_m a_m_refused a_m_codes a_m_noted a_m_marked a_m_masks a_m_text a_m_before a_m_ahead a_m_aside a_m_sure a_m_wrongs a_m_says a_m_evening a_m_images cI cB cT m_words m_kindNow m_secretNow m_guessed m_left m_wrong m_noteMany m_markMany m_typed m_readAt m_readNumber m_undoMany m_lastGuesses m_above m_below m_refused m_codes m_noted m_marked m_masks m_text m_before m_ahead m_aside m_sure m_wrongs m_says m_evening m_images) s.heap) (hl : lv_has ls 7 [(0, .ref a_m), (1, .int x1), (2, .int x2), (3, .int x3), (4, .int x4), (5, .int x5)]) (hf : B_X11_mildly_8 m_words m_masks x1 x2 x3 x4 x5 = some z) : W p l e rm_X11_mildly s m args below meth c s.heap [] 0 0 Q (F0 m 8 ls []) := by
  obtain ⟨hx, hb, hml, hown, hts⟩ := id CF
  unfold B_X11_mildly_8 at hf
  refine lv_iload hx hb dX11_mildly_8 (lv_at hl 5 rfl) ?_
  refine lv_bipush (v := (16 : Int32)) hx hb dX11_mildly_10 (by decide) ?_
  refine lv_icmp_ge (tgt := 78) hx hb dX11_mildly_12 (by decide) (fun c1 => ?_) (fun c1 => ?_)
  · have hf := tk c1 hf
    exact hx0 _ _ (Option.some.inj hf).symm (lv_sub hl [3] rfl)
  · have hf := fk c1 hf
    refine lv_aload_n hx hb dX11_mildly_15 rfl (lv_at hl 0 rfl) ?_
    refine lv_iload_n hx hb dX11_mildly_16 rfl (lv_at hl 1 rfl) ?_
    refine lv_iload_n hx hb dX11_mildly_17 rfl (lv_at hl 2 rfl) ?_
    refine lv_iload hx hb dX11_mildly_18 (lv_at hl 5 rfl) ?_
    obtain ⟨o2, e3, hf⟩ := lp_bind hf
    refine ro_Vi (x := o2) (As := [.int x1, .int x2, .int x5]) (rest := []) CF (c_X11_haveMask l D cI cB cT a_m a_m_refused a_m_codes a_m_noted a_m_marked a_m_masks a_m_text a_m_before a_m_ahead a_m_aside a_m_sure a_m_wrongs a_m_says a_m_evening a_m_images m_words m_kindNow m_secretNow m_guessed m_left m_wrong m_noteMany m_markMany m_typed m_readAt m_readNumber m_undoMany m_lastGuesses m_above m_below m_refused m_codes m_noted m_marked m_masks m_text m_before m_ahead m_aside m_sure m_wrongs m_says m_evening m_images x1 x2 x5 e3) ok_X11_haveMask wm_1163 ⟨rfl, rfl, Nat.le_of_ble_eq_true rfl, Nat.le_of_ble_eq_true rfl⟩ hG hP 0 9 vq_9 rfl ce_m_0 rfl hl.1 rfl (Nat.le_of_ble_eq_true rfl) ⟨Nat.zero_le _, Nat.zero_le _⟩ dX11_mildly_20 ?_
    refine lv_if_le (tgt := 34) hx hb dX11_mildly_23 (by decide) (fun c4 => ?_) (fun c4 => ?_)
    · have hf := tk c4 hf
      refine lv_iconst (v := (-1 : Int32)) hx hb dX11_mildly_34 (by decide) ?_
      exact J_X11_mildly_35_W CF hG hk hx0 hP (lv_sub hl [0, 1, 2, 3, 4, 5] rfl) hf
    · have hf := fk c4 hf
      refine lv_iload hx hb dX11_mildly_26 (lv_at hl 5 rfl) ?_
      obtain ⟨o10, e11, hf⟩ := lp_bind hf
      refine ro_Si (x := o10) (As := [.int x5]) (rest := []) CF (c_X11_bits l D cI cB cT x5 e11) ok_X11_bits wm_1144 ⟨rfl, rfl, Nat.le_of_ble_eq_true rfl, Nat.le_of_ble_eq_true rfl⟩ hG wd_E_P rfl hl.1 rfl (Nat.le_of_ble_eq_true rfl) ⟨Nat.zero_le _, Nat.zero_le _⟩ dX11_mildly_28 ?_
      refine lv_goto (tgt := 35) hx hb dX11_mildly_31 (by decide) ?_
      exact J_X11_mildly_35_W CF hG hk hx0 hP (lv_sub hl [0, 1, 2, 3, 4, 5] rfl) hf
set_option maxHeartbeats 4000000 in
set_option maxRecDepth 100000 in
theorem L_X11_mildly_8_W {m_words : Int32} {m_kindNow : Int32} {m_secretNow : Int32} {m_guessed : Int32} {m_left : Int32} {m_wrong : Int32} {m_noteMany : Int32} {m_markMany : Int32} {m_typed : Int32} {m_readAt : Int32} {m_readNumber : Int32} {m_undoMany : Int32} {m_lastGuesses : Int32} {m_above : Int64} {m_below : Int64} {m_refused : (Nat → Int32)} {m_codes : (Nat → Int32)} {m_noted : (Nat → Int32)} {m_marked : (Nat → Int32)} {m_masks : (Nat → Int32)} {m_text : (Nat → Int32)} {m_before : (Nat → Int32)} {m_ahead : (Nat → Int32)} {m_aside : (Nat → Int32)} {m_sure : (Nat → Int32)} {m_wrongs : (Nat → Int32)} {m_says : (Nat → Int32)} {m_evening : (Nat → Int32)} {m_images : (Nat → Int32)} {x1 : Int32} {x2 : Int32} (CF : CallFix p m c cX11_mildly 7 s args wsAll RX11) (hG : Gd D cI cB cT s) {o : Int32} (hx0 : ∀ (ls : Array Slot), lv_has ls 7 [(3, .int o)] → W p l e rm_X11_mildly s m args below meth c s.heap [] 0 0 Q (F0 m 78 ls [])) : ∀ (n : Nat) (x3 : Int32) (x4 : Int32) (x5 : Int32) (ls : Array Slot), va_P D vwCl (wd_m a_m a_m_refused a_m_codes a_m_noted a_m_marked a_m_masks a_m_text a_m_before a_m_ahead a_m_aside a_m_sure a_m_wrongs a_m_says a_m_evening a_m_images cI cB cT m_words m_kindNow m_secretNow m_guessed m_left m_wrong m_noteMany m_markMany m_typed m_readAt m_readNumber m_undoMany m_lastGuesses m_above m_below m_refused m_codes m_noted m_marked m_masks m_text m_before m_ahead m_aside m_sure m_wrongs m_says m_evening m_images) s.heap → lv_has ls 7 [(0, .ref a_m), (1, .int x1), (2, .int x2), (3, .int x3), (4, .int x4), (5, .int x5)] → lp (fun v => B_X11_mildly_8 m_words m_masks x1 x2 v.1 v.2.1 v.2.2) n (x3, x4, x5) = some o → W p l e rm_X11_mildly s m args below meth c s.heap [] 0 0 Q (F0 m 8 ls []) := by
  intro n
  induction n with
  | zero =>
    intro x3 x4 x5 ls hP hl hf
    exact (lp_zero hf).elim
  | succ n ih =>
    intro x3 x4 x5 ls hP hl hf
    obtain ⟨z, hz, hf⟩ := lp_succ hf
    refine B_X11_mildly_8_W CF hG ?_ ?_ hP hl hz
    · intro v' ls ez hl
      rcases hf with ⟨v2, ev, hf⟩ | ev
      · cases Sum.inl.inj (ez.symm.trans ev)
        exact ih v'.1 v'.2.1 v'.2.2 ls hP hl hf
      · exact (lp_lr (ez.symm.trans ev)).elim
    · intro o' ls ez hl
      rcases hf with ⟨v2, ev, hf⟩ | ev
      · exact (lp_lr (ev.symm.trans ez)).elim
      · cases Sum.inr.inj (ez.symm.trans ev)
        exact hx0 ls  hl
set_option maxHeartbeats 4000000 in
set_option maxRecDepth 100000 in
theorem c_X11_mildly (l : Launch) (D : va_G) (cI cB cT : ClassId) (a_m a_m_refused a_m_codes a_m_noted a_m_marked a_m_masks a_m_text a_m_before a_m_ahead a_m_aside a_m_sure a_m_wrongs a_m_says a_m_evening a_m_images : Nat) (m_words : Int32) (m_kindNow : Int32) (m_secretNow : Int32) (m_guessed : Int32) (m_left : Int32) (m_wrong : Int32) (m_noteMany : Int32) (m_markMany : Int32) (m_typed : Int32) (m_readAt : Int32) (m_readNumber : Int32) (m_undoMany : Int32) (m_lastGuesses : Int32) (m_above : Int64) (m_below : Int64) (m_refused : (Nat → Int32)) (m_codes : (Nat → Int32)) (m_noted : (Nat → Int32)) (m_marked : (Nat → Int32)) (m_masks : (Nat → Int32)) (m_text : (Nat → Int32)) (m_before : (Nat → Int32)) (m_ahead : (Nat → Int32)) (m_aside : (Nat → Int32)) (m_sure : (Nat → Int32)) (m_wrongs : (Nat → Int32)) (m_says : (Nat → Int32)) (m_evening : (Nat → Int32)) (m_images : (Nat → Int32)) (p1 : Int32) (p2 : Int32) {z : Int32} (hf : f_X11_mildly m_words m_masks p1 p2 = some z) :
    Met l yX11_mildly (Cond.code yX11_mildly cX11_mildly 7 (some .int) :: wsAll) rm_X11_mildly (Pro [.ref a_m, .int p1, .int p2] D cI cB cT (wd_m a_m a_m_refused a_m_codes a_m_noted a_m_marked a_m_masks a_m_text a_m_before a_m_ahead a_m_aside a_m_sure a_m_wrongs a_m_says a_m_evening a_m_images cI cB cT m_words m_kindNow m_secretNow m_guessed m_left m_wrong m_noteMany m_markMany m_typed m_readAt m_readNumber m_undoMany m_lastGuesses m_above m_below m_refused m_codes m_noted m_marked m_masks m_text m_before m_ahead m_aside m_sure m_wrongs m_says m_evening m_images)) (Qr (some (.int z))) 0 0 (fun _ => False) := by
  refine ro_intro RX11 (by decide +kernel) rfl (Nat.le_of_ble_eq_true rfl) ?_
  intro p e s m below meth c ls CF hr hlk hG hP hl
  have hl : lv_has ls 7 [(0, .ref a_m), (1, .int p1), (2, .int p2)] := hl
  obtain ⟨hx, hb, hml, hown, hts⟩ := id CF
  unfold f_X11_mildly at hf
  refine lv_iconst (v := (0 : Int32)) hx hb dX11_mildly_0 (by decide) ?_
  refine lv_istore_n (lv' := [(3, .int (0 : Int32)), (0, .ref a_m), (1, .int p1), (2, .int p2)]) hx hb dX11_mildly_1 rfl hl (by decide) rfl (fun ls hl => ?_)
  refine lv_iconst (v := (-1 : Int32)) hx hb dX11_mildly_2 (by decide) ?_
  refine lv_istore (lv' := [(4, .int (-1 : Int32)), (3, .int (0 : Int32)), (0, .ref a_m), (1, .int p1), (2, .int p2)]) hx hb dX11_mildly_3 hl (by decide) rfl (fun ls hl => ?_)
  refine lv_iconst (v := (0 : Int32)) hx hb dX11_mildly_5 (by decide) ?_
  refine lv_istore (lv' := [(5, .int (0 : Int32)), (4, .int (-1 : Int32)), (3, .int (0 : Int32)), (0, .ref a_m), (1, .int p1), (2, .int p2)]) hx hb dX11_mildly_6 hl (by decide) rfl (fun ls hl => ?_)
  obtain ⟨o12, e13, hf⟩ := lp_bind hf
  refine L_X11_mildly_8_W CF hG ?_ KN _ _ _ _ hP (lv_sub hl [3, 4, 5, 2, 1, 0] rfl) e13
  intro ls hl
  refine lv_iload_n hx hb dX11_mildly_78 rfl (lv_at hl 0 rfl) ?_
  obtain rfl := Option.some.inj hf
  exact ro_iret CF hr hlk dX11_mildly_79
end M_X11_mildly
section M_X11_answerBy
variable {p : Program} {l : Launch} {e : Env} {s : State} {m : MethodId} {args : Array Value} {below : List Frame} {meth : Method} {c : Code} {Q : State → Prop} {A : Nat → Prop} {D : va_G} {cI cB cT : ClassId}
variable {a_m a_m_refused a_m_codes a_m_noted a_m_marked a_m_masks a_m_text a_m_before a_m_ahead a_m_aside a_m_sure a_m_wrongs a_m_says a_m_evening a_m_images : Nat}
def rm_X11_answerBy : Room := { frames := 4, cells := 0, slots := 0, locals := 95 }
def f_X11_answerBy (m_words : Int32) (m_secretNow : Int32) (m_masks : (Nat → Int32)) (p1 : Int32) (p2 : Int32) (p3 : Int32) (p4 : Int32) : Option (Int32) := ((f_X11_keptOf m_secretNow p2).bind fun o1 => ((f_X11_maskOf m_masks o1 p4).bind fun o3 => (if p1 = (1 : Int32) then ((f_X11_slippery m_words m_masks p2 p4).bind fun o6 => some o6) else (if p1 = (2 : Int32) then ((f_X11_meanly m_words m_masks p2 p4).bind fun o9 => some o9) else (if p1 = (3 : Int32) then ((f_X11_mildly m_words m_masks p2 p4).bind fun o12 => some o12) else (if p1 = (4 : Int32) then (if (p3 - p3 / (2 : Int32) * (2 : Int32)) = (1 : Int32) then ((f_X11_meanly m_words m_masks p2 p4).bind fun o16 => some o16) else some o3) else (if p1 = (5 : Int32) then ((f_X11_haveMask m_words m_masks p2 p4 o3).bind fun o19 => ((f_X11_bits p2).bind fun o21 => (if ((2 : Int32) * o19) < o21 then ((f_X11_slippery m_words m_masks p2 p4).bind fun o24 => some o24) else some o3))) else some o3)))))))
set_option maxHeartbeats 4000000 in
set_option maxRecDepth 100000 in
theorem c_X11_answerBy (l : Launch) (D : va_G) (cI cB cT : ClassId) (a_m a_m_refused a_m_codes a_m_noted a_m_marked a_m_masks a_m_text a_m_before a_m_ahead a_m_aside a_m_sure a_m_wrongs a_m_says a_m_evening a_m_images : Nat) (m_words : Int32) (m_kindNow : Int32) (m_secretNow : Int32) (m_guessed : Int32) (m_left : Int32) (m_wrong : Int32) (m_noteMany : Int32) (m_markMany : Int32) (m_typed : Int32) (m_readAt : Int32) (m_readNumber : Int32) (m_undoMany : Int32) (m_lastGuesses : Int32) (m_above : Int64) (m_below : Int64) (m_refused : (Nat → Int32)) (m_codes : (Nat → Int32)) (m_noted : (Nat → Int32)) (m_marked : (Nat → Int32)) (m_masks : (Nat → Int32)) (m_text : (Nat → Int32)) (m_before : (Nat → Int32)) (m_ahead : (Nat → Int32)) (m_aside : (Nat → Int32)) (m_sure : (Nat → Int32)) (m_wrongs : (Nat → Int32)) (m_says : (Nat → Int32)) (m_evening : (Nat → Int32)) (m_images : (Nat → Int32)) (p1 : Int32) (p2 : Int32) (p3 : Int32) (p4 : Int32) {z : Int32} (hf : f_X11_answerBy m_words m_secretNow m_masks p1 p2 p3 p4 = some z) :
    Met l yX11_answerBy (Cond.code yX11_answerBy cX11_answerBy 6 (some .int) :: wsAll) rm_X11_answerBy (Pro [.ref a_m, .int p1, .int p2, .int p3, .int p4] D cI cB cT (wd_m a_m a_m_refused a_m_codes a_m_noted a_m_marked a_m_masks a_m_text a_m_before a_m_ahead a_m_aside a_m_sure a_m_wrongs a_m_says a_m_evening a_m_images cI cB cT m_words m_kindNow m_secretNow m_guessed m_left m_wrong m_noteMany m_markMany m_typed m_readAt m_readNumber m_undoMany m_lastGuesses m_above m_below m_refused m_codes m_noted m_marked m_masks m_text m_before m_ahead m_aside m_sure m_wrongs m_says m_evening m_images)) (Qr (some (.int z))) 0 0 (fun _ => False) := by
  refine ro_intro RX11 (by decide +kernel) rfl (Nat.le_of_ble_eq_true rfl) ?_
  intro p e s m below meth c ls CF hr hlk hG hP hl
  have hl : lv_has ls 6 [(0, .ref a_m), (1, .int p1), (2, .int p2), (3, .int p3), (4, .int p4)] := hl
  obtain ⟨hx, hb, hml, hown, hts⟩ := id CF
  unfold f_X11_answerBy at hf
  refine lv_aload_n hx hb dX11_answerBy_0 rfl (lv_at hl 0 rfl) ?_
  refine lv_aload_n hx hb dX11_answerBy_1 rfl (lv_at hl 0 rfl) ?_
  refine lv_iload_n hx hb dX11_answerBy_2 rfl (lv_at hl 2 rfl) ?_
  obtain ⟨o1, e2, hf⟩ := lp_bind hf
  refine ro_Vi (x := o1) (As := [.int p2]) (rest := [.ref a_m]) CF (c_X11_keptOf l D cI cB cT a_m a_m_refused a_m_codes a_m_noted a_m_marked a_m_masks a_m_text a_m_before a_m_ahead a_m_aside a_m_sure a_m_wrongs a_m_says a_m_evening a_m_images m_words m_kindNow m_secretNow m_guessed m_left m_wrong m_noteMany m_markMany m_typed m_readAt m_readNumber m_undoMany m_lastGuesses m_above m_below m_refused m_codes m_noted m_marked m_masks m_text m_before m_ahead m_aside m_sure m_wrongs m_says m_evening m_images p2 e2) ok_X11_keptOf wm_1151 ⟨rfl, rfl, Nat.le_of_ble_eq_true rfl, Nat.le_of_ble_eq_true rfl⟩ hG hP 0 9 vq_9 rfl ce_m_0 rfl hl.1 rfl (Nat.le_of_ble_eq_true rfl) ⟨Nat.zero_le _, Nat.zero_le _⟩ dX11_answerBy_3 ?_
  refine lv_iload hx hb dX11_answerBy_6 (lv_at hl 4 rfl) ?_
  obtain ⟨o3, e4, hf⟩ := lp_bind hf
  refine ro_Vi (x := o3) (As := [.int o1, .int p4]) (rest := []) CF (c_X11_maskOf l D cI cB cT a_m a_m_refused a_m_codes a_m_noted a_m_marked a_m_masks a_m_text a_m_before a_m_ahead a_m_aside a_m_sure a_m_wrongs a_m_says a_m_evening a_m_images m_words m_kindNow m_secretNow m_guessed m_left m_wrong m_noteMany m_markMany m_typed m_readAt m_readNumber m_undoMany m_lastGuesses m_above m_below m_refused m_codes m_noted m_marked m_masks m_text m_before m_ahead m_aside m_sure m_wrongs m_says m_evening m_images o1 p4 e4) ok_X11_maskOf wm_1155 ⟨rfl, rfl, Nat.le_of_ble_eq_true rfl, Nat.le_of_ble_eq_true rfl⟩ hG hP 0 9 vq_9 rfl ce_m_0 rfl hl.1 rfl (Nat.le_of_ble_eq_true rfl) ⟨Nat.zero_le _, Nat.zero_le _⟩ dX11_answerBy_8 ?_
  refine lv_istore (lv' := [(5, .int o3), (0, .ref a_m), (1, .int p1), (2, .int p2), (3, .int p3), (4, .int p4)]) hx hb dX11_answerBy_11 hl (by decide) rfl (fun ls hl => ?_)
  refine lv_iload_n hx hb dX11_answerBy_13 rfl (lv_at hl 2 rfl) ?_
  by_cases c5 : p1 = (1 : Int32)
  · have hf := tk c5 hf
    refine lv_tableIn (off := 34) (tgt := 48) hx hb dX11_answerBy_14 (by rw [c5]; decide) (by rw [c5]; decide) (by rw [c5]; decide) (by decide) ?_
    refine lv_aload_n hx hb dX11_answerBy_48 rfl (lv_at hl 1 rfl) ?_
    refine lv_iload_n hx hb dX11_answerBy_49 rfl (lv_at hl 3 rfl) ?_
    refine lv_iload hx hb dX11_answerBy_50 (lv_at hl 5 rfl) ?_
    obtain ⟨o6, e7, hf⟩ := lp_bind hf
    refine ro_Vi (x := o6) (As := [.int p2, .int p4]) (rest := []) CF (c_X11_slippery l D cI cB cT a_m a_m_refused a_m_codes a_m_noted a_m_marked a_m_masks a_m_text a_m_before a_m_ahead a_m_aside a_m_sure a_m_wrongs a_m_says a_m_evening a_m_images m_words m_kindNow m_secretNow m_guessed m_left m_wrong m_noteMany m_markMany m_typed m_readAt m_readNumber m_undoMany m_lastGuesses m_above m_below m_refused m_codes m_noted m_marked m_masks m_text m_before m_ahead m_aside m_sure m_wrongs m_says m_evening m_images p2 p4 e7) ok_X11_slippery wm_1159 ⟨rfl, rfl, Nat.le_of_ble_eq_true rfl, Nat.le_of_ble_eq_true rfl⟩ hG hP 0 9 vq_9 rfl ce_m_0 rfl hl.1 rfl (Nat.le_of_ble_eq_true rfl) ⟨Nat.zero_le _, Nat.zero_le _⟩ dX11_answerBy_52 ?_
    obtain rfl := Option.some.inj hf
    exact ro_iret CF hr hlk dX11_answerBy_55
  · have hf := fk c5 hf
    by_cases c8 : p1 = (2 : Int32)
    · have hf := tk c8 hf
      refine lv_tableIn (off := 42) (tgt := 56) hx hb dX11_answerBy_14 (by rw [c8]; decide) (by rw [c8]; decide) (by rw [c8]; decide) (by decide) ?_
      refine lv_aload_n hx hb dX11_answerBy_56 rfl (lv_at hl 1 rfl) ?_
      refine lv_iload_n hx hb dX11_answerBy_57 rfl (lv_at hl 3 rfl) ?_
      refine lv_iload hx hb dX11_answerBy_58 (lv_at hl 5 rfl) ?_
      obtain ⟨o9, e10, hf⟩ := lp_bind hf
      refine ro_Vi (x := o9) (As := [.int p2, .int p4]) (rest := []) CF (c_X11_meanly l D cI cB cT a_m a_m_refused a_m_codes a_m_noted a_m_marked a_m_masks a_m_text a_m_before a_m_ahead a_m_aside a_m_sure a_m_wrongs a_m_says a_m_evening a_m_images m_words m_kindNow m_secretNow m_guessed m_left m_wrong m_noteMany m_markMany m_typed m_readAt m_readNumber m_undoMany m_lastGuesses m_above m_below m_refused m_codes m_noted m_marked m_masks m_text m_before m_ahead m_aside m_sure m_wrongs m_says m_evening m_images p2 p4 e10) ok_X11_meanly wm_1167 ⟨rfl, rfl, Nat.le_of_ble_eq_true rfl, Nat.le_of_ble_eq_true rfl⟩ hG hP 0 9 vq_9 rfl ce_m_0 rfl hl.1 rfl (Nat.le_of_ble_eq_true rfl) ⟨Nat.zero_le _, Nat.zero_le _⟩ dX11_answerBy_60 ?_
      obtain rfl := Option.some.inj hf
      exact ro_iret CF hr hlk dX11_answerBy_63
    · have hf := fk c8 hf
      by_cases c11 : p1 = (3 : Int32)
      · have hf := tk c11 hf
        refine lv_tableIn (off := 50) (tgt := 64) hx hb dX11_answerBy_14 (by rw [c11]; decide) (by rw [c11]; decide) (by rw [c11]; decide) (by decide) ?_
        refine lv_aload_n hx hb dX11_answerBy_64 rfl (lv_at hl 1 rfl) ?_
        refine lv_iload_n hx hb dX11_answerBy_65 rfl (lv_at hl 3 rfl) ?_
        refine lv_iload hx hb dX11_answerBy_66 (lv_at hl 5 rfl) ?_
        obtain ⟨o12, e13, hf⟩ := lp_bind hf
        refine ro_Vi (x := o12) (As := [.int p2, .int p4]) (rest := []) CF (c_X11_mildly l D cI cB cT a_m a_m_refused a_m_codes a_m_noted a_m_marked a_m_masks a_m_text a_m_before a_m_ahead a_m_aside a_m_sure a_m_wrongs a_m_says a_m_evening a_m_images m_words m_kindNow m_secretNow m_guessed m_left m_wrong m_noteMany m_markMany m_typed m_readAt m_readNumber m_undoMany m_lastGuesses m_above m_below m_refused m_codes m_noted m_marked m_masks m_text m_before m_ahead m_aside m_sure m_wrongs m_says m_evening m_images p2 p4 e13) ok_X11_mildly wm_1171 ⟨rfl, rfl, Nat.le_of_ble_eq_true rfl, Nat.le_of_ble_eq_true rfl⟩ hG hP 0 9 vq_9 rfl ce_m_0 rfl hl.1 rfl (Nat.le_of_ble_eq_true rfl) ⟨Nat.zero_le _, Nat.zero_le _⟩ dX11_answerBy_68 ?_
        obtain rfl := Option.some.inj hf
        exact ro_iret CF hr hlk dX11_answerBy_71
      · have hf := fk c11 hf
        by_cases c14 : p1 = (4 : Int32)
        · have hf := tk c14 hf
          refine lv_tableIn (off := 58) (tgt := 72) hx hb dX11_answerBy_14 (by rw [c14]; decide) (by rw [c14]; decide) (by rw [c14]; decide) (by decide) ?_
          refine lv_iload_n hx hb dX11_answerBy_72 rfl (lv_at hl 4 rfl) ?_
          refine lv_iconst (v := (2 : Int32)) hx hb dX11_answerBy_73 (by decide) ?_
          refine lv_irem hx hb dX11_answerBy_74 (by decide) ?_
          refine lv_iconst (v := (1 : Int32)) hx hb dX11_answerBy_75 (by decide) ?_
          refine lv_icmp_ne (tgt := 89) hx hb dX11_answerBy_76 (by decide) (fun c15 => ?_) (fun c15 => ?_)
          · have hf := fk c15 hf
            refine lv_iload hx hb dX11_answerBy_89 (lv_at hl 0 rfl) ?_
            obtain rfl := Option.some.inj hf
            exact ro_iret CF hr hlk dX11_answerBy_91
          · have hf := tk c15 hf
            refine lv_aload_n hx hb dX11_answerBy_79 rfl (lv_at hl 1 rfl) ?_
            refine lv_iload_n hx hb dX11_answerBy_80 rfl (lv_at hl 3 rfl) ?_
            refine lv_iload hx hb dX11_answerBy_81 (lv_at hl 5 rfl) ?_
            obtain ⟨o16, e17, hf⟩ := lp_bind hf
            refine ro_Vi (x := o16) (As := [.int p2, .int p4]) (rest := []) CF (c_X11_meanly l D cI cB cT a_m a_m_refused a_m_codes a_m_noted a_m_marked a_m_masks a_m_text a_m_before a_m_ahead a_m_aside a_m_sure a_m_wrongs a_m_says a_m_evening a_m_images m_words m_kindNow m_secretNow m_guessed m_left m_wrong m_noteMany m_markMany m_typed m_readAt m_readNumber m_undoMany m_lastGuesses m_above m_below m_refused m_codes m_noted m_marked m_masks m_text m_before m_ahead m_aside m_sure m_wrongs m_says m_evening m_images p2 p4 e17) ok_X11_meanly wm_1167 ⟨rfl, rfl, Nat.le_of_ble_eq_true rfl, Nat.le_of_ble_eq_true rfl⟩ hG hP 0 9 vq_9 rfl ce_m_0 rfl hl.1 rfl (Nat.le_of_ble_eq_true rfl) ⟨Nat.zero_le _, Nat.zero_le _⟩ dX11_answerBy_83 ?_
            refine lv_goto (tgt := 91) hx hb dX11_answerBy_86 (by decide) ?_
            obtain rfl := Option.some.inj hf
            exact ro_iret CF hr hlk dX11_answerBy_91
        · have hf := fk c14 hf
          by_cases c18 : p1 = (5 : Int32)
          · have hf := tk c18 hf
            refine lv_tableIn (off := 78) (tgt := 92) hx hb dX11_answerBy_14 (by rw [c18]; decide) (by rw [c18]; decide) (by rw [c18]; decide) (by decide) ?_
            refine lv_iconst (v := (2 : Int32)) hx hb dX11_answerBy_92 (by decide) ?_
            refine lv_aload_n hx hb dX11_answerBy_93 rfl (lv_at hl 1 rfl) ?_
            refine lv_iload_n hx hb dX11_answerBy_94 rfl (lv_at hl 3 rfl) ?_
            refine lv_iload hx hb dX11_answerBy_95 (lv_at hl 5 rfl) ?_
            refine lv_iload hx hb dX11_answerBy_97 (lv_at hl 0 rfl) ?_
            obtain ⟨o19, e20, hf⟩ := lp_bind hf
            refine ro_Vi (x := o19) (As := [.int p2, .int p4, .int o3]) (rest := [.int (2 : Int32)]) CF (c_X11_haveMask l D cI cB cT a_m a_m_refused a_m_codes a_m_noted a_m_marked a_m_masks a_m_text a_m_before a_m_ahead a_m_aside a_m_sure a_m_wrongs a_m_says a_m_evening a_m_images m_words m_kindNow m_secretNow m_guessed m_left m_wrong m_noteMany m_markMany m_typed m_readAt m_readNumber m_undoMany m_lastGuesses m_above m_below m_refused m_codes m_noted m_marked m_masks m_text m_before m_ahead m_aside m_sure m_wrongs m_says m_evening m_images p2 p4 o3 e20) ok_X11_haveMask wm_1163 ⟨rfl, rfl, Nat.le_of_ble_eq_true rfl, Nat.le_of_ble_eq_true rfl⟩ hG hP 0 9 vq_9 rfl ce_m_0 rfl hl.1 rfl (Nat.le_of_ble_eq_true rfl) ⟨Nat.zero_le _, Nat.zero_le _⟩ dX11_answerBy_99 ?_
            refine lv_imul hx hb dX11_answerBy_102 ?_
            refine lv_iload_n hx hb dX11_answerBy_103 rfl (lv_at hl 3 rfl) ?_
            obtain ⟨o21, e22, hf⟩ := lp_bind hf
            refine ro_Si (x := o21) (As := [.int p2]) (rest := [.int ((2 : Int32) * o19)]) CF (c_X11_bits l D cI cB cT p2 e22) ok_X11_bits wm_1144 ⟨rfl, rfl, Nat.le_of_ble_eq_true rfl, Nat.le_of_ble_eq_true rfl⟩ hG wd_E_P rfl hl.1 rfl (Nat.le_of_ble_eq_true rfl) ⟨Nat.zero_le _, Nat.zero_le _⟩ dX11_answerBy_104 ?_
            refine lv_icmp_lt (tgt := 115) hx hb dX11_answerBy_107 (by decide) (fun c23 => ?_) (fun c23 => ?_)
            · have hf := tk c23 hf
              refine lv_aload_n hx hb dX11_answerBy_115 rfl (lv_at hl 1 rfl) ?_
              refine lv_iload_n hx hb dX11_answerBy_116 rfl (lv_at hl 3 rfl) ?_
              refine lv_iload hx hb dX11_answerBy_117 (lv_at hl 5 rfl) ?_
              obtain ⟨o24, e25, hf⟩ := lp_bind hf
              refine ro_Vi (x := o24) (As := [.int p2, .int p4]) (rest := []) CF (c_X11_slippery l D cI cB cT a_m a_m_refused a_m_codes a_m_noted a_m_marked a_m_masks a_m_text a_m_before a_m_ahead a_m_aside a_m_sure a_m_wrongs a_m_says a_m_evening a_m_images m_words m_kindNow m_secretNow m_guessed m_left m_wrong m_noteMany m_markMany m_typed m_readAt m_readNumber m_undoMany m_lastGuesses m_above m_below m_refused m_codes m_noted m_marked m_masks m_text m_before m_ahead m_aside m_sure m_wrongs m_says m_evening m_images p2 p4 e25) ok_X11_slippery wm_1159 ⟨rfl, rfl, Nat.le_of_ble_eq_true rfl, Nat.le_of_ble_eq_true rfl⟩ hG hP 0 9 vq_9 rfl ce_m_0 rfl hl.1 rfl (Nat.le_of_ble_eq_true rfl) ⟨Nat.zero_le _, Nat.zero_le _⟩ dX11_answerBy_119 ?_
              obtain rfl := Option.some.inj hf
              exact ro_iret CF hr hlk dX11_answerBy_122
            · have hf := fk c23 hf
              refine lv_iload hx hb dX11_answerBy_110 (lv_at hl 0 rfl) ?_
              refine lv_goto (tgt := 122) hx hb dX11_answerBy_112 (by decide) ?_
              obtain rfl := Option.some.inj hf
              exact ro_iret CF hr hlk dX11_answerBy_122
          · have hf := fk c18 hf
            refine lv_tableOut (tgt := 123) hx hb dX11_answerBy_14 (sw_out (fun z h1 h2 h3 => ?_)) (by decide) ?_
            · have h4 : z = 1 ∨ z = 2 ∨ z = 3 ∨ z = 4 ∨ z = 5 := by omega
              rcases h4 with h4 | h4 | h4 | h4 | h4
              · exact c5 (Int32.toInt_inj.mp (by rw [h3, h4]; decide))
              · exact c8 (Int32.toInt_inj.mp (by rw [h3, h4]; decide))
              · exact c11 (Int32.toInt_inj.mp (by rw [h3, h4]; decide))
              · exact c14 (Int32.toInt_inj.mp (by rw [h3, h4]; decide))
              · exact c18 (Int32.toInt_inj.mp (by rw [h3, h4]; decide))
            · refine lv_iload hx hb dX11_answerBy_123 (lv_at hl 0 rfl) ?_
              obtain rfl := Option.some.inj hf
              exact ro_iret CF hr hlk dX11_answerBy_125
end M_X11_answerBy
section M_X11_partOf
variable {p : Program} {l : Launch} {e : Env} {s : State} {m : MethodId} {args : Array Value} {below : List Frame} {meth : Method} {c : Code} {Q : State → Prop} {A : Nat → Prop} {D : va_G} {cI cB cT : ClassId}
variable {a_m a_m_refused a_m_codes a_m_noted a_m_marked a_m_masks a_m_text a_m_before a_m_ahead a_m_aside a_m_sure a_m_wrongs a_m_says a_m_evening a_m_images : Nat}
def rm_X11_partOf : Room := { frames := 1, cells := 0, slots := 0, locals := 22 }
def B_X11_partOf_6 (m_words : Int32) (m_masks : (Nat → Int32)) (x1 : Int32) (x2 : Int32) (x3 : Int32) (x4 : Int32) (x5 : Int32) : Option ((Int32 × Int32) ⊕ (Int32)) := (if m_words ≤ x5 then some (Sum.inr x4) else ((f_X11_has x1 x5).bind fun o2 => (if o2 = 0 then some (Sum.inl ((x4 ||| (0 : Int32)), (x5 + (1 : Int32)))) else ((f_X11_maskOf m_masks x5 x2).bind fun o5 => (if o5 = x3 then some (Sum.inl ((x4 ||| ((1 : Int32) <<< (x5 &&& 31))), (x5 + (1 : Int32)))) else some (Sum.inl ((x4 ||| (0 : Int32)), (x5 + (1 : Int32)))))))))
def f_X11_partOf (m_words : Int32) (m_masks : (Nat → Int32)) (p1 : Int32) (p2 : Int32) (p3 : Int32) : Option (Int32) := ((lp (fun v => B_X11_partOf_6 m_words m_masks p1 p2 p3 v.1 v.2) KN ((0 : Int32), (0 : Int32))).bind fun o8 => some o8)
set_option maxHeartbeats 4000000 in
set_option maxRecDepth 100000 in
theorem B_X11_partOf_6_W {m_words : Int32} {m_kindNow : Int32} {m_secretNow : Int32} {m_guessed : Int32} {m_left : Int32} {m_wrong : Int32} {m_noteMany : Int32} {m_markMany : Int32} {m_typed : Int32} {m_readAt : Int32} {m_readNumber : Int32} {m_undoMany : Int32} {m_lastGuesses : Int32} {m_above : Int64} {m_below : Int64} {m_refused : (Nat → Int32)} {m_codes : (Nat → Int32)} {m_noted : (Nat → Int32)} {m_marked : (Nat → Int32)} {m_masks : (Nat → Int32)} {m_text : (Nat → Int32)} {m_before : (Nat → Int32)} {m_ahead : (Nat → Int32)} {m_aside : (Nat → Int32)} {m_sure : (Nat → Int32)} {m_wrongs : (Nat → Int32)} {m_says : (Nat → Int32)} {m_evening : (Nat → Int32)} {m_images : (Nat → Int32)} {x1 : Int32} {x2 : Int32} {x3 : Int32} {x4 : Int32} {x5 : Int32} (CF : CallFix p m c cX11_partOf 6 s args wsAll RX11) (hG : Gd D cI cB cT s) {z : (Int32 × Int32) ⊕ (Int32)} (hk : ∀ (v' : Int32 × Int32) (ls : Array Slot), z = Sum.inl v' → lv_has ls 6 [(0, .ref a_m), (1, .int x1), (2, .int x2), (3, .int x3), (4, .int (v'.1)), (5, .int (v'.2))] → W p l e rm_X11_partOf s m args below meth c s.heap [] 0 0 Q (F0 m 6 ls [])) (hx0 : ∀ (o' : Int32) (ls : Array Slot), z = Sum.inr o' → lv_has ls 6 [(4, .int (o'))] → W p l e rm_X11_partOf s m args below meth c s.heap [] 0 0 Q (F0 m 54 ls [])) {ls : Array Slot} (hP : va_P D vwCl (wd_m a_m a_m_refused a_m_codes a_m_noted a_m_marked a_m_masks a_m_text a_m_before a_m_ahead a_m_aside a_m_sure a_m_wrongs a_m_says a_m_evening a_m_images cI cB cT m_words m_kindNow m_secretNow m_guessed m_left m_wrong m_noteMany m_markMany m_typed m_readAt m_readNumber m_undoMany m_lastGuesses m_above m_below m_refused m_codes m_noted m_marked m_masks m_text m_before m_ahead m_aside m_sure m_wrongs m_says m_evening m_images) s.heap) (hl : lv_has ls 6 [(0, .ref a_m), (1, .int x1), (2, .int x2), (3, .int x3), (4, .int x4), (5, .int x5)]) (hf : B_X11_partOf_6 m_words m_masks x1 x2 x3 x4 x5 = some z) : W p l e rm_X11_partOf s m args below meth c s.heap [] 0 0 Q (F0 m 6 ls []) := by
  obtain ⟨hx, hb, hml, hown, hts⟩ := id CF
  unfold B_X11_partOf_6 at hf
  refine lv_iload hx hb dX11_partOf_6 (lv_at hl 5 rfl) ?_
  refine lv_aload_n hx hb dX11_partOf_8 rfl (lv_at hl 0 rfl) ?_
  refine va_get (D := D) (ci := 9) (v := .int m_words) (C := RX11) (T := TX11) (N := 29) hx hb hts fin_X11 hown hG.1 hP 0 ce_m_0 vq_9 1 (by decide) (hts _ wm_923) (fun _ h9 => h9) rfl dX11_partOf_9 ?_
  refine lv_icmp_ge (tgt := 54) hx hb dX11_partOf_12 (by decide) (fun c1 => ?_) (fun c1 => ?_)
  · have hf := tk c1 hf
    exact hx0 _ _ (Option.some.inj hf).symm (lv_sub hl [4] rfl)
  · have hf := fk c1 hf
    refine lv_iload hx hb dX11_partOf_15 (lv_at hl 4 rfl) ?_
    refine lv_iload_n hx hb dX11_partOf_17 rfl (lv_at hl 1 rfl) ?_
    refine lv_iload hx hb dX11_partOf_18 (lv_at hl 5 rfl) ?_
    obtain ⟨o2, e3, hf⟩ := lp_bind hf
    refine ro_Si (x := o2) (As := [.int x1, .int x5]) (rest := [.int x4]) CF (c_X11_has l D cI cB cT x1 x5 e3) ok_X11_has wm_1133 ⟨rfl, rfl, Nat.le_of_ble_eq_true rfl, Nat.le_of_ble_eq_true rfl⟩ hG wd_E_P rfl hl.1 rfl (Nat.le_of_ble_eq_true rfl) ⟨Nat.zero_le _, Nat.zero_le _⟩ dX11_partOf_20 ?_
    refine lv_if_eq (tgt := 44) hx hb dX11_partOf_23 (by decide) (fun c4 => ?_) (fun c4 => ?_)
    · have hf := tk c4 hf
      refine lv_iconst (v := (0 : Int32)) hx hb dX11_partOf_44 (by decide) ?_
      refine lv_ior hx hb dX11_partOf_45 ?_
      refine lv_istore (lv' := [(4, .int (x4 ||| (0 : Int32))), (0, .ref a_m), (1, .int x1), (2, .int x2), (3, .int x3), (5, .int x5)]) hx hb dX11_partOf_46 hl (by decide) rfl (fun ls hl => ?_)
      refine lv_iinc (v := (x5 + (1 : Int32))) (lv' := [(5, .int (x5 + (1 : Int32))), (4, .int (x4 ||| (0 : Int32))), (0, .ref a_m), (1, .int x1), (2, .int x2), (3, .int x3)]) hx hb dX11_partOf_48 hl (k := 5) rfl (iinc_eq (by decide)) (by decide) rfl (fun ls hl => ?_)
      refine lv_goto (tgt := 6) hx hb dX11_partOf_51 (by decide) ?_
      exact hk _ _ (Option.some.inj hf).symm (lv_sub hl [2, 3, 4, 5, 1, 0] rfl)
    · have hf := fk c4 hf
      refine lv_aload_n hx hb dX11_partOf_26 rfl (lv_at hl 0 rfl) ?_
      refine lv_iload hx hb dX11_partOf_27 (lv_at hl 5 rfl) ?_
      refine lv_iload_n hx hb dX11_partOf_29 rfl (lv_at hl 2 rfl) ?_
      obtain ⟨o5, e6, hf⟩ := lp_bind hf
      refine ro_Vi (x := o5) (As := [.int x5, .int x2]) (rest := [.int x4]) CF (c_X11_maskOf l D cI cB cT a_m a_m_refused a_m_codes a_m_noted a_m_marked a_m_masks a_m_text a_m_before a_m_ahead a_m_aside a_m_sure a_m_wrongs a_m_says a_m_evening a_m_images m_words m_kindNow m_secretNow m_guessed m_left m_wrong m_noteMany m_markMany m_typed m_readAt m_readNumber m_undoMany m_lastGuesses m_above m_below m_refused m_codes m_noted m_marked m_masks m_text m_before m_ahead m_aside m_sure m_wrongs m_says m_evening m_images x5 x2 e6) ok_X11_maskOf wm_1155 ⟨rfl, rfl, Nat.le_of_ble_eq_true rfl, Nat.le_of_ble_eq_true rfl⟩ hG hP 0 9 vq_9 rfl ce_m_0 rfl hl.1 rfl (Nat.le_of_ble_eq_true rfl) ⟨Nat.zero_le _, Nat.zero_le _⟩ dX11_partOf_30 ?_
      refine lv_iload_n hx hb dX11_partOf_33 rfl (lv_at hl 3 rfl) ?_
      refine lv_icmp_ne (tgt := 44) hx hb dX11_partOf_34 (by decide) (fun c7 => ?_) (fun c7 => ?_)
      · have hf := fk c7 hf
        refine lv_iconst (v := (0 : Int32)) hx hb dX11_partOf_44 (by decide) ?_
        refine lv_ior hx hb dX11_partOf_45 ?_
        refine lv_istore (lv' := [(4, .int (x4 ||| (0 : Int32))), (0, .ref a_m), (1, .int x1), (2, .int x2), (3, .int x3), (5, .int x5)]) hx hb dX11_partOf_46 hl (by decide) rfl (fun ls hl => ?_)
        refine lv_iinc (v := (x5 + (1 : Int32))) (lv' := [(5, .int (x5 + (1 : Int32))), (4, .int (x4 ||| (0 : Int32))), (0, .ref a_m), (1, .int x1), (2, .int x2), (3, .int x3)]) hx hb dX11_partOf_48 hl (k := 5) rfl (iinc_eq (by decide)) (by decide) rfl (fun ls hl => ?_)
        refine lv_goto (tgt := 6) hx hb dX11_partOf_51 (by decide) ?_
        exact hk _ _ (Option.some.inj hf).symm (lv_sub hl [2, 3, 4, 5, 1, 0] rfl)
      · have hf := tk c7 hf
        refine lv_iconst (v := (1 : Int32)) hx hb dX11_partOf_37 (by decide) ?_
        refine lv_iload hx hb dX11_partOf_38 (lv_at hl 5 rfl) ?_
        refine lv_ishl hx hb dX11_partOf_40 ?_
        refine lv_goto (tgt := 45) hx hb dX11_partOf_41 (by decide) ?_
        refine lv_ior hx hb dX11_partOf_45 ?_
        refine lv_istore (lv' := [(4, .int (x4 ||| ((1 : Int32) <<< (x5 &&& 31)))), (0, .ref a_m), (1, .int x1), (2, .int x2), (3, .int x3), (5, .int x5)]) hx hb dX11_partOf_46 hl (by decide) rfl (fun ls hl => ?_)
        refine lv_iinc (v := (x5 + (1 : Int32))) (lv' := [(5, .int (x5 + (1 : Int32))), (4, .int (x4 ||| ((1 : Int32) <<< (x5 &&& 31)))), (0, .ref a_m), (1, .int x1), (2, .int x2), (3, .int x3)]) hx hb dX11_partOf_48 hl (k := 5) rfl (iinc_eq (by decide)) (by decide) rfl (fun ls hl => ?_)
        refine lv_goto (tgt := 6) hx hb dX11_partOf_51 (by decide) ?_
        exact hk _ _ (Option.some.inj hf).symm (lv_sub hl [2, 3, 4, 5, 1, 0] rfl)
set_option maxHeartbeats 4000000 in
set_option maxRecDepth 100000 in
theorem L_X11_partOf_6_W {m_words : Int32} {m_kindNow : Int32} {m_secretNow : Int32} {m_guessed : Int32} {m_left : Int32} {m_wrong : Int32} {m_noteMany : Int32} {m_markMany : Int32} {m_typed : Int32} {m_readAt : Int32} {m_readNumber : Int32} {m_undoMany : Int32} {m_lastGuesses : Int32} {m_above : Int64} {m_below : Int64} {m_refused : (Nat → Int32)} {m_codes : (Nat → Int32)} {m_noted : (Nat → Int32)} {m_marked : (Nat → Int32)} {m_masks : (Nat → Int32)} {m_text : (Nat → Int32)} {m_before : (Nat → Int32)} {m_ahead : (Nat → Int32)} {m_aside : (Nat → Int32)} {m_sure : (Nat → Int32)} {m_wrongs : (Nat → Int32)} {m_says : (Nat → Int32)} {m_evening : (Nat → Int32)} {m_images : (Nat → Int32)} {x1 : Int32} {x2 : Int32} {x3 : Int32} (CF : CallFix p m c cX11_partOf 6 s args wsAll RX11) (hG : Gd D cI cB cT s) {o : Int32} (hx0 : ∀ (ls : Array Slot), lv_has ls 6 [(4, .int o)] → W p l e rm_X11_partOf s m args below meth c s.heap [] 0 0 Q (F0 m 54 ls [])) : ∀ (n : Nat) (x4 : Int32) (x5 : Int32) (ls : Array Slot), va_P D vwCl (wd_m a_m a_m_refused a_m_codes a_m_noted a_m_marked a_m_masks a_m_text a_m_before a_m_ahead a_m_aside a_m_sure a_m_wrongs a_m_says a_m_evening a_m_images cI cB cT m_words m_kindNow m_secretNow m_guessed m_left m_wrong m_noteMany m_markMany m_typed m_readAt m_readNumber m_undoMany m_lastGuesses m_above m_below m_refused m_codes m_noted m_marked m_masks m_text m_before m_ahead m_aside m_sure m_wrongs m_says m_evening m_images) s.heap → lv_has ls 6 [(0, .ref a_m), (1, .int x1), (2, .int x2), (3, .int x3), (4, .int x4), (5, .int x5)] → lp (fun v => B_X11_partOf_6 m_words m_masks x1 x2 x3 v.1 v.2) n (x4, x5) = some o → W p l e rm_X11_partOf s m args below meth c s.heap [] 0 0 Q (F0 m 6 ls []) := by
  intro n
  induction n with
  | zero =>
    intro x4 x5 ls hP hl hf
    exact (lp_zero hf).elim
  | succ n ih =>
    intro x4 x5 ls hP hl hf
    obtain ⟨z, hz, hf⟩ := lp_succ hf
    refine B_X11_partOf_6_W CF hG ?_ ?_ hP hl hz
    · intro v' ls ez hl
      rcases hf with ⟨v2, ev, hf⟩ | ev
      · cases Sum.inl.inj (ez.symm.trans ev)
        exact ih v'.1 v'.2 ls hP hl hf
      · exact (lp_lr (ez.symm.trans ev)).elim
    · intro o' ls ez hl
      rcases hf with ⟨v2, ev, hf⟩ | ev
      · exact (lp_lr (ev.symm.trans ez)).elim
      · cases Sum.inr.inj (ez.symm.trans ev)
        exact hx0 ls  hl
set_option maxHeartbeats 4000000 in
set_option maxRecDepth 100000 in
theorem c_X11_partOf (l : Launch) (D : va_G) (cI cB cT : ClassId) (a_m a_m_refused a_m_codes a_m_noted a_m_marked a_m_masks a_m_text a_m_before a_m_ahead a_m_aside a_m_sure a_m_wrongs a_m_says a_m_evening a_m_images : Nat) (m_words : Int32) (m_kindNow : Int32) (m_secretNow : Int32) (m_guessed : Int32) (m_left : Int32) (m_wrong : Int32) (m_noteMany : Int32) (m_markMany : Int32) (m_typed : Int32) (m_readAt : Int32) (m_readNumber : Int32) (m_undoMany : Int32) (m_lastGuesses : Int32) (m_above : Int64) (m_below : Int64) (m_refused : (Nat → Int32)) (m_codes : (Nat → Int32)) (m_noted : (Nat → Int32)) (m_marked : (Nat → Int32)) (m_masks : (Nat → Int32)) (m_text : (Nat → Int32)) (m_before : (Nat → Int32)) (m_ahead : (Nat → Int32)) (m_aside : (Nat → Int32)) (m_sure : (Nat → Int32)) (m_wrongs : (Nat → Int32)) (m_says : (Nat → Int32)) (m_evening : (Nat → Int32)) (m_images : (Nat → Int32)) (p1 : Int32) (p2 : Int32) (p3 : Int32) {z : Int32} (hf : f_X11_partOf m_words m_masks p1 p2 p3 = some z) :
    Met l yX11_partOf (Cond.code yX11_partOf cX11_partOf 6 (some .int) :: wsAll) rm_X11_partOf (Pro [.ref a_m, .int p1, .int p2, .int p3] D cI cB cT (wd_m a_m a_m_refused a_m_codes a_m_noted a_m_marked a_m_masks a_m_text a_m_before a_m_ahead a_m_aside a_m_sure a_m_wrongs a_m_says a_m_evening a_m_images cI cB cT m_words m_kindNow m_secretNow m_guessed m_left m_wrong m_noteMany m_markMany m_typed m_readAt m_readNumber m_undoMany m_lastGuesses m_above m_below m_refused m_codes m_noted m_marked m_masks m_text m_before m_ahead m_aside m_sure m_wrongs m_says m_evening m_images)) (Qr (some (.int z))) 0 0 (fun _ => False) := by
  refine ro_intro RX11 (by decide +kernel) rfl (Nat.le_of_ble_eq_true rfl) ?_
  intro p e s m below meth c ls CF hr hlk hG hP hl
  have hl : lv_has ls 6 [(0, .ref a_m), (1, .int p1), (2, .int p2), (3, .int p3)] := hl
  obtain ⟨hx, hb, hml, hown, hts⟩ := id CF
  unfold f_X11_partOf at hf
  refine lv_iconst (v := (0 : Int32)) hx hb dX11_partOf_0 (by decide) ?_
  refine lv_istore (lv' := [(4, .int (0 : Int32)), (0, .ref a_m), (1, .int p1), (2, .int p2), (3, .int p3)]) hx hb dX11_partOf_1 hl (by decide) rfl (fun ls hl => ?_)
  refine lv_iconst (v := (0 : Int32)) hx hb dX11_partOf_3 (by decide) ?_
  refine lv_istore (lv' := [(5, .int (0 : Int32)), (4, .int (0 : Int32)), (0, .ref a_m), (1, .int p1), (2, .int p2), (3, .int p3)]) hx hb dX11_partOf_4 hl (by decide) rfl (fun ls hl => ?_)
  obtain ⟨o8, e9, hf⟩ := lp_bind hf
  refine L_X11_partOf_6_W CF hG ?_ KN _ _ _ hP (lv_sub hl [2, 3, 4, 5, 1, 0] rfl) e9
  intro ls hl
  refine lv_iload hx hb dX11_partOf_54 (lv_at hl 0 rfl) ?_
  obtain rfl := Option.some.inj hf
  exact ro_iret CF hr hlk dX11_partOf_56
end M_X11_partOf
section M_X11_guessesBy
variable {p : Program} {l : Launch} {e : Env} {s : State} {m : MethodId} {args : Array Value} {below : List Frame} {meth : Method} {c : Code} {Q : State → Prop} {A : Nat → Prop} {D : va_G} {cI cB cT : ClassId}
variable {a_m a_m_refused a_m_codes a_m_noted a_m_marked a_m_masks a_m_text a_m_before a_m_ahead a_m_aside a_m_sure a_m_wrongs a_m_says a_m_evening a_m_images : Nat}
def rm_X11_guessesBy : Room := { frames := 5, cells := 0, slots := 0, locals := 120 }
def f_X11_guessesBy (m_words : Int32) (m_secretNow : Int32) (m_guessed : Int32) (m_left : Int32) (m_wrong : Int32) (m_masks : (Nat → Int32)) (p1 : Int32) (p2 : Int32) : Option (Int32 × Int32 × Int32 × Int32) := ((f_X11_bits m_guessed).bind fun o1 => ((f_X11_answerBy m_words m_secretNow m_masks p1 m_left o1 p2).bind fun o3 => ((f_X11_partOf m_words m_masks m_left p2 o3).bind fun o5 => (if o3 = 0 then some (o3, (m_guessed ||| ((1 : Int32) <<< (p2 &&& 31))), o5, (m_wrong + (1 : Int32))) else some (o3, (m_guessed ||| ((1 : Int32) <<< (p2 &&& 31))), o5, (m_wrong + (0 : Int32)))))))
set_option maxHeartbeats 4000000 in
set_option maxRecDepth 100000 in
theorem c_X11_guessesBy (l : Launch) (D : va_G) (cI cB cT : ClassId) (sz : Nat) (a_m a_m_refused a_m_codes a_m_noted a_m_marked a_m_masks a_m_text a_m_before a_m_ahead a_m_aside a_m_sure a_m_wrongs a_m_says a_m_evening a_m_images : Nat) (m_words : Int32) (m_kindNow : Int32) (m_secretNow : Int32) (m_guessed : Int32) (m_left : Int32) (m_wrong : Int32) (m_noteMany : Int32) (m_markMany : Int32) (m_typed : Int32) (m_readAt : Int32) (m_readNumber : Int32) (m_undoMany : Int32) (m_lastGuesses : Int32) (m_above : Int64) (m_below : Int64) (m_refused : (Nat → Int32)) (m_codes : (Nat → Int32)) (m_noted : (Nat → Int32)) (m_marked : (Nat → Int32)) (m_masks : (Nat → Int32)) (m_text : (Nat → Int32)) (m_before : (Nat → Int32)) (m_ahead : (Nat → Int32)) (m_aside : (Nat → Int32)) (m_sure : (Nat → Int32)) (m_wrongs : (Nat → Int32)) (m_says : (Nat → Int32)) (m_evening : (Nat → Int32)) (m_images : (Nat → Int32)) (p1 : Int32) (p2 : Int32) {z : Int32 × Int32 × Int32 × Int32} (hf : f_X11_guessesBy m_words m_secretNow m_guessed m_left m_wrong m_masks p1 p2 = some z) :
    Met l yX11_guessesBy (Cond.code yX11_guessesBy cX11_guessesBy 4 (some .int) :: wsAll) rm_X11_guessesBy (Pwr [.ref a_m, .int p1, .int p2] D cI cB cT (wd_m a_m a_m_refused a_m_codes a_m_noted a_m_marked a_m_masks a_m_text a_m_before a_m_ahead a_m_aside a_m_sure a_m_wrongs a_m_says a_m_evening a_m_images cI cB cT m_words m_kindNow m_secretNow m_guessed m_left m_wrong m_noteMany m_markMany m_typed m_readAt m_readNumber m_undoMany m_lastGuesses m_above m_below m_refused m_codes m_noted m_marked m_masks m_text m_before m_ahead m_aside m_sure m_wrongs m_says m_evening m_images) sz) (Qw (some (.int z.1)) D (wd_m a_m a_m_refused a_m_codes a_m_noted a_m_marked a_m_masks a_m_text a_m_before a_m_ahead a_m_aside a_m_sure a_m_wrongs a_m_says a_m_evening a_m_images cI cB cT m_words m_kindNow m_secretNow z.2.1 z.2.2.1 z.2.2.2 m_noteMany m_markMany m_typed m_readAt m_readNumber m_undoMany m_lastGuesses m_above m_below m_refused m_codes m_noted m_marked m_masks m_text m_before m_ahead m_aside m_sure m_wrongs m_says m_evening m_images) (va_A (wd_m a_m a_m_refused a_m_codes a_m_noted a_m_marked a_m_masks a_m_text a_m_before a_m_ahead a_m_aside a_m_sure a_m_wrongs a_m_says a_m_evening a_m_images cI cB cT m_words m_kindNow m_secretNow m_guessed m_left m_wrong m_noteMany m_markMany m_typed m_readAt m_readNumber m_undoMany m_lastGuesses m_above m_below m_refused m_codes m_noted m_marked m_masks m_text m_before m_ahead m_aside m_sure m_wrongs m_says m_evening m_images) sz)) 0 0 (va_A (wd_m a_m a_m_refused a_m_codes a_m_noted a_m_marked a_m_masks a_m_text a_m_before a_m_ahead a_m_aside a_m_sure a_m_wrongs a_m_says a_m_evening a_m_images cI cB cT m_words m_kindNow m_secretNow m_guessed m_left m_wrong m_noteMany m_markMany m_typed m_readAt m_readNumber m_undoMany m_lastGuesses m_above m_below m_refused m_codes m_noted m_marked m_masks m_text m_before m_ahead m_aside m_sure m_wrongs m_says m_evening m_images) sz) := by
  refine wr_intro RX11 (by decide +kernel) rfl (Nat.le_of_ble_eq_true rfl) ?_
  intro p e s m below meth c ls A H locs CF hr hlk hG hP hD hS hA hl
  have hl : lv_has ls 4 [(0, .ref a_m), (1, .int p1), (2, .int p2)] := hl
  obtain ⟨hx, hb, hml, hown, hts⟩ := id CF
  unfold f_X11_guessesBy at hf
  refine lv_aload_n hx hb dX11_guessesBy_0 rfl (lv_at hl 0 rfl) ?_
  refine lv_iload_n hx hb dX11_guessesBy_1 rfl (lv_at hl 1 rfl) ?_
  refine lv_aload_n hx hb dX11_guessesBy_2 rfl (lv_at hl 0 rfl) ?_
  refine va_get (D := D) (ci := 9) (v := .int m_left) (C := RX11) (T := TX11) (N := 29) hx hb hts fin_X11 hown hG.1 hP 0 ce_m_0 vq_9 5 (by decide) (hts _ wm_927) (fun _ h9 => h9) rfl dX11_guessesBy_3 ?_
  refine lv_aload_n hx hb dX11_guessesBy_6 rfl (lv_at hl 0 rfl) ?_
  refine va_get (D := D) (ci := 9) (v := .int m_guessed) (C := RX11) (T := TX11) (N := 29) hx hb hts fin_X11 hown hG.1 hP 0 ce_m_0 vq_9 4 (by decide) (hts _ wm_926) (fun _ h9 => h9) rfl dX11_guessesBy_7 ?_
  obtain ⟨o1, e2, hf⟩ := lp_bind hf
  refine ro_Si (x := o1) (As := [.int m_guessed]) (rest := [.int m_left, .int p1, .ref a_m]) CF (c_X11_bits l D cI cB cT m_guessed e2) ok_X11_bits wm_1144 ⟨rfl, rfl, Nat.le_of_ble_eq_true rfl, Nat.le_of_ble_eq_true rfl⟩ hG wd_E_P rfl hl.1 rfl (Nat.le_of_ble_eq_true rfl) ⟨Nat.zero_le _, Nat.zero_le _⟩ dX11_guessesBy_10 ?_
  refine lv_iload_n hx hb dX11_guessesBy_13 rfl (lv_at hl 2 rfl) ?_
  obtain ⟨o3, e4, hf⟩ := lp_bind hf
  refine ro_Vi (x := o3) (As := [.int p1, .int m_left, .int o1, .int p2]) (rest := []) CF (c_X11_answerBy l D cI cB cT a_m a_m_refused a_m_codes a_m_noted a_m_marked a_m_masks a_m_text a_m_before a_m_ahead a_m_aside a_m_sure a_m_wrongs a_m_says a_m_evening a_m_images m_words m_kindNow m_secretNow m_guessed m_left m_wrong m_noteMany m_markMany m_typed m_readAt m_readNumber m_undoMany m_lastGuesses m_above m_below m_refused m_codes m_noted m_marked m_masks m_text m_before m_ahead m_aside m_sure m_wrongs m_says m_evening m_images p1 m_left o1 p2 e4) ok_X11_answerBy wm_1147 ⟨rfl, rfl, Nat.le_of_ble_eq_true rfl, Nat.le_of_ble_eq_true rfl⟩ hG hP 0 9 vq_9 rfl ce_m_0 rfl hl.1 rfl (Nat.le_of_ble_eq_true rfl) ⟨Nat.zero_le _, Nat.zero_le _⟩ dX11_guessesBy_14 ?_
  refine lv_istore_n (lv' := [(3, .int o3), (0, .ref a_m), (1, .int p1), (2, .int p2)]) hx hb dX11_guessesBy_17 rfl hl (by decide) rfl (fun ls hl => ?_)
  refine lv_aload_n hx hb dX11_guessesBy_18 rfl (lv_at hl 1 rfl) ?_
  refine lv_aload_n hx hb dX11_guessesBy_19 rfl (lv_at hl 1 rfl) ?_
  refine lv_aload_n hx hb dX11_guessesBy_20 rfl (lv_at hl 1 rfl) ?_
  refine va_get (D := D) (ci := 9) (v := .int m_left) (C := RX11) (T := TX11) (N := 29) hx hb hts fin_X11 hown hG.1 hP 0 ce_m_0 vq_9 5 (by decide) (hts _ wm_927) (fun _ h9 => h9) rfl dX11_guessesBy_21 ?_
  refine lv_iload_n hx hb dX11_guessesBy_24 rfl (lv_at hl 3 rfl) ?_
  refine lv_iload_n hx hb dX11_guessesBy_25 rfl (lv_at hl 0 rfl) ?_
  obtain ⟨o5, e6, hf⟩ := lp_bind hf
  refine ro_Vi (x := o5) (As := [.int m_left, .int p2, .int o3]) (rest := [.ref a_m]) CF (c_X11_partOf l D cI cB cT a_m a_m_refused a_m_codes a_m_noted a_m_marked a_m_masks a_m_text a_m_before a_m_ahead a_m_aside a_m_sure a_m_wrongs a_m_says a_m_evening a_m_images m_words m_kindNow m_secretNow m_guessed m_left m_wrong m_noteMany m_markMany m_typed m_readAt m_readNumber m_undoMany m_lastGuesses m_above m_below m_refused m_codes m_noted m_marked m_masks m_text m_before m_ahead m_aside m_sure m_wrongs m_says m_evening m_images m_left p2 o3 e6) ok_X11_partOf wm_1175 ⟨rfl, rfl, Nat.le_of_ble_eq_true rfl, Nat.le_of_ble_eq_true rfl⟩ hG hP 0 9 vq_9 rfl ce_m_0 rfl hl.1 rfl (Nat.le_of_ble_eq_true rfl) ⟨Nat.zero_le _, Nat.zero_le _⟩ dX11_guessesBy_26 ?_
  refine va_put (D := D) (ci := 9) (v := .int o5) (ty := .int) (C := RX11) (T := TX11) (N := 29) hx hb hts fin_X11 tyX11 tyX11_ok nmX11 hown hG.1 hP hD hS 0 ce_m_0 vq_9 5 (by decide) (hts _ wm_927) (fun _ h9 => h9) rfl (tyX11_ok 5 (by decide)) rfl rfl (Nat.le_of_ble_eq_true rfl) dX11_guessesBy_29 (fun H locs hP _ hS => ?_)
  have hP : va_P D vwCl (wd_m a_m a_m_refused a_m_codes a_m_noted a_m_marked a_m_masks a_m_text a_m_before a_m_ahead a_m_aside a_m_sure a_m_wrongs a_m_says a_m_evening a_m_images cI cB cT m_words m_kindNow m_secretNow m_guessed o5 m_wrong m_noteMany m_markMany m_typed m_readAt m_readNumber m_undoMany m_lastGuesses m_above m_below m_refused m_codes m_noted m_marked m_masks m_text m_before m_ahead m_aside m_sure m_wrongs m_says m_evening m_images) H := va_P_eq se_m_m_left hP
  have hD : va_D A (wd_m a_m a_m_refused a_m_codes a_m_noted a_m_marked a_m_masks a_m_text a_m_before a_m_ahead a_m_aside a_m_sure a_m_wrongs a_m_says a_m_evening a_m_images cI cB cT m_words m_kindNow m_secretNow m_guessed o5 m_wrong m_noteMany m_markMany m_typed m_readAt m_readNumber m_undoMany m_lastGuesses m_above m_below m_refused m_codes m_noted m_marked m_masks m_text m_before m_ahead m_aside m_sure m_wrongs m_says m_evening m_images) := va_D_fst fs_m hD
  refine lv_aload_n hx hb dX11_guessesBy_32 rfl (lv_at hl 1 rfl) ?_
  refine lv_dup hx hb dX11_guessesBy_33 rfl ?_
  refine va_get (D := D) (ci := 9) (v := .int m_guessed) (C := RX11) (T := TX11) (N := 29) hx hb hts fin_X11 hown hG.1 hP 0 ce_m_0 vq_9 4 (by decide) (hts _ wm_926) (fun _ h9 => h9) rfl dX11_guessesBy_34 ?_
  refine lv_iconst (v := (1 : Int32)) hx hb dX11_guessesBy_37 (by decide) ?_
  refine lv_iload_n hx hb dX11_guessesBy_38 rfl (lv_at hl 3 rfl) ?_
  refine lv_ishl hx hb dX11_guessesBy_39 ?_
  refine lv_ior hx hb dX11_guessesBy_40 ?_
  refine va_put (D := D) (ci := 9) (v := .int (m_guessed ||| ((1 : Int32) <<< (p2 &&& 31)))) (ty := .int) (C := RX11) (T := TX11) (N := 29) hx hb hts fin_X11 tyX11 tyX11_ok nmX11 hown hG.1 hP hD hS 0 ce_m_0 vq_9 4 (by decide) (hts _ wm_926) (fun _ h9 => h9) rfl (tyX11_ok 4 (by decide)) rfl rfl (Nat.le_of_ble_eq_true rfl) dX11_guessesBy_41 (fun H locs hP _ hS => ?_)
  have hP : va_P D vwCl (wd_m a_m a_m_refused a_m_codes a_m_noted a_m_marked a_m_masks a_m_text a_m_before a_m_ahead a_m_aside a_m_sure a_m_wrongs a_m_says a_m_evening a_m_images cI cB cT m_words m_kindNow m_secretNow (m_guessed ||| ((1 : Int32) <<< (p2 &&& 31))) o5 m_wrong m_noteMany m_markMany m_typed m_readAt m_readNumber m_undoMany m_lastGuesses m_above m_below m_refused m_codes m_noted m_marked m_masks m_text m_before m_ahead m_aside m_sure m_wrongs m_says m_evening m_images) H := va_P_eq se_m_m_guessed hP
  have hD : va_D A (wd_m a_m a_m_refused a_m_codes a_m_noted a_m_marked a_m_masks a_m_text a_m_before a_m_ahead a_m_aside a_m_sure a_m_wrongs a_m_says a_m_evening a_m_images cI cB cT m_words m_kindNow m_secretNow (m_guessed ||| ((1 : Int32) <<< (p2 &&& 31))) o5 m_wrong m_noteMany m_markMany m_typed m_readAt m_readNumber m_undoMany m_lastGuesses m_above m_below m_refused m_codes m_noted m_marked m_masks m_text m_before m_ahead m_aside m_sure m_wrongs m_says m_evening m_images) := va_D_fst fs_m hD
  refine lv_aload_n hx hb dX11_guessesBy_44 rfl (lv_at hl 1 rfl) ?_
  refine lv_dup hx hb dX11_guessesBy_45 rfl ?_
  refine va_get (D := D) (ci := 9) (v := .int m_wrong) (C := RX11) (T := TX11) (N := 29) hx hb hts fin_X11 hown hG.1 hP 0 ce_m_0 vq_9 6 (by decide) (hts _ wm_928) (fun _ h9 => h9) rfl dX11_guessesBy_46 ?_
  refine lv_iload_n hx hb dX11_guessesBy_49 rfl (lv_at hl 0 rfl) ?_
  refine lv_if_ne (tgt := 57) hx hb dX11_guessesBy_50 (by decide) (fun c7 => ?_) (fun c7 => ?_)
  · have hf := fk c7 hf
    refine lv_iconst (v := (0 : Int32)) hx hb dX11_guessesBy_57 (by decide) ?_
    refine lv_iadd hx hb dX11_guessesBy_58 ?_
    refine va_put (D := D) (ci := 9) (v := .int (m_wrong + (0 : Int32))) (ty := .int) (C := RX11) (T := TX11) (N := 29) hx hb hts fin_X11 tyX11 tyX11_ok nmX11 hown hG.1 hP hD hS 0 ce_m_0 vq_9 6 (by decide) (hts _ wm_928) (fun _ h9 => h9) rfl (tyX11_ok 6 (by decide)) rfl rfl (Nat.le_of_ble_eq_true rfl) dX11_guessesBy_59 (fun H locs hP _ hS => ?_)
    have hP : va_P D vwCl (wd_m a_m a_m_refused a_m_codes a_m_noted a_m_marked a_m_masks a_m_text a_m_before a_m_ahead a_m_aside a_m_sure a_m_wrongs a_m_says a_m_evening a_m_images cI cB cT m_words m_kindNow m_secretNow (m_guessed ||| ((1 : Int32) <<< (p2 &&& 31))) o5 (m_wrong + (0 : Int32)) m_noteMany m_markMany m_typed m_readAt m_readNumber m_undoMany m_lastGuesses m_above m_below m_refused m_codes m_noted m_marked m_masks m_text m_before m_ahead m_aside m_sure m_wrongs m_says m_evening m_images) H := va_P_eq se_m_m_wrong hP
    have hD : va_D A (wd_m a_m a_m_refused a_m_codes a_m_noted a_m_marked a_m_masks a_m_text a_m_before a_m_ahead a_m_aside a_m_sure a_m_wrongs a_m_says a_m_evening a_m_images cI cB cT m_words m_kindNow m_secretNow (m_guessed ||| ((1 : Int32) <<< (p2 &&& 31))) o5 (m_wrong + (0 : Int32)) m_noteMany m_markMany m_typed m_readAt m_readNumber m_undoMany m_lastGuesses m_above m_below m_refused m_codes m_noted m_marked m_masks m_text m_before m_ahead m_aside m_sure m_wrongs m_says m_evening m_images) := va_D_fst fs_m hD
    refine lv_iload_n hx hb dX11_guessesBy_62 rfl (lv_at hl 0 rfl) ?_
    obtain rfl := Option.some.inj hf
    exact wr_iret CF hr hlk hP hS dX11_guessesBy_63
  · have hf := tk c7 hf
    refine lv_iconst (v := (1 : Int32)) hx hb dX11_guessesBy_53 (by decide) ?_
    refine lv_goto (tgt := 58) hx hb dX11_guessesBy_54 (by decide) ?_
    refine lv_iadd hx hb dX11_guessesBy_58 ?_
    refine va_put (D := D) (ci := 9) (v := .int (m_wrong + (1 : Int32))) (ty := .int) (C := RX11) (T := TX11) (N := 29) hx hb hts fin_X11 tyX11 tyX11_ok nmX11 hown hG.1 hP hD hS 0 ce_m_0 vq_9 6 (by decide) (hts _ wm_928) (fun _ h9 => h9) rfl (tyX11_ok 6 (by decide)) rfl rfl (Nat.le_of_ble_eq_true rfl) dX11_guessesBy_59 (fun H locs hP _ hS => ?_)
    have hP : va_P D vwCl (wd_m a_m a_m_refused a_m_codes a_m_noted a_m_marked a_m_masks a_m_text a_m_before a_m_ahead a_m_aside a_m_sure a_m_wrongs a_m_says a_m_evening a_m_images cI cB cT m_words m_kindNow m_secretNow (m_guessed ||| ((1 : Int32) <<< (p2 &&& 31))) o5 (m_wrong + (1 : Int32)) m_noteMany m_markMany m_typed m_readAt m_readNumber m_undoMany m_lastGuesses m_above m_below m_refused m_codes m_noted m_marked m_masks m_text m_before m_ahead m_aside m_sure m_wrongs m_says m_evening m_images) H := va_P_eq se_m_m_wrong hP
    have hD : va_D A (wd_m a_m a_m_refused a_m_codes a_m_noted a_m_marked a_m_masks a_m_text a_m_before a_m_ahead a_m_aside a_m_sure a_m_wrongs a_m_says a_m_evening a_m_images cI cB cT m_words m_kindNow m_secretNow (m_guessed ||| ((1 : Int32) <<< (p2 &&& 31))) o5 (m_wrong + (1 : Int32)) m_noteMany m_markMany m_typed m_readAt m_readNumber m_undoMany m_lastGuesses m_above m_below m_refused m_codes m_noted m_marked m_masks m_text m_before m_ahead m_aside m_sure m_wrongs m_says m_evening m_images) := va_D_fst fs_m hD
    refine lv_iload_n hx hb dX11_guessesBy_62 rfl (lv_at hl 0 rfl) ?_
    obtain rfl := Option.some.inj hf
    exact wr_iret CF hr hlk hP hS dX11_guessesBy_63
end M_X11_guessesBy
section M_X11_guesses
variable {p : Program} {l : Launch} {e : Env} {s : State} {m : MethodId} {args : Array Value} {below : List Frame} {meth : Method} {c : Code} {Q : State → Prop} {A : Nat → Prop} {D : va_G} {cI cB cT : ClassId}
variable {a_m a_m_refused a_m_codes a_m_noted a_m_marked a_m_masks a_m_text a_m_before a_m_ahead a_m_aside a_m_sure a_m_wrongs a_m_says a_m_evening a_m_images : Nat}
def rm_X11_guesses : Room := { frames := 6, cells := 0, slots := 0, locals := 143 }
def f_X11_guesses (m_words : Int32) (m_kindNow : Int32) (m_secretNow : Int32) (m_guessed : Int32) (m_left : Int32) (m_wrong : Int32) (m_masks : (Nat → Int32)) (p1 : Int32) : Option (Int32 × Int32 × Int32 × Int32) := ((f_X11_guessesBy m_words m_secretNow m_guessed m_left m_wrong m_masks m_kindNow p1).bind fun o1 => some (o1.1, o1.2.1, o1.2.2.1, o1.2.2.2))
set_option maxHeartbeats 4000000 in
set_option maxRecDepth 100000 in
theorem c_X11_guesses (l : Launch) (D : va_G) (cI cB cT : ClassId) (sz : Nat) (a_m a_m_refused a_m_codes a_m_noted a_m_marked a_m_masks a_m_text a_m_before a_m_ahead a_m_aside a_m_sure a_m_wrongs a_m_says a_m_evening a_m_images : Nat) (m_words : Int32) (m_kindNow : Int32) (m_secretNow : Int32) (m_guessed : Int32) (m_left : Int32) (m_wrong : Int32) (m_noteMany : Int32) (m_markMany : Int32) (m_typed : Int32) (m_readAt : Int32) (m_readNumber : Int32) (m_undoMany : Int32) (m_lastGuesses : Int32) (m_above : Int64) (m_below : Int64) (m_refused : (Nat → Int32)) (m_codes : (Nat → Int32)) (m_noted : (Nat → Int32)) (m_marked : (Nat → Int32)) (m_masks : (Nat → Int32)) (m_text : (Nat → Int32)) (m_before : (Nat → Int32)) (m_ahead : (Nat → Int32)) (m_aside : (Nat → Int32)) (m_sure : (Nat → Int32)) (m_wrongs : (Nat → Int32)) (m_says : (Nat → Int32)) (m_evening : (Nat → Int32)) (m_images : (Nat → Int32)) (p1 : Int32) {z : Int32 × Int32 × Int32 × Int32} (hf : f_X11_guesses m_words m_kindNow m_secretNow m_guessed m_left m_wrong m_masks p1 = some z) :
    Met l yX11_guesses (Cond.code yX11_guesses cX11_guesses 2 (some .int) :: wsAll) rm_X11_guesses (Pwr [.ref a_m, .int p1] D cI cB cT (wd_m a_m a_m_refused a_m_codes a_m_noted a_m_marked a_m_masks a_m_text a_m_before a_m_ahead a_m_aside a_m_sure a_m_wrongs a_m_says a_m_evening a_m_images cI cB cT m_words m_kindNow m_secretNow m_guessed m_left m_wrong m_noteMany m_markMany m_typed m_readAt m_readNumber m_undoMany m_lastGuesses m_above m_below m_refused m_codes m_noted m_marked m_masks m_text m_before m_ahead m_aside m_sure m_wrongs m_says m_evening m_images) sz) (Qw (some (.int z.1)) D (wd_m a_m a_m_refused a_m_codes a_m_noted a_m_marked a_m_masks a_m_text a_m_before a_m_ahead a_m_aside a_m_sure a_m_wrongs a_m_says a_m_evening a_m_images cI cB cT m_words m_kindNow m_secretNow z.2.1 z.2.2.1 z.2.2.2 m_noteMany m_markMany m_typed m_readAt m_readNumber m_undoMany m_lastGuesses m_above m_below m_refused m_codes m_noted m_marked m_masks m_text m_before m_ahead m_aside m_sure m_wrongs m_says m_evening m_images) (va_A (wd_m a_m a_m_refused a_m_codes a_m_noted a_m_marked a_m_masks a_m_text a_m_before a_m_ahead a_m_aside a_m_sure a_m_wrongs a_m_says a_m_evening a_m_images cI cB cT m_words m_kindNow m_secretNow m_guessed m_left m_wrong m_noteMany m_markMany m_typed m_readAt m_readNumber m_undoMany m_lastGuesses m_above m_below m_refused m_codes m_noted m_marked m_masks m_text m_before m_ahead m_aside m_sure m_wrongs m_says m_evening m_images) sz)) 0 0 (va_A (wd_m a_m a_m_refused a_m_codes a_m_noted a_m_marked a_m_masks a_m_text a_m_before a_m_ahead a_m_aside a_m_sure a_m_wrongs a_m_says a_m_evening a_m_images cI cB cT m_words m_kindNow m_secretNow m_guessed m_left m_wrong m_noteMany m_markMany m_typed m_readAt m_readNumber m_undoMany m_lastGuesses m_above m_below m_refused m_codes m_noted m_marked m_masks m_text m_before m_ahead m_aside m_sure m_wrongs m_says m_evening m_images) sz) := by
  refine wr_intro RX11 (by decide +kernel) rfl (Nat.le_of_ble_eq_true rfl) ?_
  intro p e s m below meth c ls A H locs CF hr hlk hG hP hD hS hA hl
  have hl : lv_has ls 2 [(0, .ref a_m), (1, .int p1)] := hl
  obtain ⟨hx, hb, hml, hown, hts⟩ := id CF
  unfold f_X11_guesses at hf
  refine lv_aload_n hx hb dX11_guesses_0 rfl (lv_at hl 0 rfl) ?_
  refine lv_aload_n hx hb dX11_guesses_1 rfl (lv_at hl 0 rfl) ?_
  refine va_get (D := D) (ci := 9) (v := .int m_kindNow) (C := RX11) (T := TX11) (N := 29) hx hb hts fin_X11 hown hG.1 hP 0 ce_m_0 vq_9 2 (by decide) (hts _ wm_924) (fun _ h9 => h9) rfl dX11_guesses_2 ?_
  refine lv_iload_n hx hb dX11_guesses_5 rfl (lv_at hl 1 rfl) ?_
  obtain ⟨o1, e2, hf⟩ := lp_bind hf
  refine wr_Wi (x := o1.1) (ws' := (wd_m a_m a_m_refused a_m_codes a_m_noted a_m_marked a_m_masks a_m_text a_m_before a_m_ahead a_m_aside a_m_sure a_m_wrongs a_m_says a_m_evening a_m_images cI cB cT m_words m_kindNow m_secretNow o1.2.1 o1.2.2.1 o1.2.2.2 m_noteMany m_markMany m_typed m_readAt m_readNumber m_undoMany m_lastGuesses m_above m_below m_refused m_codes m_noted m_marked m_masks m_text m_before m_ahead m_aside m_sure m_wrongs m_says m_evening m_images)) (As := [.int m_kindNow, .int p1]) (rest := []) CF (c_X11_guessesBy l D cI cB cT H.size a_m a_m_refused a_m_codes a_m_noted a_m_marked a_m_masks a_m_text a_m_before a_m_ahead a_m_aside a_m_sure a_m_wrongs a_m_says a_m_evening a_m_images m_words m_kindNow m_secretNow m_guessed m_left m_wrong m_noteMany m_markMany m_typed m_readAt m_readNumber m_undoMany m_lastGuesses m_above m_below m_refused m_codes m_noted m_marked m_masks m_text m_before m_ahead m_aside m_sure m_wrongs m_says m_evening m_images m_kindNow p1 e2) ok_X11_guessesBy wm_1140 ⟨rfl, rfl, Nat.le_of_ble_eq_true rfl, Nat.le_of_ble_eq_true rfl⟩ hG hP hD hS hA fs_m 0 9 vq_9 rfl ce_m_0 rfl hl.1 rfl (Nat.le_of_ble_eq_true rfl) ⟨Nat.zero_le _, Nat.zero_le _⟩ dX11_guesses_6 (fun H locs hP hD hS => ?_)
  obtain rfl := Option.some.inj hf
  exact wr_iret CF hr hlk hP hS dX11_guesses_9
end M_X11_guesses
section M_X11_readsGuess
variable {p : Program} {l : Launch} {e : Env} {s : State} {m : MethodId} {args : Array Value} {below : List Frame} {meth : Method} {c : Code} {Q : State → Prop} {A : Nat → Prop} {D : va_G} {cI cB cT : ClassId}
variable {a_m a_m_refused a_m_codes a_m_noted a_m_marked a_m_masks a_m_text a_m_before a_m_ahead a_m_aside a_m_sure a_m_wrongs a_m_says a_m_evening a_m_images : Nat}
def rm_X11_readsGuess : Room := { frames := 7, cells := 0, slots := 0, locals := 164 }
def f_X11_readsGuess (m_words : Int32) (m_kindNow : Int32) (m_secretNow : Int32) (m_guessed : Int32) (m_left : Int32) (m_wrong : Int32) (m_typed : Int32) (m_readAt : Int32) (m_readNumber : Int32) (m_masks : (Nat → Int32)) (m_text : (Nat → Int32)) : Option (Int32 × Int32 × Int32 × Int32 × Int32 × Int32) := ((f_X11_skip m_typed m_readAt m_text).bind fun o1 => ((f_X11_number m_typed o1 m_readNumber m_text (0 : Int32) (9 : Int32)).bind fun o3 => (if o3.1 = 0 then some ((0 : Int32), m_guessed, m_left, m_wrong, o3.2.1, o3.2.2) else (if m_words = 0 then some ((0 : Int32), m_guessed, m_left, m_wrong, o1, o3.2.2) else ((f_X11_has m_guessed o3.2.2).bind fun o7 => (if o7 = 0 then ((f_X11_ends m_typed o3.2.1 m_text).bind fun o10 => (if o10.1 = 0 then some ((0 : Int32), m_guessed, m_left, m_wrong, o10.2, o3.2.2) else ((f_X11_guesses m_words m_kindNow m_secretNow m_guessed m_left m_wrong m_masks o3.2.2).bind fun o13 => some ((1 : Int32), o13.2.1, o13.2.2.1, o13.2.2.2, o10.2, o3.2.2)))) else some ((0 : Int32), m_guessed, m_left, m_wrong, o1, o3.2.2)))))))
set_option maxHeartbeats 4000000 in
set_option maxRecDepth 100000 in
theorem c_X11_readsGuess (l : Launch) (D : va_G) (cI cB cT : ClassId) (sz : Nat) (a_m a_m_refused a_m_codes a_m_noted a_m_marked a_m_masks a_m_text a_m_before a_m_ahead a_m_aside a_m_sure a_m_wrongs a_m_says a_m_evening a_m_images : Nat) (m_words : Int32) (m_kindNow : Int32) (m_secretNow : Int32) (m_guessed : Int32) (m_left : Int32) (m_wrong : Int32) (m_noteMany : Int32) (m_markMany : Int32) (m_typed : Int32) (m_readAt : Int32) (m_readNumber : Int32) (m_undoMany : Int32) (m_lastGuesses : Int32) (m_above : Int64) (m_below : Int64) (m_refused : (Nat → Int32)) (m_codes : (Nat → Int32)) (m_noted : (Nat → Int32)) (m_marked : (Nat → Int32)) (m_masks : (Nat → Int32)) (m_text : (Nat → Int32)) (m_before : (Nat → Int32)) (m_ahead : (Nat → Int32)) (m_aside : (Nat → Int32)) (m_sure : (Nat → Int32)) (m_wrongs : (Nat → Int32)) (m_says : (Nat → Int32)) (m_evening : (Nat → Int32)) (m_images : (Nat → Int32)) {z : Int32 × Int32 × Int32 × Int32 × Int32 × Int32} (hf : f_X11_readsGuess m_words m_kindNow m_secretNow m_guessed m_left m_wrong m_typed m_readAt m_readNumber m_masks m_text = some z) :
    Met l yX11_readsGuess (Cond.code yX11_readsGuess cX11_readsGuess 3 (some .boolean) :: wsAll) rm_X11_readsGuess (Pwr [.ref a_m] D cI cB cT (wd_m a_m a_m_refused a_m_codes a_m_noted a_m_marked a_m_masks a_m_text a_m_before a_m_ahead a_m_aside a_m_sure a_m_wrongs a_m_says a_m_evening a_m_images cI cB cT m_words m_kindNow m_secretNow m_guessed m_left m_wrong m_noteMany m_markMany m_typed m_readAt m_readNumber m_undoMany m_lastGuesses m_above m_below m_refused m_codes m_noted m_marked m_masks m_text m_before m_ahead m_aside m_sure m_wrongs m_says m_evening m_images) sz) (Qw (some (.int z.1)) D (wd_m a_m a_m_refused a_m_codes a_m_noted a_m_marked a_m_masks a_m_text a_m_before a_m_ahead a_m_aside a_m_sure a_m_wrongs a_m_says a_m_evening a_m_images cI cB cT m_words m_kindNow m_secretNow z.2.1 z.2.2.1 z.2.2.2.1 m_noteMany m_markMany m_typed z.2.2.2.2.1 z.2.2.2.2.2 m_undoMany m_lastGuesses m_above m_below m_refused m_codes m_noted m_marked m_masks m_text m_before m_ahead m_aside m_sure m_wrongs m_says m_evening m_images) (va_A (wd_m a_m a_m_refused a_m_codes a_m_noted a_m_marked a_m_masks a_m_text a_m_before a_m_ahead a_m_aside a_m_sure a_m_wrongs a_m_says a_m_evening a_m_images cI cB cT m_words m_kindNow m_secretNow m_guessed m_left m_wrong m_noteMany m_markMany m_typed m_readAt m_readNumber m_undoMany m_lastGuesses m_above m_below m_refused m_codes m_noted m_marked m_masks m_text m_before m_ahead m_aside m_sure m_wrongs m_says m_evening m_images) sz)) 0 0 (va_A (wd_m a_m a_m_refused a_m_codes a_m_noted a_m_marked a_m_masks a_m_text a_m_before a_m_ahead a_m_aside a_m_sure a_m_wrongs a_m_says a_m_evening a_m_images cI cB cT m_words m_kindNow m_secretNow m_guessed m_left m_wrong m_noteMany m_markMany m_typed m_readAt m_readNumber m_undoMany m_lastGuesses m_above m_below m_refused m_codes m_noted m_marked m_masks m_text m_before m_ahead m_aside m_sure m_wrongs m_says m_evening m_images) sz) := by
  refine wr_intro RX11 (by decide +kernel) rfl (Nat.le_of_ble_eq_true rfl) ?_
  intro p e s m below meth c ls A H locs CF hr hlk hG hP hD hS hA hl
  have hl : lv_has ls 3 [(0, .ref a_m)] := hl
  obtain ⟨hx, hb, hml, hown, hts⟩ := id CF
  unfold f_X11_readsGuess at hf
  refine lv_aload_n hx hb dX11_readsGuess_0 rfl (lv_at hl 0 rfl) ?_
  obtain ⟨o1, e2, hf⟩ := lp_bind hf
  refine wr_Wv (ws' := (wd_m a_m a_m_refused a_m_codes a_m_noted a_m_marked a_m_masks a_m_text a_m_before a_m_ahead a_m_aside a_m_sure a_m_wrongs a_m_says a_m_evening a_m_images cI cB cT m_words m_kindNow m_secretNow m_guessed m_left m_wrong m_noteMany m_markMany m_typed o1 m_readNumber m_undoMany m_lastGuesses m_above m_below m_refused m_codes m_noted m_marked m_masks m_text m_before m_ahead m_aside m_sure m_wrongs m_says m_evening m_images)) (As := []) (rest := []) CF (c_X11_skip l D cI cB cT H.size a_m a_m_refused a_m_codes a_m_noted a_m_marked a_m_masks a_m_text a_m_before a_m_ahead a_m_aside a_m_sure a_m_wrongs a_m_says a_m_evening a_m_images m_words m_kindNow m_secretNow m_guessed m_left m_wrong m_noteMany m_markMany m_typed m_readAt m_readNumber m_undoMany m_lastGuesses m_above m_below m_refused m_codes m_noted m_marked m_masks m_text m_before m_ahead m_aside m_sure m_wrongs m_says m_evening m_images e2) ok_X11_skip wm_1083 ⟨rfl, rfl, Nat.le_of_ble_eq_true rfl, Nat.le_of_ble_eq_true rfl⟩ hG hP hD hS hA fs_m 0 9 vq_9 rfl ce_m_0 rfl hl.1 rfl (Nat.le_of_ble_eq_true rfl) ⟨Nat.zero_le _, Nat.zero_le _⟩ dX11_readsGuess_1 (fun H locs hP hD hS => ?_)
  refine lv_aload_n hx hb dX11_readsGuess_4 rfl (lv_at hl 0 rfl) ?_
  refine va_get (D := D) (ci := 9) (v := .int o1) (C := RX11) (T := TX11) (N := 29) hx hb hts fin_X11 hown hG.1 hP 0 ce_m_0 vq_9 15 (by decide) (hts _ wm_937) (fun _ h9 => h9) rfl dX11_readsGuess_5 ?_
  refine lv_istore_n (lv' := [(1, .int o1), (0, .ref a_m)]) hx hb dX11_readsGuess_8 rfl hl (by decide) rfl (fun ls hl => ?_)
  refine lv_aload_n hx hb dX11_readsGuess_9 rfl (lv_at hl 1 rfl) ?_
  refine lv_iconst (v := (0 : Int32)) hx hb dX11_readsGuess_10 (by decide) ?_
  refine lv_bipush (v := (9 : Int32)) hx hb dX11_readsGuess_11 (by decide) ?_
  obtain ⟨o3, e4, hf⟩ := lp_bind hf
  refine wr_Wi (x := o3.1) (ws' := (wd_m a_m a_m_refused a_m_codes a_m_noted a_m_marked a_m_masks a_m_text a_m_before a_m_ahead a_m_aside a_m_sure a_m_wrongs a_m_says a_m_evening a_m_images cI cB cT m_words m_kindNow m_secretNow m_guessed m_left m_wrong m_noteMany m_markMany m_typed o3.2.1 o3.2.2 m_undoMany m_lastGuesses m_above m_below m_refused m_codes m_noted m_marked m_masks m_text m_before m_ahead m_aside m_sure m_wrongs m_says m_evening m_images)) (As := [.int (0 : Int32), .int (9 : Int32)]) (rest := []) CF (c_X11_number l D cI cB cT H.size a_m a_m_refused a_m_codes a_m_noted a_m_marked a_m_masks a_m_text a_m_before a_m_ahead a_m_aside a_m_sure a_m_wrongs a_m_says a_m_evening a_m_images m_words m_kindNow m_secretNow m_guessed m_left m_wrong m_noteMany m_markMany m_typed o1 m_readNumber m_undoMany m_lastGuesses m_above m_below m_refused m_codes m_noted m_marked m_masks m_text m_before m_ahead m_aside m_sure m_wrongs m_says m_evening m_images (0 : Int32) (9 : Int32) e4) ok_X11_number wm_1106 ⟨rfl, rfl, Nat.le_of_ble_eq_true rfl, Nat.le_of_ble_eq_true rfl⟩ hG hP hD hS hA fs_m 0 9 vq_9 rfl ce_m_0 rfl hl.1 rfl (Nat.le_of_ble_eq_true rfl) ⟨Nat.zero_le _, Nat.zero_le _⟩ dX11_readsGuess_13 (fun H locs hP hD hS => ?_)
  refine lv_if_ne (tgt := 21) hx hb dX11_readsGuess_16 (by decide) (fun c5 => ?_) (fun c5 => ?_)
  · have hf := fk c5 hf
    refine lv_aload_n hx hb dX11_readsGuess_21 rfl (lv_at hl 1 rfl) ?_
    refine va_get (D := D) (ci := 9) (v := .int m_words) (C := RX11) (T := TX11) (N := 29) hx hb hts fin_X11 hown hG.1 hP 0 ce_m_0 vq_9 1 (by decide) (hts _ wm_923) (fun _ h9 => h9) rfl dX11_readsGuess_22 ?_
    refine lv_if_eq (tgt := 42) hx hb dX11_readsGuess_25 (by decide) (fun c6 => ?_) (fun c6 => ?_)
    · have hf := tk c6 hf
      refine lv_aload_n hx hb dX11_readsGuess_42 rfl (lv_at hl 1 rfl) ?_
      refine lv_iload_n hx hb dX11_readsGuess_43 rfl (lv_at hl 0 rfl) ?_
      refine va_put (D := D) (ci := 9) (v := .int o1) (ty := .int) (C := RX11) (T := TX11) (N := 29) hx hb hts fin_X11 tyX11 tyX11_ok nmX11 hown hG.1 hP hD hS 0 ce_m_0 vq_9 15 (by decide) (hts _ wm_937) (fun _ h9 => h9) rfl (tyX11_ok 15 (by decide)) rfl rfl (Nat.le_of_ble_eq_true rfl) dX11_readsGuess_44 (fun H locs hP _ hS => ?_)
      have hP : va_P D vwCl (wd_m a_m a_m_refused a_m_codes a_m_noted a_m_marked a_m_masks a_m_text a_m_before a_m_ahead a_m_aside a_m_sure a_m_wrongs a_m_says a_m_evening a_m_images cI cB cT m_words m_kindNow m_secretNow m_guessed m_left m_wrong m_noteMany m_markMany m_typed o1 o3.2.2 m_undoMany m_lastGuesses m_above m_below m_refused m_codes m_noted m_marked m_masks m_text m_before m_ahead m_aside m_sure m_wrongs m_says m_evening m_images) H := va_P_eq se_m_m_readAt hP
      have hD : va_D A (wd_m a_m a_m_refused a_m_codes a_m_noted a_m_marked a_m_masks a_m_text a_m_before a_m_ahead a_m_aside a_m_sure a_m_wrongs a_m_says a_m_evening a_m_images cI cB cT m_words m_kindNow m_secretNow m_guessed m_left m_wrong m_noteMany m_markMany m_typed o1 o3.2.2 m_undoMany m_lastGuesses m_above m_below m_refused m_codes m_noted m_marked m_masks m_text m_before m_ahead m_aside m_sure m_wrongs m_says m_evening m_images) := va_D_fst fs_m hD
      refine lv_iconst (v := (0 : Int32)) hx hb dX11_readsGuess_47 (by decide) ?_
      obtain rfl := Option.some.inj hf
      exact wr_zret CF hr hlk (Or.inl rfl) hP hS dX11_readsGuess_48
    · have hf := fk c6 hf
      refine lv_aload_n hx hb dX11_readsGuess_28 rfl (lv_at hl 1 rfl) ?_
      refine va_get (D := D) (ci := 9) (v := .int m_guessed) (C := RX11) (T := TX11) (N := 29) hx hb hts fin_X11 hown hG.1 hP 0 ce_m_0 vq_9 4 (by decide) (hts _ wm_926) (fun _ h9 => h9) rfl dX11_readsGuess_29 ?_
      refine lv_aload_n hx hb dX11_readsGuess_32 rfl (lv_at hl 1 rfl) ?_
      refine va_get (D := D) (ci := 9) (v := .int o3.2.2) (C := RX11) (T := TX11) (N := 29) hx hb hts fin_X11 hown hG.1 hP 0 ce_m_0 vq_9 16 (by decide) (hts _ wm_938) (fun _ h9 => h9) rfl dX11_readsGuess_33 ?_
      obtain ⟨o7, e8, hf⟩ := lp_bind hf
      refine ro_Si (x := o7) (As := [.int m_guessed, .int o3.2.2]) (rest := []) CF (c_X11_has l D cI cB cT m_guessed o3.2.2 e8) ok_X11_has wm_1133 ⟨rfl, rfl, Nat.le_of_ble_eq_true rfl, Nat.le_of_ble_eq_true rfl⟩ hG wd_E_P rfl hl.1 rfl (Nat.le_of_ble_eq_true rfl) ⟨Nat.zero_le _, Nat.zero_le _⟩ dX11_readsGuess_36 ?_
      refine lv_if_eq (tgt := 49) hx hb dX11_readsGuess_39 (by decide) (fun c9 => ?_) (fun c9 => ?_)
      · have hf := tk c9 hf
        refine lv_aload_n hx hb dX11_readsGuess_49 rfl (lv_at hl 1 rfl) ?_
        refine va_get (D := D) (ci := 9) (v := .int o3.2.2) (C := RX11) (T := TX11) (N := 29) hx hb hts fin_X11 hown hG.1 hP 0 ce_m_0 vq_9 16 (by decide) (hts _ wm_938) (fun _ h9 => h9) rfl dX11_readsGuess_50 ?_
        refine lv_istore_n (lv' := [(2, .int o3.2.2), (1, .int o1), (0, .ref a_m)]) hx hb dX11_readsGuess_53 rfl hl (by decide) rfl (fun ls hl => ?_)
        refine lv_aload_n hx hb dX11_readsGuess_54 rfl (lv_at hl 2 rfl) ?_
        obtain ⟨o10, e11, hf⟩ := lp_bind hf
        refine wr_Wi (x := o10.1) (ws' := (wd_m a_m a_m_refused a_m_codes a_m_noted a_m_marked a_m_masks a_m_text a_m_before a_m_ahead a_m_aside a_m_sure a_m_wrongs a_m_says a_m_evening a_m_images cI cB cT m_words m_kindNow m_secretNow m_guessed m_left m_wrong m_noteMany m_markMany m_typed o10.2 o3.2.2 m_undoMany m_lastGuesses m_above m_below m_refused m_codes m_noted m_marked m_masks m_text m_before m_ahead m_aside m_sure m_wrongs m_says m_evening m_images)) (As := []) (rest := []) CF (c_X11_ends l D cI cB cT H.size a_m a_m_refused a_m_codes a_m_noted a_m_marked a_m_masks a_m_text a_m_before a_m_ahead a_m_aside a_m_sure a_m_wrongs a_m_says a_m_evening a_m_images m_words m_kindNow m_secretNow m_guessed m_left m_wrong m_noteMany m_markMany m_typed o3.2.1 o3.2.2 m_undoMany m_lastGuesses m_above m_below m_refused m_codes m_noted m_marked m_masks m_text m_before m_ahead m_aside m_sure m_wrongs m_says m_evening m_images e11) ok_X11_ends wm_1113 ⟨rfl, rfl, Nat.le_of_ble_eq_true rfl, Nat.le_of_ble_eq_true rfl⟩ hG hP hD hS hA fs_m 0 9 vq_9 rfl ce_m_0 rfl hl.1 rfl (Nat.le_of_ble_eq_true rfl) ⟨Nat.zero_le _, Nat.zero_le _⟩ dX11_readsGuess_55 (fun H locs hP hD hS => ?_)
        refine lv_if_ne (tgt := 63) hx hb dX11_readsGuess_58 (by decide) (fun c12 => ?_) (fun c12 => ?_)
        · have hf := fk c12 hf
          refine lv_aload_n hx hb dX11_readsGuess_63 rfl (lv_at hl 2 rfl) ?_
          refine lv_iload_n hx hb dX11_readsGuess_64 rfl (lv_at hl 0 rfl) ?_
          obtain ⟨o13, e14, hf⟩ := lp_bind hf
          refine wr_Wi (x := o13.1) (ws' := (wd_m a_m a_m_refused a_m_codes a_m_noted a_m_marked a_m_masks a_m_text a_m_before a_m_ahead a_m_aside a_m_sure a_m_wrongs a_m_says a_m_evening a_m_images cI cB cT m_words m_kindNow m_secretNow o13.2.1 o13.2.2.1 o13.2.2.2 m_noteMany m_markMany m_typed o10.2 o3.2.2 m_undoMany m_lastGuesses m_above m_below m_refused m_codes m_noted m_marked m_masks m_text m_before m_ahead m_aside m_sure m_wrongs m_says m_evening m_images)) (As := [.int o3.2.2]) (rest := []) CF (c_X11_guesses l D cI cB cT H.size a_m a_m_refused a_m_codes a_m_noted a_m_marked a_m_masks a_m_text a_m_before a_m_ahead a_m_aside a_m_sure a_m_wrongs a_m_says a_m_evening a_m_images m_words m_kindNow m_secretNow m_guessed m_left m_wrong m_noteMany m_markMany m_typed o10.2 o3.2.2 m_undoMany m_lastGuesses m_above m_below m_refused m_codes m_noted m_marked m_masks m_text m_before m_ahead m_aside m_sure m_wrongs m_says m_evening m_images o3.2.2 e14) ok_X11_guesses wm_1136 ⟨rfl, rfl, Nat.le_of_ble_eq_true rfl, Nat.le_of_ble_eq_true rfl⟩ hG hP hD hS hA fs_m 0 9 vq_9 rfl ce_m_0 rfl hl.1 rfl (Nat.le_of_ble_eq_true rfl) ⟨Nat.zero_le _, Nat.zero_le _⟩ dX11_readsGuess_65 (fun H locs hP hD hS => ?_)
          refine lv_pop hx hb dX11_readsGuess_68 rfl ?_
          refine lv_iconst (v := (1 : Int32)) hx hb dX11_readsGuess_69 (by decide) ?_
          obtain rfl := Option.some.inj hf
          exact wr_zret CF hr hlk (Or.inr rfl) hP hS dX11_readsGuess_70
        · have hf := tk c12 hf
          refine lv_iconst (v := (0 : Int32)) hx hb dX11_readsGuess_61 (by decide) ?_
          obtain rfl := Option.some.inj hf
          exact wr_zret CF hr hlk (Or.inl rfl) hP hS dX11_readsGuess_62
      · have hf := fk c9 hf
        refine lv_aload_n hx hb dX11_readsGuess_42 rfl (lv_at hl 1 rfl) ?_
        refine lv_iload_n hx hb dX11_readsGuess_43 rfl (lv_at hl 0 rfl) ?_
        refine va_put (D := D) (ci := 9) (v := .int o1) (ty := .int) (C := RX11) (T := TX11) (N := 29) hx hb hts fin_X11 tyX11 tyX11_ok nmX11 hown hG.1 hP hD hS 0 ce_m_0 vq_9 15 (by decide) (hts _ wm_937) (fun _ h9 => h9) rfl (tyX11_ok 15 (by decide)) rfl rfl (Nat.le_of_ble_eq_true rfl) dX11_readsGuess_44 (fun H locs hP _ hS => ?_)
        have hP : va_P D vwCl (wd_m a_m a_m_refused a_m_codes a_m_noted a_m_marked a_m_masks a_m_text a_m_before a_m_ahead a_m_aside a_m_sure a_m_wrongs a_m_says a_m_evening a_m_images cI cB cT m_words m_kindNow m_secretNow m_guessed m_left m_wrong m_noteMany m_markMany m_typed o1 o3.2.2 m_undoMany m_lastGuesses m_above m_below m_refused m_codes m_noted m_marked m_masks m_text m_before m_ahead m_aside m_sure m_wrongs m_says m_evening m_images) H := va_P_eq se_m_m_readAt hP
        have hD : va_D A (wd_m a_m a_m_refused a_m_codes a_m_noted a_m_marked a_m_masks a_m_text a_m_before a_m_ahead a_m_aside a_m_sure a_m_wrongs a_m_says a_m_evening a_m_images cI cB cT m_words m_kindNow m_secretNow m_guessed m_left m_wrong m_noteMany m_markMany m_typed o1 o3.2.2 m_undoMany m_lastGuesses m_above m_below m_refused m_codes m_noted m_marked m_masks m_text m_before m_ahead m_aside m_sure m_wrongs m_says m_evening m_images) := va_D_fst fs_m hD
        refine lv_iconst (v := (0 : Int32)) hx hb dX11_readsGuess_47 (by decide) ?_
        obtain rfl := Option.some.inj hf
        exact wr_zret CF hr hlk (Or.inl rfl) hP hS dX11_readsGuess_48
  · have hf := tk c5 hf
    refine lv_iconst (v := (0 : Int32)) hx hb dX11_readsGuess_19 (by decide) ?_
    obtain rfl := Option.some.inj hf
    exact wr_zret CF hr hlk (Or.inl rfl) hP hS dX11_readsGuess_20
end M_X11_readsGuess
section M_X11_readsItem
variable {p : Program} {l : Launch} {e : Env} {s : State} {m : MethodId} {args : Array Value} {below : List Frame} {meth : Method} {c : Code} {Q : State → Prop} {A : Nat → Prop} {D : va_G} {cI cB cT : ClassId}
variable {a_m a_m_refused a_m_codes a_m_noted a_m_marked a_m_masks a_m_text a_m_before a_m_ahead a_m_aside a_m_sure a_m_wrongs a_m_says a_m_evening a_m_images : Nat}
def rm_X11_readsItem : Room := { frames := 8, cells := 0, slots := 0, locals := 186 }
def J_X11_readsItem_33 (m_words : Int32) (m_kindNow : Int32) (m_secretNow : Int32) (m_guessed : Int32) (m_left : Int32) (m_wrong : Int32) (m_typed : Int32) (m_readAt : Int32) (m_readNumber : Int32) (m_undoMany : Int32) (m_codes : (Nat → Int32)) (m_masks : (Nat → Int32)) (m_text : (Nat → Int32)) (x1 : Int32) : Option (Int32 × Int32 × Int32 × Int32 × Int32 × Int32 × Int32 × Int32 × Int32 × (Nat → Int32) × (Nat → Int32)) := ((f_X11_wordSize m_typed m_readAt m_text).bind fun o5 => (if x1 = (1 : Int32) then ((f_X11_readsWord m_words m_guessed m_left m_wrong m_typed (m_readAt + o5) m_readNumber m_undoMany m_codes m_masks m_text).bind fun o15 => (if (o15.1 = 0 ∨ o15.1 = 1) then some (o15.1, o15.2.1, m_secretNow, o15.2.2.1, o15.2.2.2.1, o15.2.2.2.2.1, o15.2.2.2.2.2.1, o15.2.2.2.2.2.2.1, o15.2.2.2.2.2.2.2.1, o15.2.2.2.2.2.2.2.2.1, o15.2.2.2.2.2.2.2.2.2) else none)) else (if x1 = (2 : Int32) then ((f_X11_readsSecret m_words m_secretNow m_typed (m_readAt + o5) m_readNumber m_text).bind fun o12 => (if (o12.1 = 0 ∨ o12.1 = 1) then some (o12.1, m_words, o12.2.1, m_guessed, m_left, m_wrong, o12.2.2.1, o12.2.2.2, m_undoMany, m_codes, m_masks) else none)) else ((f_X11_readsGuess m_words m_kindNow m_secretNow m_guessed m_left m_wrong m_typed (m_readAt + o5) m_readNumber m_masks m_text).bind fun o9 => (if (o9.1 = 0 ∨ o9.1 = 1) then some (o9.1, m_words, m_secretNow, o9.2.1, o9.2.2.1, o9.2.2.2.1, o9.2.2.2.2.1, o9.2.2.2.2.2, m_undoMany, m_codes, m_masks) else none)))))
def f_X11_readsItem (m_words : Int32) (m_kindNow : Int32) (m_secretNow : Int32) (m_guessed : Int32) (m_left : Int32) (m_wrong : Int32) (m_typed : Int32) (m_readAt : Int32) (m_readNumber : Int32) (m_undoMany : Int32) (m_codes : (Nat → Int32)) (m_masks : (Nat → Int32)) (m_text : (Nat → Int32)) : Option (Int32 × Int32 × Int32 × Int32 × Int32 × Int32 × Int32 × Int32 × Int32 × (Nat → Int32) × (Nat → Int32)) := ((f_X11_wordHere m_typed m_readAt m_text).bind fun o1 => (if o1 < (1 : Int32) then some ((0 : Int32), m_words, m_secretNow, m_guessed, m_left, m_wrong, m_readAt, m_readNumber, m_undoMany, m_codes, m_masks) else (if o1 = (1 : Int32) then (if m_words = (8 : Int32) then some ((0 : Int32), m_words, m_secretNow, m_guessed, m_left, m_wrong, m_readAt, m_readNumber, m_undoMany, m_codes, m_masks) else (if m_guessed = 0 then J_X11_readsItem_33 m_words m_kindNow m_secretNow m_guessed m_left m_wrong m_typed m_readAt m_readNumber m_undoMany m_codes m_masks m_text o1 else some ((0 : Int32), m_words, m_secretNow, m_guessed, m_left, m_wrong, m_readAt, m_readNumber, m_undoMany, m_codes, m_masks))) else J_X11_readsItem_33 m_words m_kindNow m_secretNow m_guessed m_left m_wrong m_typed m_readAt m_readNumber m_undoMany m_codes m_masks m_text o1)))
set_option maxHeartbeats 4000000 in
set_option maxRecDepth 100000 in
theorem J_X11_readsItem_33_W {m_words : Int32} {m_kindNow : Int32} {m_secretNow : Int32} {m_guessed : Int32} {m_left : Int32} {m_wrong : Int32} {m_noteMany : Int32} {m_markMany : Int32} {m_typed : Int32} {m_readAt : Int32} {m_readNumber : Int32} {m_undoMany : Int32} {m_lastGuesses : Int32} {m_above : Int64} {m_below : Int64} {m_refused : (Nat → Int32)} {m_codes : (Nat → Int32)} {m_noted : (Nat → Int32)} {m_marked : (Nat → Int32)} {m_masks : (Nat → Int32)} {m_text : (Nat → Int32)} {m_before : (Nat → Int32)} {m_ahead : (Nat → Int32)} {m_aside : (Nat → Int32)} {m_sure : (Nat → Int32)} {m_wrongs : (Nat → Int32)} {m_says : (Nat → Int32)} {m_evening : (Nat → Int32)} {m_images : (Nat → Int32)} {x1 : Int32} (CF : CallFix p m c cX11_readsItem 2 s args wsAll RX11) (hG : Gd D cI cB cT s) (hA : ∀ q : Nat, s.heap.size ≤ q → A q) {z : Int32 × Int32 × Int32 × Int32 × Int32 × Int32 × Int32 × Int32 × Int32 × (Nat → Int32) × (Nat → Int32)} {H : Heap} {locs : List Loc} (hr : meth.sig.returnType = some .boolean) (hlk : meth.locks = false) {ls : Array Slot} (hP : va_P D vwCl (wd_m a_m a_m_refused a_m_codes a_m_noted a_m_marked a_m_masks a_m_text a_m_before a_m_ahead a_m_aside a_m_sure a_m_wrongs a_m_says a_m_evening a_m_images cI cB cT m_words m_kindNow m_secretNow m_guessed m_left m_wrong m_noteMany m_markMany m_typed m_readAt m_readNumber m_undoMany m_lastGuesses m_above m_below m_refused m_codes m_noted m_marked m_masks m_text m_before m_ahead m_aside m_sure m_wrongs m_says m_evening m_images) H) (hD : va_D A (wd_m a_m a_m_refused a_m_codes a_m_noted a_m_marked a_m_masks a_m_text a_m_before a_m_ahead a_m_aside a_m_sure a_m_wrongs a_m_says a_m_evening a_m_images cI cB cT m_words m_kindNow m_secretNow m_guessed m_left m_wrong m_noteMany m_markMany m_typed m_readAt m_readNumber m_undoMany m_lastGuesses m_above m_below m_refused m_codes m_noted m_marked m_masks m_text m_before m_ahead m_aside m_sure m_wrongs m_says m_evening m_images)) (hS : va_S A s.heap H locs) (hl : lv_has ls 2 [(0, .ref a_m), (1, .int x1)]) (hf : J_X11_readsItem_33 m_words m_kindNow m_secretNow m_guessed m_left m_wrong m_typed m_readAt m_readNumber m_undoMany m_codes m_masks m_text x1 = some z) : W p l e rm_X11_readsItem s m args below meth c H locs 0 0 (MQ below (Qw (some (.int z.1)) D (wd_m a_m a_m_refused a_m_codes a_m_noted a_m_marked a_m_masks a_m_text a_m_before a_m_ahead a_m_aside a_m_sure a_m_wrongs a_m_says a_m_evening a_m_images cI cB cT z.2.1 m_kindNow z.2.2.1 z.2.2.2.1 z.2.2.2.2.1 z.2.2.2.2.2.1 m_noteMany m_markMany m_typed z.2.2.2.2.2.2.1 z.2.2.2.2.2.2.2.1 z.2.2.2.2.2.2.2.2.1 m_lastGuesses m_above m_below m_refused z.2.2.2.2.2.2.2.2.2.1 m_noted m_marked z.2.2.2.2.2.2.2.2.2.2 m_text m_before m_ahead m_aside m_sure m_wrongs m_says m_evening m_images) A) args s 0 0 A) (F0 m 33 ls []) := by
  obtain ⟨hx, hb, hml, hown, hts⟩ := id CF
  unfold J_X11_readsItem_33 at hf
  refine lv_aload_n hx hb dX11_readsItem_33 rfl (lv_at hl 0 rfl) ?_
  refine lv_dup hx hb dX11_readsItem_34 rfl ?_
  refine va_get (D := D) (ci := 9) (v := .int m_readAt) (C := RX11) (T := TX11) (N := 29) hx hb hts fin_X11 hown hG.1 hP 0 ce_m_0 vq_9 15 (by decide) (hts _ wm_937) (fun _ h9 => h9) rfl dX11_readsItem_35 ?_
  refine lv_aload_n hx hb dX11_readsItem_38 rfl (lv_at hl 0 rfl) ?_
  obtain ⟨o5, e6, hf⟩ := lp_bind hf
  refine ro_Vi (x := o5) (As := []) (rest := [.int m_readAt, .ref a_m]) CF (c_X11_wordSize l D cI cB cT a_m a_m_refused a_m_codes a_m_noted a_m_marked a_m_masks a_m_text a_m_before a_m_ahead a_m_aside a_m_sure a_m_wrongs a_m_says a_m_evening a_m_images m_words m_kindNow m_secretNow m_guessed m_left m_wrong m_noteMany m_markMany m_typed m_readAt m_readNumber m_undoMany m_lastGuesses m_above m_below m_refused m_codes m_noted m_marked m_masks m_text m_before m_ahead m_aside m_sure m_wrongs m_says m_evening m_images e6) ok_X11_wordSize wm_1095 ⟨rfl, rfl, Nat.le_of_ble_eq_true rfl, Nat.le_of_ble_eq_true rfl⟩ hG hP 0 9 vq_9 rfl ce_m_0 rfl hl.1 rfl (Nat.le_of_ble_eq_true rfl) ⟨Nat.zero_le _, Nat.zero_le _⟩ dX11_readsItem_39 ?_
  refine lv_iadd hx hb dX11_readsItem_42 ?_
  refine va_put (D := D) (ci := 9) (v := .int (m_readAt + o5)) (ty := .int) (C := RX11) (T := TX11) (N := 29) hx hb hts fin_X11 tyX11 tyX11_ok nmX11 hown hG.1 hP hD hS 0 ce_m_0 vq_9 15 (by decide) (hts _ wm_937) (fun _ h9 => h9) rfl (tyX11_ok 15 (by decide)) rfl rfl (Nat.le_of_ble_eq_true rfl) dX11_readsItem_43 (fun H locs hP _ hS => ?_)
  have hP : va_P D vwCl (wd_m a_m a_m_refused a_m_codes a_m_noted a_m_marked a_m_masks a_m_text a_m_before a_m_ahead a_m_aside a_m_sure a_m_wrongs a_m_says a_m_evening a_m_images cI cB cT m_words m_kindNow m_secretNow m_guessed m_left m_wrong m_noteMany m_markMany m_typed (m_readAt + o5) m_readNumber m_undoMany m_lastGuesses m_above m_below m_refused m_codes m_noted m_marked m_masks m_text m_before m_ahead m_aside m_sure m_wrongs m_says m_evening m_images) H := va_P_eq se_m_m_readAt hP
  have hD : va_D A (wd_m a_m a_m_refused a_m_codes a_m_noted a_m_marked a_m_masks a_m_text a_m_before a_m_ahead a_m_aside a_m_sure a_m_wrongs a_m_says a_m_evening a_m_images cI cB cT m_words m_kindNow m_secretNow m_guessed m_left m_wrong m_noteMany m_markMany m_typed (m_readAt + o5) m_readNumber m_undoMany m_lastGuesses m_above m_below m_refused m_codes m_noted m_marked m_masks m_text m_before m_ahead m_aside m_sure m_wrongs m_says m_evening m_images) := va_D_fst fs_m hD
  refine lv_iload_n hx hb dX11_readsItem_46 rfl (lv_at hl 1 rfl) ?_
  refine lv_iconst (v := (1 : Int32)) hx hb dX11_readsItem_47 (by decide) ?_
  refine lv_icmp_ne (tgt := 58) hx hb dX11_readsItem_48 (by decide) (fun c7 => ?_) (fun c7 => ?_)
  · have hf := fk c7 hf
    refine lv_iload_n hx hb dX11_readsItem_58 rfl (lv_at hl 1 rfl) ?_
    refine lv_iconst (v := (2 : Int32)) hx hb dX11_readsItem_59 (by decide) ?_
    refine lv_icmp_ne (tgt := 70) hx hb dX11_readsItem_60 (by decide) (fun c8 => ?_) (fun c8 => ?_)
    · have hf := fk c8 hf
      refine lv_aload_n hx hb dX11_readsItem_70 rfl (lv_at hl 0 rfl) ?_
      obtain ⟨o9, e10, hf⟩ := lp_bind hf
      refine wr_Wi (x := o9.1) (ws' := (wd_m a_m a_m_refused a_m_codes a_m_noted a_m_marked a_m_masks a_m_text a_m_before a_m_ahead a_m_aside a_m_sure a_m_wrongs a_m_says a_m_evening a_m_images cI cB cT m_words m_kindNow m_secretNow o9.2.1 o9.2.2.1 o9.2.2.2.1 m_noteMany m_markMany m_typed o9.2.2.2.2.1 o9.2.2.2.2.2 m_undoMany m_lastGuesses m_above m_below m_refused m_codes m_noted m_marked m_masks m_text m_before m_ahead m_aside m_sure m_wrongs m_says m_evening m_images)) (As := []) (rest := []) CF (c_X11_readsGuess l D cI cB cT H.size a_m a_m_refused a_m_codes a_m_noted a_m_marked a_m_masks a_m_text a_m_before a_m_ahead a_m_aside a_m_sure a_m_wrongs a_m_says a_m_evening a_m_images m_words m_kindNow m_secretNow m_guessed m_left m_wrong m_noteMany m_markMany m_typed (m_readAt + o5) m_readNumber m_undoMany m_lastGuesses m_above m_below m_refused m_codes m_noted m_marked m_masks m_text m_before m_ahead m_aside m_sure m_wrongs m_says m_evening m_images e10) ok_X11_readsGuess wm_1129 ⟨rfl, rfl, Nat.le_of_ble_eq_true rfl, Nat.le_of_ble_eq_true rfl⟩ hG hP hD hS hA fs_m 0 9 vq_9 rfl ce_m_0 rfl hl.1 rfl (Nat.le_of_ble_eq_true rfl) ⟨Nat.zero_le _, Nat.zero_le _⟩ dX11_readsItem_71 (fun H locs hP hD hS => ?_)
      obtain ⟨n11, hf⟩ := yk hf
      obtain rfl := Option.some.inj hf
      exact wr_zret CF hr hlk n11 hP hS dX11_readsItem_74
    · have hf := tk c8 hf
      refine lv_aload_n hx hb dX11_readsItem_63 rfl (lv_at hl 0 rfl) ?_
      obtain ⟨o12, e13, hf⟩ := lp_bind hf
      refine wr_Wi (x := o12.1) (ws' := (wd_m a_m a_m_refused a_m_codes a_m_noted a_m_marked a_m_masks a_m_text a_m_before a_m_ahead a_m_aside a_m_sure a_m_wrongs a_m_says a_m_evening a_m_images cI cB cT m_words m_kindNow o12.2.1 m_guessed m_left m_wrong m_noteMany m_markMany m_typed o12.2.2.1 o12.2.2.2 m_undoMany m_lastGuesses m_above m_below m_refused m_codes m_noted m_marked m_masks m_text m_before m_ahead m_aside m_sure m_wrongs m_says m_evening m_images)) (As := []) (rest := []) CF (c_X11_readsSecret l D cI cB cT H.size a_m a_m_refused a_m_codes a_m_noted a_m_marked a_m_masks a_m_text a_m_before a_m_ahead a_m_aside a_m_sure a_m_wrongs a_m_says a_m_evening a_m_images m_words m_kindNow m_secretNow m_guessed m_left m_wrong m_noteMany m_markMany m_typed (m_readAt + o5) m_readNumber m_undoMany m_lastGuesses m_above m_below m_refused m_codes m_noted m_marked m_masks m_text m_before m_ahead m_aside m_sure m_wrongs m_says m_evening m_images e13) ok_X11_readsSecret wm_1125 ⟨rfl, rfl, Nat.le_of_ble_eq_true rfl, Nat.le_of_ble_eq_true rfl⟩ hG hP hD hS hA fs_m 0 9 vq_9 rfl ce_m_0 rfl hl.1 rfl (Nat.le_of_ble_eq_true rfl) ⟨Nat.zero_le _, Nat.zero_le _⟩ dX11_readsItem_64 (fun H locs hP hD hS => ?_)
      refine lv_goto (tgt := 74) hx hb dX11_readsItem_67 (by decide) ?_
      obtain ⟨n14, hf⟩ := yk hf
      obtain rfl := Option.some.inj hf
      exact wr_zret CF hr hlk n14 hP hS dX11_readsItem_74
  · have hf := tk c7 hf
    refine lv_aload_n hx hb dX11_readsItem_51 rfl (lv_at hl 0 rfl) ?_
    obtain ⟨o15, e16, hf⟩ := lp_bind hf
    refine wr_Wi (x := o15.1) (ws' := (wd_m a_m a_m_refused a_m_codes a_m_noted a_m_marked a_m_masks a_m_text a_m_before a_m_ahead a_m_aside a_m_sure a_m_wrongs a_m_says a_m_evening a_m_images cI cB cT o15.2.1 m_kindNow m_secretNow o15.2.2.1 o15.2.2.2.1 o15.2.2.2.2.1 m_noteMany m_markMany m_typed o15.2.2.2.2.2.1 o15.2.2.2.2.2.2.1 o15.2.2.2.2.2.2.2.1 m_lastGuesses m_above m_below m_refused o15.2.2.2.2.2.2.2.2.1 m_noted m_marked o15.2.2.2.2.2.2.2.2.2 m_text m_before m_ahead m_aside m_sure m_wrongs m_says m_evening m_images)) (As := []) (rest := []) CF (c_X11_readsWord l D cI cB cT H.size a_m a_m_refused a_m_codes a_m_noted a_m_marked a_m_masks a_m_text a_m_before a_m_ahead a_m_aside a_m_sure a_m_wrongs a_m_says a_m_evening a_m_images m_words m_kindNow m_secretNow m_guessed m_left m_wrong m_noteMany m_markMany m_typed (m_readAt + o5) m_readNumber m_undoMany m_lastGuesses m_above m_below m_refused m_codes m_noted m_marked m_masks m_text m_before m_ahead m_aside m_sure m_wrongs m_says m_evening m_images e16) ok_X11_readsWord wm_1121 ⟨rfl, rfl, Nat.le_of_ble_eq_true rfl, Nat.le_of_ble_eq_true rfl⟩ hG hP hD hS hA fs_m 0 9 vq_9 rfl ce_m_0 rfl hl.1 rfl (Nat.le_of_ble_eq_true rfl) ⟨Nat.zero_le _, Nat.zero_le _⟩ dX11_readsItem_52 (fun H locs hP hD hS => ?_)
    refine lv_goto (tgt := 74) hx hb dX11_readsItem_55 (by decide) ?_
    obtain ⟨n17, hf⟩ := yk hf
    obtain rfl := Option.some.inj hf
    exact wr_zret CF hr hlk n17 hP hS dX11_readsItem_74
set_option maxHeartbeats 4000000 in
set_option maxRecDepth 100000 in
theorem c_X11_readsItem (l : Launch) (D : va_G) (cI cB cT : ClassId) (sz : Nat) (a_m a_m_refused a_m_codes a_m_noted a_m_marked a_m_masks a_m_text a_m_before a_m_ahead a_m_aside a_m_sure a_m_wrongs a_m_says a_m_evening a_m_images : Nat) (m_words : Int32) (m_kindNow : Int32) (m_secretNow : Int32) (m_guessed : Int32) (m_left : Int32) (m_wrong : Int32) (m_noteMany : Int32) (m_markMany : Int32) (m_typed : Int32) (m_readAt : Int32) (m_readNumber : Int32) (m_undoMany : Int32) (m_lastGuesses : Int32) (m_above : Int64) (m_below : Int64) (m_refused : (Nat → Int32)) (m_codes : (Nat → Int32)) (m_noted : (Nat → Int32)) (m_marked : (Nat → Int32)) (m_masks : (Nat → Int32)) (m_text : (Nat → Int32)) (m_before : (Nat → Int32)) (m_ahead : (Nat → Int32)) (m_aside : (Nat → Int32)) (m_sure : (Nat → Int32)) (m_wrongs : (Nat → Int32)) (m_says : (Nat → Int32)) (m_evening : (Nat → Int32)) (m_images : (Nat → Int32)) {z : Int32 × Int32 × Int32 × Int32 × Int32 × Int32 × Int32 × Int32 × Int32 × (Nat → Int32) × (Nat → Int32)} (hf : f_X11_readsItem m_words m_kindNow m_secretNow m_guessed m_left m_wrong m_typed m_readAt m_readNumber m_undoMany m_codes m_masks m_text = some z) :
    Met l yX11_readsItem (Cond.code yX11_readsItem cX11_readsItem 2 (some .boolean) :: wsAll) rm_X11_readsItem (Pwr [.ref a_m] D cI cB cT (wd_m a_m a_m_refused a_m_codes a_m_noted a_m_marked a_m_masks a_m_text a_m_before a_m_ahead a_m_aside a_m_sure a_m_wrongs a_m_says a_m_evening a_m_images cI cB cT m_words m_kindNow m_secretNow m_guessed m_left m_wrong m_noteMany m_markMany m_typed m_readAt m_readNumber m_undoMany m_lastGuesses m_above m_below m_refused m_codes m_noted m_marked m_masks m_text m_before m_ahead m_aside m_sure m_wrongs m_says m_evening m_images) sz) (Qw (some (.int z.1)) D (wd_m a_m a_m_refused a_m_codes a_m_noted a_m_marked a_m_masks a_m_text a_m_before a_m_ahead a_m_aside a_m_sure a_m_wrongs a_m_says a_m_evening a_m_images cI cB cT z.2.1 m_kindNow z.2.2.1 z.2.2.2.1 z.2.2.2.2.1 z.2.2.2.2.2.1 m_noteMany m_markMany m_typed z.2.2.2.2.2.2.1 z.2.2.2.2.2.2.2.1 z.2.2.2.2.2.2.2.2.1 m_lastGuesses m_above m_below m_refused z.2.2.2.2.2.2.2.2.2.1 m_noted m_marked z.2.2.2.2.2.2.2.2.2.2 m_text m_before m_ahead m_aside m_sure m_wrongs m_says m_evening m_images) (va_A (wd_m a_m a_m_refused a_m_codes a_m_noted a_m_marked a_m_masks a_m_text a_m_before a_m_ahead a_m_aside a_m_sure a_m_wrongs a_m_says a_m_evening a_m_images cI cB cT m_words m_kindNow m_secretNow m_guessed m_left m_wrong m_noteMany m_markMany m_typed m_readAt m_readNumber m_undoMany m_lastGuesses m_above m_below m_refused m_codes m_noted m_marked m_masks m_text m_before m_ahead m_aside m_sure m_wrongs m_says m_evening m_images) sz)) 0 0 (va_A (wd_m a_m a_m_refused a_m_codes a_m_noted a_m_marked a_m_masks a_m_text a_m_before a_m_ahead a_m_aside a_m_sure a_m_wrongs a_m_says a_m_evening a_m_images cI cB cT m_words m_kindNow m_secretNow m_guessed m_left m_wrong m_noteMany m_markMany m_typed m_readAt m_readNumber m_undoMany m_lastGuesses m_above m_below m_refused m_codes m_noted m_marked m_masks m_text m_before m_ahead m_aside m_sure m_wrongs m_says m_evening m_images) sz) := by
  refine wr_intro RX11 (by decide +kernel) rfl (Nat.le_of_ble_eq_true rfl) ?_
  intro p e s m below meth c ls A H locs CF hr hlk hG hP hD hS hA hl
  have hl : lv_has ls 2 [(0, .ref a_m)] := hl
  obtain ⟨hx, hb, hml, hown, hts⟩ := id CF
  unfold f_X11_readsItem at hf
  refine lv_aload_n hx hb dX11_readsItem_0 rfl (lv_at hl 0 rfl) ?_
  obtain ⟨o1, e2, hf⟩ := lp_bind hf
  refine ro_Vi (x := o1) (As := []) (rest := []) CF (c_X11_wordHere l D cI cB cT a_m a_m_refused a_m_codes a_m_noted a_m_marked a_m_masks a_m_text a_m_before a_m_ahead a_m_aside a_m_sure a_m_wrongs a_m_says a_m_evening a_m_images m_words m_kindNow m_secretNow m_guessed m_left m_wrong m_noteMany m_markMany m_typed m_readAt m_readNumber m_undoMany m_lastGuesses m_above m_below m_refused m_codes m_noted m_marked m_masks m_text m_before m_ahead m_aside m_sure m_wrongs m_says m_evening m_images e2) ok_X11_wordHere wm_1091 ⟨rfl, rfl, Nat.le_of_ble_eq_true rfl, Nat.le_of_ble_eq_true rfl⟩ hG hP 0 9 vq_9 rfl ce_m_0 rfl hl.1 rfl (Nat.le_of_ble_eq_true rfl) ⟨Nat.zero_le _, Nat.zero_le _⟩ dX11_readsItem_1 ?_
  refine lv_istore_n (lv' := [(1, .int o1), (0, .ref a_m)]) hx hb dX11_readsItem_4 rfl hl (by decide) rfl (fun ls hl => ?_)
  refine lv_iload_n hx hb dX11_readsItem_5 rfl (lv_at hl 0 rfl) ?_
  refine lv_iconst (v := (1 : Int32)) hx hb dX11_readsItem_6 (by decide) ?_
  refine lv_icmp_lt (tgt := 31) hx hb dX11_readsItem_7 (by decide) (fun c3 => ?_) (fun c3 => ?_)
  · have hf := tk c3 hf
    refine lv_iconst (v := (0 : Int32)) hx hb dX11_readsItem_31 (by decide) ?_
    obtain rfl := Option.some.inj hf
    exact wr_zret CF hr hlk (Or.inl rfl) hP hS dX11_readsItem_32
  · have hf := fk c3 hf
    refine lv_iload_n hx hb dX11_readsItem_10 rfl (lv_at hl 0 rfl) ?_
    refine lv_iconst (v := (1 : Int32)) hx hb dX11_readsItem_11 (by decide) ?_
    refine lv_icmp_ne (tgt := 33) hx hb dX11_readsItem_12 (by decide) (fun c4 => ?_) (fun c4 => ?_)
    · have hf := fk c4 hf
      exact J_X11_readsItem_33_W CF hG hA hr hlk hP hD hS (lv_sub hl [1, 0] rfl) hf
    · have hf := tk c4 hf
      refine lv_aload_n hx hb dX11_readsItem_15 rfl (lv_at hl 1 rfl) ?_
      refine va_get (D := D) (ci := 9) (v := .int m_words) (C := RX11) (T := TX11) (N := 29) hx hb hts fin_X11 hown hG.1 hP 0 ce_m_0 vq_9 1 (by decide) (hts _ wm_923) (fun _ h9 => h9) rfl dX11_readsItem_16 ?_
      refine lv_bipush (v := (8 : Int32)) hx hb dX11_readsItem_19 (by decide) ?_
      refine lv_icmp_eq (tgt := 31) hx hb dX11_readsItem_21 (by decide) (fun c18 => ?_) (fun c18 => ?_)
      · have hf := tk c18 hf
        refine lv_iconst (v := (0 : Int32)) hx hb dX11_readsItem_31 (by decide) ?_
        obtain rfl := Option.some.inj hf
        exact wr_zret CF hr hlk (Or.inl rfl) hP hS dX11_readsItem_32
      · have hf := fk c18 hf
        refine lv_aload_n hx hb dX11_readsItem_24 rfl (lv_at hl 1 rfl) ?_
        refine va_get (D := D) (ci := 9) (v := .int m_guessed) (C := RX11) (T := TX11) (N := 29) hx hb hts fin_X11 hown hG.1 hP 0 ce_m_0 vq_9 4 (by decide) (hts _ wm_926) (fun _ h9 => h9) rfl dX11_readsItem_25 ?_
        refine lv_if_eq (tgt := 33) hx hb dX11_readsItem_28 (by decide) (fun c19 => ?_) (fun c19 => ?_)
        · have hf := tk c19 hf
          exact J_X11_readsItem_33_W CF hG hA hr hlk hP hD hS (lv_sub hl [1, 0] rfl) hf
        · have hf := fk c19 hf
          refine lv_iconst (v := (0 : Int32)) hx hb dX11_readsItem_31 (by decide) ?_
          obtain rfl := Option.some.inj hf
          exact wr_zret CF hr hlk (Or.inl rfl) hP hS dX11_readsItem_32
end M_X11_readsItem
