section M_X11_readsWord
variable {p : Program} {l : Launch} {e : Env} {s : State} {m : MethodId} {args : Array Value} {below : List Frame} {meth : Method} {c : Code} {Q : State → Prop} {A : Nat → Prop} {D : va_G} {cI cB cT : ClassId}
variable {a_m a_m_refused a_m_codes a_m_noted a_m_marked a_m_masks a_m_text a_m_before a_m_ahead a_m_aside a_m_sure a_m_wrongs a_m_says a_m_evening a_m_images : Nat}
def rm_X11_readsWord : Room := { frames := 3, cells := 0, slots := 0, locals := 67 }
def B_X11_readsWord_4 (m_words : Int32) (m_typed : Int32) (m_codes : (Nat → Int32)) (m_text : (Nat → Int32)) (x1 : Int32) (x2 : Int32) (m_readAt : Int32) (m_readNumber : Int32) : Option ((Int32 × Int32 × Int32 × Int32) ⊕ (Nat × Int32 × Int32 × Int32 × Int32)) := (if (4 : Int32) ≤ x2 then some (Sum.inr (2, x1, 0, m_readAt, m_readNumber)) else ((f_X11_skip m_typed m_readAt m_text).bind fun o2 => ((f_X11_number m_typed o2 m_readNumber m_text (0 : Int32) (9 : Int32)).bind fun o4 => (if o4.1 = 0 then some (Sum.inr (0, x1, o2, o4.2.1, o4.2.2)) else (if x2 = (3 : Int32) then ((f_X11_isThere m_words m_codes (((10 : Int32) * x1) + o4.2.2)).bind fun o8 => (if o8 = 0 then some (Sum.inl ((((10 : Int32) * x1) + o4.2.2), (x2 + (1 : Int32)), o4.2.1, o4.2.2)) else some (Sum.inr (1, (((10 : Int32) * x1) + o4.2.2), o2, o4.2.1, o4.2.2)))) else some (Sum.inl ((((10 : Int32) * x1) + o4.2.2), (x2 + (1 : Int32)), o4.2.1, o4.2.2)))))))
def f_X11_readsWord (m_words : Int32) (m_guessed : Int32) (m_left : Int32) (m_wrong : Int32) (m_typed : Int32) (m_readAt : Int32) (m_readNumber : Int32) (m_undoMany : Int32) (m_codes : (Nat → Int32)) (m_masks : (Nat → Int32)) (m_text : (Nat → Int32)) : Option (Int32 × Int32 × Int32 × Int32 × Int32 × Int32 × Int32 × Int32 × (Nat → Int32) × (Nat → Int32)) := ((lp (fun v => B_X11_readsWord_4 m_words m_typed m_codes m_text v.1 v.2.1 v.2.2.1 v.2.2.2) KN ((0 : Int32), (0 : Int32), m_readAt, m_readNumber)).bind fun o11 => (if o11.1 = 0 then some ((0 : Int32), m_words, m_guessed, m_left, m_wrong, o11.2.2.2.1, o11.2.2.2.2, m_undoMany, m_codes, m_masks) else (if o11.1 = 1 then some ((0 : Int32), m_words, m_guessed, m_left, m_wrong, o11.2.2.1, o11.2.2.2.2, m_undoMany, m_codes, m_masks) else ((f_X11_ends m_typed o11.2.2.2.1 m_text).bind fun o13 => (if o13.1 = 0 then some ((0 : Int32), m_words, m_guessed, m_left, m_wrong, o13.2, o11.2.2.2.2, m_undoMany, m_codes, m_masks) else ((f_X11_addWord m_words m_codes m_masks o11.2.1).bind fun o16 => some ((1 : Int32), o16.2.1, o16.2.2.1, o16.2.2.2.1, o16.2.2.2.2.1, o13.2, o11.2.2.2.2, o16.2.2.2.2.2.1, o16.2.2.2.2.2.2.1, o16.2.2.2.2.2.2.2)))))))
set_option maxHeartbeats 4000000 in
set_option maxRecDepth 100000 in
theorem B_X11_readsWord_4_W {m_words : Int32} {m_kindNow : Int32} {m_secretNow : Int32} {m_guessed : Int32} {m_left : Int32} {m_wrong : Int32} {m_noteMany : Int32} {m_markMany : Int32} {m_typed : Int32} {m_readAt : Int32} {m_readNumber : Int32} {m_undoMany : Int32} {m_lastGuesses : Int32} {m_above : Int64} {m_below : Int64} {m_refused : (Nat → Int32)} {m_codes : (Nat → Int32)} {m_noted : (Nat → Int32)} {m_marked : (Nat → Int32)} {m_masks : (Nat → Int32)} {m_text : (Nat → Int32)} {m_before : (Nat → Int32)} {m_ahead : (Nat → Int32)} {m_aside : (Nat → Int32)} {m_sure : (Nat → Int32)} {m_wrongs : (Nat → Int32)} {m_says : (Nat → Int32)} {m_evening : (Nat → Int32)} {m_images : (Nat → Int32)} {x1 : Int32} {x2 : Int32} (CF : CallFix p m c cX11_readsWord 4 s args wsAll RX11) (hG : Gd D cI cB cT s) (hA : ∀ q : Nat, s.heap.size ≤ q → A q) {z : (Int32 × Int32 × Int32 × Int32) ⊕ (Nat × Int32 × Int32 × Int32 × Int32)} {H : Heap} {locs : List Loc} (hk : ∀ (v' : Int32 × Int32 × Int32 × Int32) (H : Heap) (locs : List Loc) (ls : Array Slot), z = Sum.inl v' → va_P D vwCl (wd_m a_m a_m_refused a_m_codes a_m_noted a_m_marked a_m_masks a_m_text a_m_before a_m_ahead a_m_aside a_m_sure a_m_wrongs a_m_says a_m_evening a_m_images cI cB cT m_words m_kindNow m_secretNow m_guessed m_left m_wrong m_noteMany m_markMany m_typed (v'.2.2.1) (v'.2.2.2) m_undoMany m_lastGuesses m_above m_below m_refused m_codes m_noted m_marked m_masks m_text m_before m_ahead m_aside m_sure m_wrongs m_says m_evening m_images) H → va_D A (wd_m a_m a_m_refused a_m_codes a_m_noted a_m_marked a_m_masks a_m_text a_m_before a_m_ahead a_m_aside a_m_sure a_m_wrongs a_m_says a_m_evening a_m_images cI cB cT m_words m_kindNow m_secretNow m_guessed m_left m_wrong m_noteMany m_markMany m_typed (v'.2.2.1) (v'.2.2.2) m_undoMany m_lastGuesses m_above m_below m_refused m_codes m_noted m_marked m_masks m_text m_before m_ahead m_aside m_sure m_wrongs m_says m_evening m_images) → va_S A s.heap H locs → lv_has ls 4 [(0, .ref a_m), (1, .int (v'.1)), (2, .int (v'.2.1))] → W p l e rm_X11_readsWord s m args below meth c H locs 0 0 Q (F0 m 4 ls [])) (hx0 : ∀ (o' : Nat × Int32 × Int32 × Int32 × Int32) (H : Heap) (locs : List Loc) (ls : Array Slot), z = Sum.inr o' → o'.1 = 0 → va_P D vwCl (wd_m a_m a_m_refused a_m_codes a_m_noted a_m_marked a_m_masks a_m_text a_m_before a_m_ahead a_m_aside a_m_sure a_m_wrongs a_m_says a_m_evening a_m_images cI cB cT m_words m_kindNow m_secretNow m_guessed m_left m_wrong m_noteMany m_markMany m_typed (o'.2.2.2.1) (o'.2.2.2.2) m_undoMany m_lastGuesses m_above m_below m_refused m_codes m_noted m_marked m_masks m_text m_before m_ahead m_aside m_sure m_wrongs m_says m_evening m_images) H → va_D A (wd_m a_m a_m_refused a_m_codes a_m_noted a_m_marked a_m_masks a_m_text a_m_before a_m_ahead a_m_aside a_m_sure a_m_wrongs a_m_says a_m_evening a_m_images cI cB cT m_words m_kindNow m_secretNow m_guessed m_left m_wrong m_noteMany m_markMany m_typed (o'.2.2.2.1) (o'.2.2.2.2) m_undoMany m_lastGuesses m_above m_below m_refused m_codes m_noted m_marked m_masks m_text m_before m_ahead m_aside m_sure m_wrongs m_says m_evening m_images) → va_S A s.heap H locs → lv_has ls 4 [] → W p l e rm_X11_readsWord s m args below meth c H locs 0 0 Q (F0 m 28 ls [])) (hx1 : ∀ (o' : Nat × Int32 × Int32 × Int32 × Int32) (H : Heap) (locs : List Loc) (ls : Array Slot), z = Sum.inr o' → o'.1 = 1 → va_P D vwCl (wd_m a_m a_m_refused a_m_codes a_m_noted a_m_marked a_m_masks a_m_text a_m_before a_m_ahead a_m_aside a_m_sure a_m_wrongs a_m_says a_m_evening a_m_images cI cB cT m_words m_kindNow m_secretNow m_guessed m_left m_wrong m_noteMany m_markMany m_typed (o'.2.2.2.1) (o'.2.2.2.2) m_undoMany m_lastGuesses m_above m_below m_refused m_codes m_noted m_marked m_masks m_text m_before m_ahead m_aside m_sure m_wrongs m_says m_evening m_images) H → va_D A (wd_m a_m a_m_refused a_m_codes a_m_noted a_m_marked a_m_masks a_m_text a_m_before a_m_ahead a_m_aside a_m_sure a_m_wrongs a_m_says a_m_evening a_m_images cI cB cT m_words m_kindNow m_secretNow m_guessed m_left m_wrong m_noteMany m_markMany m_typed (o'.2.2.2.1) (o'.2.2.2.2) m_undoMany m_lastGuesses m_above m_below m_refused m_codes m_noted m_marked m_masks m_text m_before m_ahead m_aside m_sure m_wrongs m_says m_evening m_images) → va_S A s.heap H locs → lv_has ls 4 [(0, .ref a_m), (3, .int (o'.2.2.1))] → W p l e rm_X11_readsWord s m args below meth c H locs 0 0 Q (F0 m 53 ls [])) (hx2 : ∀ (o' : Nat × Int32 × Int32 × Int32 × Int32) (H : Heap) (locs : List Loc) (ls : Array Slot), z = Sum.inr o' → o'.1 = 2 → va_P D vwCl (wd_m a_m a_m_refused a_m_codes a_m_noted a_m_marked a_m_masks a_m_text a_m_before a_m_ahead a_m_aside a_m_sure a_m_wrongs a_m_says a_m_evening a_m_images cI cB cT m_words m_kindNow m_secretNow m_guessed m_left m_wrong m_noteMany m_markMany m_typed (o'.2.2.2.1) (o'.2.2.2.2) m_undoMany m_lastGuesses m_above m_below m_refused m_codes m_noted m_marked m_masks m_text m_before m_ahead m_aside m_sure m_wrongs m_says m_evening m_images) H → va_D A (wd_m a_m a_m_refused a_m_codes a_m_noted a_m_marked a_m_masks a_m_text a_m_before a_m_ahead a_m_aside a_m_sure a_m_wrongs a_m_says a_m_evening a_m_images cI cB cT m_words m_kindNow m_secretNow m_guessed m_left m_wrong m_noteMany m_markMany m_typed (o'.2.2.2.1) (o'.2.2.2.2) m_undoMany m_lastGuesses m_above m_below m_refused m_codes m_noted m_marked m_masks m_text m_before m_ahead m_aside m_sure m_wrongs m_says m_evening m_images) → va_S A s.heap H locs → lv_has ls 4 [(0, .ref a_m), (1, .int (o'.2.1))] → W p l e rm_X11_readsWord s m args below meth c H locs 0 0 Q (F0 m 66 ls [])) {ls : Array Slot} (hP : va_P D vwCl (wd_m a_m a_m_refused a_m_codes a_m_noted a_m_marked a_m_masks a_m_text a_m_before a_m_ahead a_m_aside a_m_sure a_m_wrongs a_m_says a_m_evening a_m_images cI cB cT m_words m_kindNow m_secretNow m_guessed m_left m_wrong m_noteMany m_markMany m_typed m_readAt m_readNumber m_undoMany m_lastGuesses m_above m_below m_refused m_codes m_noted m_marked m_masks m_text m_before m_ahead m_aside m_sure m_wrongs m_says m_evening m_images) H) (hD : va_D A (wd_m a_m a_m_refused a_m_codes a_m_noted a_m_marked a_m_masks a_m_text a_m_before a_m_ahead a_m_aside a_m_sure a_m_wrongs a_m_says a_m_evening a_m_images cI cB cT m_words m_kindNow m_secretNow m_guessed m_left m_wrong m_noteMany m_markMany m_typed m_readAt m_readNumber m_undoMany m_lastGuesses m_above m_below m_refused m_codes m_noted m_marked m_masks m_text m_before m_ahead m_aside m_sure m_wrongs m_says m_evening m_images)) (hS : va_S A s.heap H locs) (hl : lv_has ls 4 [(0, .ref a_m), (1, .int x1), (2, .int x2)]) (hf : B_X11_readsWord_4 m_words m_typed m_codes m_text x1 x2 m_readAt m_readNumber = some z) : W p l e rm_X11_readsWord s m args below meth c H locs 0 0 Q (F0 m 4 ls []) := by
  obtain ⟨hx, hb, hml, hown, hts⟩ := id CF
  unfold B_X11_readsWord_4 at hf
  refine lv_iload_n hx hb dX11_readsWord_4 rfl (lv_at hl 2 rfl) ?_
  refine lv_iconst (v := (4 : Int32)) hx hb dX11_readsWord_5 (by decide) ?_
  refine lv_icmp_ge (tgt := 66) hx hb dX11_readsWord_6 (by decide) (fun c1 => ?_) (fun c1 => ?_)
  · have hf := tk c1 hf
    exact hx2 _ _ _ _ (Option.some.inj hf).symm rfl hP hD hS (lv_sub hl [0, 1] rfl)
  · have hf := fk c1 hf
    refine lv_aload_n hx hb dX11_readsWord_9 rfl (lv_at hl 0 rfl) ?_
    obtain ⟨o2, e3, hf⟩ := lp_bind hf
    refine wr_Wv (ws' := (wd_m a_m a_m_refused a_m_codes a_m_noted a_m_marked a_m_masks a_m_text a_m_before a_m_ahead a_m_aside a_m_sure a_m_wrongs a_m_says a_m_evening a_m_images cI cB cT m_words m_kindNow m_secretNow m_guessed m_left m_wrong m_noteMany m_markMany m_typed o2 m_readNumber m_undoMany m_lastGuesses m_above m_below m_refused m_codes m_noted m_marked m_masks m_text m_before m_ahead m_aside m_sure m_wrongs m_says m_evening m_images)) (As := []) (rest := []) CF (c_X11_skip l D cI cB cT H.size a_m a_m_refused a_m_codes a_m_noted a_m_marked a_m_masks a_m_text a_m_before a_m_ahead a_m_aside a_m_sure a_m_wrongs a_m_says a_m_evening a_m_images m_words m_kindNow m_secretNow m_guessed m_left m_wrong m_noteMany m_markMany m_typed m_readAt m_readNumber m_undoMany m_lastGuesses m_above m_below m_refused m_codes m_noted m_marked m_masks m_text m_before m_ahead m_aside m_sure m_wrongs m_says m_evening m_images e3) ok_X11_skip wm_1083 ⟨rfl, rfl, Nat.le_of_ble_eq_true rfl, Nat.le_of_ble_eq_true rfl⟩ hG hP hD hS hA fs_m 0 9 vq_9 rfl ce_m_0 rfl hl.1 rfl (Nat.le_of_ble_eq_true rfl) ⟨Nat.zero_le _, Nat.zero_le _⟩ dX11_readsWord_10 (fun H locs hP hD hS => ?_)
    refine lv_aload_n hx hb dX11_readsWord_13 rfl (lv_at hl 0 rfl) ?_
    refine va_get (D := D) (ci := 9) (v := .int o2) (C := RX11) (T := TX11) (N := 29) hx hb hts fin_X11 hown hG.1 hP 0 ce_m_0 vq_9 15 (by decide) (hts _ wm_937) (fun _ h9 => h9) rfl dX11_readsWord_14 ?_
    refine lv_istore_n (lv' := [(3, .int o2), (0, .ref a_m), (1, .int x1), (2, .int x2)]) hx hb dX11_readsWord_17 rfl hl (by decide) rfl (fun ls hl => ?_)
    refine lv_aload_n hx hb dX11_readsWord_18 rfl (lv_at hl 1 rfl) ?_
    refine lv_iconst (v := (0 : Int32)) hx hb dX11_readsWord_19 (by decide) ?_
    refine lv_bipush (v := (9 : Int32)) hx hb dX11_readsWord_20 (by decide) ?_
    obtain ⟨o4, e5, hf⟩ := lp_bind hf
    refine wr_Wi (x := o4.1) (ws' := (wd_m a_m a_m_refused a_m_codes a_m_noted a_m_marked a_m_masks a_m_text a_m_before a_m_ahead a_m_aside a_m_sure a_m_wrongs a_m_says a_m_evening a_m_images cI cB cT m_words m_kindNow m_secretNow m_guessed m_left m_wrong m_noteMany m_markMany m_typed o4.2.1 o4.2.2 m_undoMany m_lastGuesses m_above m_below m_refused m_codes m_noted m_marked m_masks m_text m_before m_ahead m_aside m_sure m_wrongs m_says m_evening m_images)) (As := [.int (0 : Int32), .int (9 : Int32)]) (rest := []) CF (c_X11_number l D cI cB cT H.size a_m a_m_refused a_m_codes a_m_noted a_m_marked a_m_masks a_m_text a_m_before a_m_ahead a_m_aside a_m_sure a_m_wrongs a_m_says a_m_evening a_m_images m_words m_kindNow m_secretNow m_guessed m_left m_wrong m_noteMany m_markMany m_typed o2 m_readNumber m_undoMany m_lastGuesses m_above m_below m_refused m_codes m_noted m_marked m_masks m_text m_before m_ahead m_aside m_sure m_wrongs m_says m_evening m_images (0 : Int32) (9 : Int32) e5) ok_X11_number wm_1106 ⟨rfl, rfl, Nat.le_of_ble_eq_true rfl, Nat.le_of_ble_eq_true rfl⟩ hG hP hD hS hA fs_m 0 9 vq_9 rfl ce_m_0 rfl hl.1 rfl (Nat.le_of_ble_eq_true rfl) ⟨Nat.zero_le _, Nat.zero_le _⟩ dX11_readsWord_22 (fun H locs hP hD hS => ?_)
    refine lv_if_ne (tgt := 30) hx hb dX11_readsWord_25 (by decide) (fun c6 => ?_) (fun c6 => ?_)
    · have hf := fk c6 hf
      refine lv_bipush (v := (10 : Int32)) hx hb dX11_readsWord_30 (by decide) ?_
      refine lv_iload_n hx hb dX11_readsWord_32 rfl (lv_at hl 2 rfl) ?_
      refine lv_imul hx hb dX11_readsWord_33 ?_
      refine lv_aload_n hx hb dX11_readsWord_34 rfl (lv_at hl 1 rfl) ?_
      refine va_get (D := D) (ci := 9) (v := .int o4.2.2) (C := RX11) (T := TX11) (N := 29) hx hb hts fin_X11 hown hG.1 hP 0 ce_m_0 vq_9 16 (by decide) (hts _ wm_938) (fun _ h9 => h9) rfl dX11_readsWord_35 ?_
      refine lv_iadd hx hb dX11_readsWord_38 ?_
      refine lv_istore_n (lv' := [(1, .int (((10 : Int32) * x1) + o4.2.2)), (3, .int o2), (0, .ref a_m), (2, .int x2)]) hx hb dX11_readsWord_39 rfl hl (by decide) rfl (fun ls hl => ?_)
      refine lv_iload_n hx hb dX11_readsWord_40 rfl (lv_at hl 3 rfl) ?_
      refine lv_iconst (v := (3 : Int32)) hx hb dX11_readsWord_41 (by decide) ?_
      refine lv_icmp_ne (tgt := 60) hx hb dX11_readsWord_42 (by decide) (fun c7 => ?_) (fun c7 => ?_)
      · have hf := fk c7 hf
        refine lv_iinc (v := (x2 + (1 : Int32))) (lv' := [(2, .int (x2 + (1 : Int32))), (1, .int (((10 : Int32) * x1) + o4.2.2)), (3, .int o2), (0, .ref a_m)]) hx hb dX11_readsWord_60 hl (k := 3) rfl (iinc_eq (by decide)) (by decide) rfl (fun ls hl => ?_)
        refine lv_goto (tgt := 4) hx hb dX11_readsWord_63 (by decide) ?_
        exact hk _ _ _ _ (Option.some.inj hf).symm hP hD hS (lv_sub hl [3, 1, 0] rfl)
      · have hf := tk c7 hf
        refine lv_aload_n hx hb dX11_readsWord_45 rfl (lv_at hl 2 rfl) ?_
        refine lv_iload_n hx hb dX11_readsWord_46 rfl (lv_at hl 0 rfl) ?_
        obtain ⟨o8, e9, hf⟩ := lp_bind hf
        refine ro_Vi (x := o8) (As := [.int (((10 : Int32) * x1) + o4.2.2)]) (rest := []) CF (c_X11_isThere l D cI cB cT a_m a_m_refused a_m_codes a_m_noted a_m_marked a_m_masks a_m_text a_m_before a_m_ahead a_m_aside a_m_sure a_m_wrongs a_m_says a_m_evening a_m_images m_words m_kindNow m_secretNow m_guessed m_left m_wrong m_noteMany m_markMany m_typed o4.2.1 o4.2.2 m_undoMany m_lastGuesses m_above m_below m_refused m_codes m_noted m_marked m_masks m_text m_before m_ahead m_aside m_sure m_wrongs m_says m_evening m_images (((10 : Int32) * x1) + o4.2.2) e9) ok_X11_isThere wm_1032 ⟨rfl, rfl, Nat.le_of_ble_eq_true rfl, Nat.le_of_ble_eq_true rfl⟩ hG hP 0 9 vq_9 rfl ce_m_0 rfl hl.1 rfl (Nat.le_of_ble_eq_true rfl) ⟨Nat.zero_le _, Nat.zero_le _⟩ dX11_readsWord_47 ?_
        refine lv_if_eq (tgt := 60) hx hb dX11_readsWord_50 (by decide) (fun c10 => ?_) (fun c10 => ?_)
        · have hf := tk c10 hf
          refine lv_iinc (v := (x2 + (1 : Int32))) (lv' := [(2, .int (x2 + (1 : Int32))), (1, .int (((10 : Int32) * x1) + o4.2.2)), (3, .int o2), (0, .ref a_m)]) hx hb dX11_readsWord_60 hl (k := 3) rfl (iinc_eq (by decide)) (by decide) rfl (fun ls hl => ?_)
          refine lv_goto (tgt := 4) hx hb dX11_readsWord_63 (by decide) ?_
          exact hk _ _ _ _ (Option.some.inj hf).symm hP hD hS (lv_sub hl [3, 1, 0] rfl)
        · have hf := fk c10 hf
          exact hx1 _ _ _ _ (Option.some.inj hf).symm rfl hP hD hS (lv_sub hl [2, 1] rfl)
    · have hf := tk c6 hf
      exact hx0 _ _ _ _ (Option.some.inj hf).symm rfl hP hD hS (lv_sub hl [] rfl)
set_option maxHeartbeats 4000000 in
set_option maxRecDepth 100000 in
theorem L_X11_readsWord_4_W {m_words : Int32} {m_kindNow : Int32} {m_secretNow : Int32} {m_guessed : Int32} {m_left : Int32} {m_wrong : Int32} {m_noteMany : Int32} {m_markMany : Int32} {m_typed : Int32} {m_undoMany : Int32} {m_lastGuesses : Int32} {m_above : Int64} {m_below : Int64} {m_refused : (Nat → Int32)} {m_codes : (Nat → Int32)} {m_noted : (Nat → Int32)} {m_marked : (Nat → Int32)} {m_masks : (Nat → Int32)} {m_text : (Nat → Int32)} {m_before : (Nat → Int32)} {m_ahead : (Nat → Int32)} {m_aside : (Nat → Int32)} {m_sure : (Nat → Int32)} {m_wrongs : (Nat → Int32)} {m_says : (Nat → Int32)} {m_evening : (Nat → Int32)} {m_images : (Nat → Int32)} (CF : CallFix p m c cX11_readsWord 4 s args wsAll RX11) (hG : Gd D cI cB cT s) (hA : ∀ q : Nat, s.heap.size ≤ q → A q) {o : Nat × Int32 × Int32 × Int32 × Int32} (hx0 : ∀ (H : Heap) (locs : List Loc) (ls : Array Slot), o.1 = 0 → va_P D vwCl (wd_m a_m a_m_refused a_m_codes a_m_noted a_m_marked a_m_masks a_m_text a_m_before a_m_ahead a_m_aside a_m_sure a_m_wrongs a_m_says a_m_evening a_m_images cI cB cT m_words m_kindNow m_secretNow m_guessed m_left m_wrong m_noteMany m_markMany m_typed o.2.2.2.1 o.2.2.2.2 m_undoMany m_lastGuesses m_above m_below m_refused m_codes m_noted m_marked m_masks m_text m_before m_ahead m_aside m_sure m_wrongs m_says m_evening m_images) H → va_D A (wd_m a_m a_m_refused a_m_codes a_m_noted a_m_marked a_m_masks a_m_text a_m_before a_m_ahead a_m_aside a_m_sure a_m_wrongs a_m_says a_m_evening a_m_images cI cB cT m_words m_kindNow m_secretNow m_guessed m_left m_wrong m_noteMany m_markMany m_typed o.2.2.2.1 o.2.2.2.2 m_undoMany m_lastGuesses m_above m_below m_refused m_codes m_noted m_marked m_masks m_text m_before m_ahead m_aside m_sure m_wrongs m_says m_evening m_images) → va_S A s.heap H locs → lv_has ls 4 [] → W p l e rm_X11_readsWord s m args below meth c H locs 0 0 Q (F0 m 28 ls [])) (hx1 : ∀ (H : Heap) (locs : List Loc) (ls : Array Slot), o.1 = 1 → va_P D vwCl (wd_m a_m a_m_refused a_m_codes a_m_noted a_m_marked a_m_masks a_m_text a_m_before a_m_ahead a_m_aside a_m_sure a_m_wrongs a_m_says a_m_evening a_m_images cI cB cT m_words m_kindNow m_secretNow m_guessed m_left m_wrong m_noteMany m_markMany m_typed o.2.2.2.1 o.2.2.2.2 m_undoMany m_lastGuesses m_above m_below m_refused m_codes m_noted m_marked m_masks m_text m_before m_ahead m_aside m_sure m_wrongs m_says m_evening m_images) H → va_D A (wd_m a_m a_m_refused a_m_codes a_m_noted a_m_marked a_m_masks a_m_text a_m_before a_m_ahead a_m_aside a_m_sure a_m_wrongs a_m_says a_m_evening a_m_images cI cB cT m_words m_kindNow m_secretNow m_guessed m_left m_wrong m_noteMany m_markMany m_typed o.2.2.2.1 o.2.2.2.2 m_undoMany m_lastGuesses m_above m_below m_refused m_codes m_noted m_marked m_masks m_text m_before m_ahead m_aside m_sure m_wrongs m_says m_evening m_images) → va_S A s.heap H locs → lv_has ls 4 [(0, .ref a_m), (3, .int o.2.2.1)] → W p l e rm_X11_readsWord s m args below meth c H locs 0 0 Q (F0 m 53 ls [])) (hx2 : ∀ (H : Heap) (locs : List Loc) (ls : Array Slot), o.1 = 2 → va_P D vwCl (wd_m a_m a_m_refused a_m_codes a_m_noted a_m_marked a_m_masks a_m_text a_m_before a_m_ahead a_m_aside a_m_sure a_m_wrongs a_m_says a_m_evening a_m_images cI cB cT m_words m_kindNow m_secretNow m_guessed m_left m_wrong m_noteMany m_markMany m_typed o.2.2.2.1 o.2.2.2.2 m_undoMany m_lastGuesses m_above m_below m_refused m_codes m_noted m_marked m_masks m_text m_before m_ahead m_aside m_sure m_wrongs m_says m_evening m_images) H → va_D A (wd_m a_m a_m_refused a_m_codes a_m_noted a_m_marked a_m_masks a_m_text a_m_before a_m_ahead a_m_aside a_m_sure a_m_wrongs a_m_says a_m_evening a_m_images cI cB cT m_words m_kindNow m_secretNow m_guessed m_left m_wrong m_noteMany m_markMany m_typed o.2.2.2.1 o.2.2.2.2 m_undoMany m_lastGuesses m_above m_below m_refused m_codes m_noted m_marked m_masks m_text m_before m_ahead m_aside m_sure m_wrongs m_says m_evening m_images) → va_S A s.heap H locs → lv_has ls 4 [(0, .ref a_m), (1, .int o.2.1)] → W p l e rm_X11_readsWord s m args below meth c H locs 0 0 Q (F0 m 66 ls [])) : ∀ (n : Nat) (x1 : Int32) (x2 : Int32) (m_readAt : Int32) (m_readNumber : Int32) (H : Heap) (locs : List Loc) (ls : Array Slot), va_P D vwCl (wd_m a_m a_m_refused a_m_codes a_m_noted a_m_marked a_m_masks a_m_text a_m_before a_m_ahead a_m_aside a_m_sure a_m_wrongs a_m_says a_m_evening a_m_images cI cB cT m_words m_kindNow m_secretNow m_guessed m_left m_wrong m_noteMany m_markMany m_typed m_readAt m_readNumber m_undoMany m_lastGuesses m_above m_below m_refused m_codes m_noted m_marked m_masks m_text m_before m_ahead m_aside m_sure m_wrongs m_says m_evening m_images) H → va_D A (wd_m a_m a_m_refused a_m_codes a_m_noted a_m_marked a_m_masks a_m_text a_m_before a_m_ahead a_m_aside a_m_sure a_m_wrongs a_m_says a_m_evening a_m_images cI cB cT m_words m_kindNow m_secretNow m_guessed m_left m_wrong m_noteMany m_markMany m_typed m_readAt m_readNumber m_undoMany m_lastGuesses m_above m_below m_refused m_codes m_noted m_marked m_masks m_text m_before m_ahead m_aside m_sure m_wrongs m_says m_evening m_images) → va_S A s.heap H locs → lv_has ls 4 [(0, .ref a_m), (1, .int x1), (2, .int x2)] → lp (fun v => B_X11_readsWord_4 m_words m_typed m_codes m_text v.1 v.2.1 v.2.2.1 v.2.2.2) n (x1, x2, m_readAt, m_readNumber) = some o → W p l e rm_X11_readsWord s m args below meth c H locs 0 0 Q (F0 m 4 ls []) := by
  intro n
  induction n with
  | zero =>
    intro x1 x2 m_readAt m_readNumber H locs ls hP hD hS hl hf
    exact (lp_zero hf).elim
  | succ n ih =>
    intro x1 x2 m_readAt m_readNumber H locs ls hP hD hS hl hf
    obtain ⟨z, hz, hf⟩ := lp_succ hf
    refine B_X11_readsWord_4_W CF hG hA ?_ ?_ ?_ ?_ hP hD hS hl hz
    · intro v' H locs ls ez hP hD hS hl
      rcases hf with ⟨v2, ev, hf⟩ | ev
      · cases Sum.inl.inj (ez.symm.trans ev)
        exact ih v'.1 v'.2.1 v'.2.2.1 v'.2.2.2 H locs ls hP hD hS hl hf
      · exact (lp_lr (ez.symm.trans ev)).elim
    · intro o' H locs ls ez et hP hD hS hl
      rcases hf with ⟨v2, ev, hf⟩ | ev
      · exact (lp_lr (ev.symm.trans ez)).elim
      · cases Sum.inr.inj (ez.symm.trans ev)
        exact hx0 H locs ls et hP hD hS hl
    · intro o' H locs ls ez et hP hD hS hl
      rcases hf with ⟨v2, ev, hf⟩ | ev
      · exact (lp_lr (ev.symm.trans ez)).elim
      · cases Sum.inr.inj (ez.symm.trans ev)
        exact hx1 H locs ls et hP hD hS hl
    · intro o' H locs ls ez et hP hD hS hl
      rcases hf with ⟨v2, ev, hf⟩ | ev
      · exact (lp_lr (ev.symm.trans ez)).elim
      · cases Sum.inr.inj (ez.symm.trans ev)
        exact hx2 H locs ls et hP hD hS hl
set_option maxHeartbeats 4000000 in
set_option maxRecDepth 100000 in
theorem c_X11_readsWord (l : Launch) (D : va_G) (cI cB cT : ClassId) (sz : Nat) (a_m a_m_refused a_m_codes a_m_noted a_m_marked a_m_masks a_m_text a_m_before a_m_ahead a_m_aside a_m_sure a_m_wrongs a_m_says a_m_evening a_m_images : Nat) (m_words : Int32) (m_kindNow : Int32) (m_secretNow : Int32) (m_guessed : Int32) (m_left : Int32) (m_wrong : Int32) (m_noteMany : Int32) (m_markMany : Int32) (m_typed : Int32) (m_readAt : Int32) (m_readNumber : Int32) (m_undoMany : Int32) (m_lastGuesses : Int32) (m_above : Int64) (m_below : Int64) (m_refused : (Nat → Int32)) (m_codes : (Nat → Int32)) (m_noted : (Nat → Int32)) (m_marked : (Nat → Int32)) (m_masks : (Nat → Int32)) (m_text : (Nat → Int32)) (m_before : (Nat → Int32)) (m_ahead : (Nat → Int32)) (m_aside : (Nat → Int32)) (m_sure : (Nat → Int32)) (m_wrongs : (Nat → Int32)) (m_says : (Nat → Int32)) (m_evening : (Nat → Int32)) (m_images : (Nat → Int32)) {z : Int32 × Int32 × Int32 × Int32 × Int32 × Int32 × Int32 × Int32 × (Nat → Int32) × (Nat → Int32)} (hf : f_X11_readsWord m_words m_guessed m_left m_wrong m_typed m_readAt m_readNumber m_undoMany m_codes m_masks m_text = some z) :
    Met l yX11_readsWord (Cond.code yX11_readsWord cX11_readsWord 4 (some .boolean) :: wsAll) rm_X11_readsWord (Pwr [.ref a_m] D cI cB cT (wd_m a_m a_m_refused a_m_codes a_m_noted a_m_marked a_m_masks a_m_text a_m_before a_m_ahead a_m_aside a_m_sure a_m_wrongs a_m_says a_m_evening a_m_images cI cB cT m_words m_kindNow m_secretNow m_guessed m_left m_wrong m_noteMany m_markMany m_typed m_readAt m_readNumber m_undoMany m_lastGuesses m_above m_below m_refused m_codes m_noted m_marked m_masks m_text m_before m_ahead m_aside m_sure m_wrongs m_says m_evening m_images) sz) (Qw (some (.int z.1)) D (wd_m a_m a_m_refused a_m_codes a_m_noted a_m_marked a_m_masks a_m_text a_m_before a_m_ahead a_m_aside a_m_sure a_m_wrongs a_m_says a_m_evening a_m_images cI cB cT z.2.1 m_kindNow m_secretNow z.2.2.1 z.2.2.2.1 z.2.2.2.2.1 m_noteMany m_markMany m_typed z.2.2.2.2.2.1 z.2.2.2.2.2.2.1 z.2.2.2.2.2.2.2.1 m_lastGuesses m_above m_below m_refused z.2.2.2.2.2.2.2.2.1 m_noted m_marked z.2.2.2.2.2.2.2.2.2 m_text m_before m_ahead m_aside m_sure m_wrongs m_says m_evening m_images) (va_A (wd_m a_m a_m_refused a_m_codes a_m_noted a_m_marked a_m_masks a_m_text a_m_before a_m_ahead a_m_aside a_m_sure a_m_wrongs a_m_says a_m_evening a_m_images cI cB cT m_words m_kindNow m_secretNow m_guessed m_left m_wrong m_noteMany m_markMany m_typed m_readAt m_readNumber m_undoMany m_lastGuesses m_above m_below m_refused m_codes m_noted m_marked m_masks m_text m_before m_ahead m_aside m_sure m_wrongs m_says m_evening m_images) sz)) 0 0 (va_A (wd_m a_m a_m_refused a_m_codes a_m_noted a_m_marked a_m_masks a_m_text a_m_before a_m_ahead a_m_aside a_m_sure a_m_wrongs a_m_says a_m_evening a_m_images cI cB cT m_words m_kindNow m_secretNow m_guessed m_left m_wrong m_noteMany m_markMany m_typed m_readAt m_readNumber m_undoMany m_lastGuesses m_above m_below m_refused m_codes m_noted m_marked m_masks m_text m_before m_ahead m_aside m_sure m_wrongs m_says m_evening m_images) sz) := by
  refine wr_intro RX11 (by decide +kernel) rfl (Nat.le_of_ble_eq_true rfl) ?_
  intro p e s m below meth c ls A H locs CF hr hlk hG hP hD hS hA hl
  have hl : lv_has ls 4 [(0, .ref a_m)] := hl
  obtain ⟨hx, hb, hml, hown, hts⟩ := id CF
  unfold f_X11_readsWord at hf
  refine lv_iconst (v := (0 : Int32)) hx hb dX11_readsWord_0 (by decide) ?_
  refine lv_istore_n (lv' := [(1, .int (0 : Int32)), (0, .ref a_m)]) hx hb dX11_readsWord_1 rfl hl (by decide) rfl (fun ls hl => ?_)
  refine lv_iconst (v := (0 : Int32)) hx hb dX11_readsWord_2 (by decide) ?_
  refine lv_istore_n (lv' := [(2, .int (0 : Int32)), (1, .int (0 : Int32)), (0, .ref a_m)]) hx hb dX11_readsWord_3 rfl hl (by decide) rfl (fun ls hl => ?_)
  obtain ⟨o11, e12, hf⟩ := lp_bind hf
  refine L_X11_readsWord_4_W CF hG hA ?_ ?_ ?_ KN _ _ _ _ _ _ _ hP hD hS (lv_sub hl [2, 1, 0] rfl) e12
  · intro H locs ls et hP hD hS hl
    have hf := tk et hf
    refine lv_iconst (v := (0 : Int32)) hx hb dX11_readsWord_28 (by decide) ?_
    obtain rfl := Option.some.inj hf
    exact wr_zret CF hr hlk (Or.inl rfl) hP hS dX11_readsWord_29
  · intro H locs ls et hP hD hS hl
    have hf := fk (by rw [et]; decide) hf
    have hf := tk et hf
    refine lv_aload_n hx hb dX11_readsWord_53 rfl (lv_at hl 0 rfl) ?_
    refine lv_iload_n hx hb dX11_readsWord_54 rfl (lv_at hl 1 rfl) ?_
    refine va_put (D := D) (ci := 9) (v := .int o11.2.2.1) (ty := .int) (C := RX11) (T := TX11) (N := 29) hx hb hts fin_X11 tyX11 tyX11_ok nmX11 hown hG.1 hP hD hS 0 ce_m_0 vq_9 15 (by decide) (hts _ wm_937) (fun _ h9 => h9) rfl (tyX11_ok 15 (by decide)) rfl rfl (Nat.le_of_ble_eq_true rfl) dX11_readsWord_55 (fun H locs hP _ hS => ?_)
    have hP : va_P D vwCl (wd_m a_m a_m_refused a_m_codes a_m_noted a_m_marked a_m_masks a_m_text a_m_before a_m_ahead a_m_aside a_m_sure a_m_wrongs a_m_says a_m_evening a_m_images cI cB cT m_words m_kindNow m_secretNow m_guessed m_left m_wrong m_noteMany m_markMany m_typed o11.2.2.1 o11.2.2.2.2 m_undoMany m_lastGuesses m_above m_below m_refused m_codes m_noted m_marked m_masks m_text m_before m_ahead m_aside m_sure m_wrongs m_says m_evening m_images) H := va_P_eq se_m_m_readAt hP
    have hD : va_D A (wd_m a_m a_m_refused a_m_codes a_m_noted a_m_marked a_m_masks a_m_text a_m_before a_m_ahead a_m_aside a_m_sure a_m_wrongs a_m_says a_m_evening a_m_images cI cB cT m_words m_kindNow m_secretNow m_guessed m_left m_wrong m_noteMany m_markMany m_typed o11.2.2.1 o11.2.2.2.2 m_undoMany m_lastGuesses m_above m_below m_refused m_codes m_noted m_marked m_masks m_text m_before m_ahead m_aside m_sure m_wrongs m_says m_evening m_images) := va_D_fst fs_m hD
    refine lv_iconst (v := (0 : Int32)) hx hb dX11_readsWord_58 (by decide) ?_
    obtain rfl := Option.some.inj hf
    exact wr_zret CF hr hlk (Or.inl rfl) hP hS dX11_readsWord_59
  · intro H locs ls et hP hD hS hl
    have hf := fk (by rw [et]; decide) hf
    have hf := fk (by rw [et]; decide) hf
    refine lv_aload_n hx hb dX11_readsWord_66 rfl (lv_at hl 0 rfl) ?_
    obtain ⟨o13, e14, hf⟩ := lp_bind hf
    refine wr_Wi (x := o13.1) (ws' := (wd_m a_m a_m_refused a_m_codes a_m_noted a_m_marked a_m_masks a_m_text a_m_before a_m_ahead a_m_aside a_m_sure a_m_wrongs a_m_says a_m_evening a_m_images cI cB cT m_words m_kindNow m_secretNow m_guessed m_left m_wrong m_noteMany m_markMany m_typed o13.2 o11.2.2.2.2 m_undoMany m_lastGuesses m_above m_below m_refused m_codes m_noted m_marked m_masks m_text m_before m_ahead m_aside m_sure m_wrongs m_says m_evening m_images)) (As := []) (rest := []) CF (c_X11_ends l D cI cB cT H.size a_m a_m_refused a_m_codes a_m_noted a_m_marked a_m_masks a_m_text a_m_before a_m_ahead a_m_aside a_m_sure a_m_wrongs a_m_says a_m_evening a_m_images m_words m_kindNow m_secretNow m_guessed m_left m_wrong m_noteMany m_markMany m_typed o11.2.2.2.1 o11.2.2.2.2 m_undoMany m_lastGuesses m_above m_below m_refused m_codes m_noted m_marked m_masks m_text m_before m_ahead m_aside m_sure m_wrongs m_says m_evening m_images e14) ok_X11_ends wm_1113 ⟨rfl, rfl, Nat.le_of_ble_eq_true rfl, Nat.le_of_ble_eq_true rfl⟩ hG hP hD hS hA fs_m 0 9 vq_9 rfl ce_m_0 rfl hl.1 rfl (Nat.le_of_ble_eq_true rfl) ⟨Nat.zero_le _, Nat.zero_le _⟩ dX11_readsWord_67 (fun H locs hP hD hS => ?_)
    refine lv_if_ne (tgt := 75) hx hb dX11_readsWord_70 (by decide) (fun c15 => ?_) (fun c15 => ?_)
    · have hf := fk c15 hf
      refine lv_aload_n hx hb dX11_readsWord_75 rfl (lv_at hl 0 rfl) ?_
      refine lv_iload_n hx hb dX11_readsWord_76 rfl (lv_at hl 1 rfl) ?_
      obtain ⟨o16, e17, hf⟩ := lp_bind hf
      refine wr_Wi (x := o16.1) (ws' := (wd_m a_m a_m_refused a_m_codes a_m_noted a_m_marked a_m_masks a_m_text a_m_before a_m_ahead a_m_aside a_m_sure a_m_wrongs a_m_says a_m_evening a_m_images cI cB cT o16.2.1 m_kindNow m_secretNow o16.2.2.1 o16.2.2.2.1 o16.2.2.2.2.1 m_noteMany m_markMany m_typed o13.2 o11.2.2.2.2 o16.2.2.2.2.2.1 m_lastGuesses m_above m_below m_refused o16.2.2.2.2.2.2.1 m_noted m_marked o16.2.2.2.2.2.2.2 m_text m_before m_ahead m_aside m_sure m_wrongs m_says m_evening m_images)) (As := [.int o11.2.1]) (rest := []) CF (c_X11_addWord l D cI cB cT H.size a_m a_m_refused a_m_codes a_m_noted a_m_marked a_m_masks a_m_text a_m_before a_m_ahead a_m_aside a_m_sure a_m_wrongs a_m_says a_m_evening a_m_images m_words m_kindNow m_secretNow m_guessed m_left m_wrong m_noteMany m_markMany m_typed o13.2 o11.2.2.2.2 m_undoMany m_lastGuesses m_above m_below m_refused m_codes m_noted m_marked m_masks m_text m_before m_ahead m_aside m_sure m_wrongs m_says m_evening m_images o11.2.1 e17) ok_X11_addWord wm_1044 ⟨rfl, rfl, Nat.le_of_ble_eq_true rfl, Nat.le_of_ble_eq_true rfl⟩ hG hP hD hS hA fs_m 0 9 vq_9 rfl ce_m_0 rfl hl.1 rfl (Nat.le_of_ble_eq_true rfl) ⟨Nat.zero_le _, Nat.zero_le _⟩ dX11_readsWord_77 (fun H locs hP hD hS => ?_)
      refine lv_pop hx hb dX11_readsWord_80 rfl ?_
      refine lv_iconst (v := (1 : Int32)) hx hb dX11_readsWord_81 (by decide) ?_
      obtain rfl := Option.some.inj hf
      exact wr_zret CF hr hlk (Or.inr rfl) hP hS dX11_readsWord_82
    · have hf := tk c15 hf
      refine lv_iconst (v := (0 : Int32)) hx hb dX11_readsWord_73 (by decide) ?_
      obtain rfl := Option.some.inj hf
      exact wr_zret CF hr hlk (Or.inl rfl) hP hS dX11_readsWord_74
end M_X11_readsWord
section M_X11_readsSecret
variable {p : Program} {l : Launch} {e : Env} {s : State} {m : MethodId} {args : Array Value} {below : List Frame} {meth : Method} {c : Code} {Q : State → Prop} {A : Nat → Prop} {D : va_G} {cI cB cT : ClassId}
variable {a_m a_m_refused a_m_codes a_m_noted a_m_marked a_m_masks a_m_text a_m_before a_m_ahead a_m_aside a_m_sure a_m_wrongs a_m_says a_m_evening a_m_images : Nat}
def rm_X11_readsSecret : Room := { frames := 3, cells := 0, slots := 0, locals := 66 }
def f_X11_readsSecret (m_words : Int32) (m_secretNow : Int32) (m_typed : Int32) (m_readAt : Int32) (m_readNumber : Int32) (m_text : (Nat → Int32)) : Option (Int32 × Int32 × Int32 × Int32) := ((f_X11_number m_typed m_readAt m_readNumber m_text (0 : Int32) (m_words - (1 : Int32))).bind fun o1 => (if o1.1 = 0 then some ((0 : Int32), m_secretNow, o1.2.1, o1.2.2) else ((f_X11_ends m_typed o1.2.1 m_text).bind fun o4 => (if (o4.1 = 0 ∨ o4.1 = 1) then some (o4.1, o1.2.2, o4.2, o1.2.2) else none))))
set_option maxHeartbeats 4000000 in
set_option maxRecDepth 100000 in
theorem c_X11_readsSecret (l : Launch) (D : va_G) (cI cB cT : ClassId) (sz : Nat) (a_m a_m_refused a_m_codes a_m_noted a_m_marked a_m_masks a_m_text a_m_before a_m_ahead a_m_aside a_m_sure a_m_wrongs a_m_says a_m_evening a_m_images : Nat) (m_words : Int32) (m_kindNow : Int32) (m_secretNow : Int32) (m_guessed : Int32) (m_left : Int32) (m_wrong : Int32) (m_noteMany : Int32) (m_markMany : Int32) (m_typed : Int32) (m_readAt : Int32) (m_readNumber : Int32) (m_undoMany : Int32) (m_lastGuesses : Int32) (m_above : Int64) (m_below : Int64) (m_refused : (Nat → Int32)) (m_codes : (Nat → Int32)) (m_noted : (Nat → Int32)) (m_marked : (Nat → Int32)) (m_masks : (Nat → Int32)) (m_text : (Nat → Int32)) (m_before : (Nat → Int32)) (m_ahead : (Nat → Int32)) (m_aside : (Nat → Int32)) (m_sure : (Nat → Int32)) (m_wrongs : (Nat → Int32)) (m_says : (Nat → Int32)) (m_evening : (Nat → Int32)) (m_images : (Nat → Int32)) {z : Int32 × Int32 × Int32 × Int32} (hf : f_X11_readsSecret m_words m_secretNow m_typed m_readAt m_readNumber m_text = some z) :
    Met l yX11_readsSecret (Cond.code yX11_readsSecret cX11_readsSecret 1 (some .boolean) :: wsAll) rm_X11_readsSecret (Pwr [.ref a_m] D cI cB cT (wd_m a_m a_m_refused a_m_codes a_m_noted a_m_marked a_m_masks a_m_text a_m_before a_m_ahead a_m_aside a_m_sure a_m_wrongs a_m_says a_m_evening a_m_images cI cB cT m_words m_kindNow m_secretNow m_guessed m_left m_wrong m_noteMany m_markMany m_typed m_readAt m_readNumber m_undoMany m_lastGuesses m_above m_below m_refused m_codes m_noted m_marked m_masks m_text m_before m_ahead m_aside m_sure m_wrongs m_says m_evening m_images) sz) (Qw (some (.int z.1)) D (wd_m a_m a_m_refused a_m_codes a_m_noted a_m_marked a_m_masks a_m_text a_m_before a_m_ahead a_m_aside a_m_sure a_m_wrongs a_m_says a_m_evening a_m_images cI cB cT m_words m_kindNow z.2.1 m_guessed m_left m_wrong m_noteMany m_markMany m_typed z.2.2.1 z.2.2.2 m_undoMany m_lastGuesses m_above m_below m_refused m_codes m_noted m_marked m_masks m_text m_before m_ahead m_aside m_sure m_wrongs m_says m_evening m_images) (va_A (wd_m a_m a_m_refused a_m_codes a_m_noted a_m_marked a_m_masks a_m_text a_m_before a_m_ahead a_m_aside a_m_sure a_m_wrongs a_m_says a_m_evening a_m_images cI cB cT m_words m_kindNow m_secretNow m_guessed m_left m_wrong m_noteMany m_markMany m_typed m_readAt m_readNumber m_undoMany m_lastGuesses m_above m_below m_refused m_codes m_noted m_marked m_masks m_text m_before m_ahead m_aside m_sure m_wrongs m_says m_evening m_images) sz)) 0 0 (va_A (wd_m a_m a_m_refused a_m_codes a_m_noted a_m_marked a_m_masks a_m_text a_m_before a_m_ahead a_m_aside a_m_sure a_m_wrongs a_m_says a_m_evening a_m_images cI cB cT m_words m_kindNow m_secretNow m_guessed m_left m_wrong m_noteMany m_markMany m_typed m_readAt m_readNumber m_undoMany m_lastGuesses m_above m_below m_refused m_codes m_noted m_marked m_masks m_text m_before m_ahead m_aside m_sure m_wrongs m_says m_evening m_images) sz) := by
  refine wr_intro RX11 (by decide +kernel) rfl (Nat.le_of_ble_eq_true rfl) ?_
  intro p e s m below meth c ls A H locs CF hr hlk hG hP hD hS hA hl
  have hl : lv_has ls 1 [(0, .ref a_m)] := hl
  obtain ⟨hx, hb, hml, hown, hts⟩ := id CF
  unfold f_X11_readsSecret at hf
  refine lv_aload_n hx hb dX11_readsSecret_0 rfl (lv_at hl 0 rfl) ?_
  refine lv_iconst (v := (0 : Int32)) hx hb dX11_readsSecret_1 (by decide) ?_
  refine lv_aload_n hx hb dX11_readsSecret_2 rfl (lv_at hl 0 rfl) ?_
  refine va_get (D := D) (ci := 9) (v := .int m_words) (C := RX11) (T := TX11) (N := 29) hx hb hts fin_X11 hown hG.1 hP 0 ce_m_0 vq_9 1 (by decide) (hts _ wm_923) (fun _ h9 => h9) rfl dX11_readsSecret_3 ?_
  refine lv_iconst (v := (1 : Int32)) hx hb dX11_readsSecret_6 (by decide) ?_
  refine lv_isub hx hb dX11_readsSecret_7 ?_
  obtain ⟨o1, e2, hf⟩ := lp_bind hf
  refine wr_Wi (x := o1.1) (ws' := (wd_m a_m a_m_refused a_m_codes a_m_noted a_m_marked a_m_masks a_m_text a_m_before a_m_ahead a_m_aside a_m_sure a_m_wrongs a_m_says a_m_evening a_m_images cI cB cT m_words m_kindNow m_secretNow m_guessed m_left m_wrong m_noteMany m_markMany m_typed o1.2.1 o1.2.2 m_undoMany m_lastGuesses m_above m_below m_refused m_codes m_noted m_marked m_masks m_text m_before m_ahead m_aside m_sure m_wrongs m_says m_evening m_images)) (As := [.int (0 : Int32), .int (m_words - (1 : Int32))]) (rest := []) CF (c_X11_number l D cI cB cT H.size a_m a_m_refused a_m_codes a_m_noted a_m_marked a_m_masks a_m_text a_m_before a_m_ahead a_m_aside a_m_sure a_m_wrongs a_m_says a_m_evening a_m_images m_words m_kindNow m_secretNow m_guessed m_left m_wrong m_noteMany m_markMany m_typed m_readAt m_readNumber m_undoMany m_lastGuesses m_above m_below m_refused m_codes m_noted m_marked m_masks m_text m_before m_ahead m_aside m_sure m_wrongs m_says m_evening m_images (0 : Int32) (m_words - (1 : Int32)) e2) ok_X11_number wm_1106 ⟨rfl, rfl, Nat.le_of_ble_eq_true rfl, Nat.le_of_ble_eq_true rfl⟩ hG hP hD hS hA fs_m 0 9 vq_9 rfl ce_m_0 rfl hl.1 rfl (Nat.le_of_ble_eq_true rfl) ⟨Nat.zero_le _, Nat.zero_le _⟩ dX11_readsSecret_8 (fun H locs hP hD hS => ?_)
  refine lv_if_ne (tgt := 16) hx hb dX11_readsSecret_11 (by decide) (fun c3 => ?_) (fun c3 => ?_)
  · have hf := fk c3 hf
    refine lv_aload_n hx hb dX11_readsSecret_16 rfl (lv_at hl 0 rfl) ?_
    refine lv_aload_n hx hb dX11_readsSecret_17 rfl (lv_at hl 0 rfl) ?_
    refine va_get (D := D) (ci := 9) (v := .int o1.2.2) (C := RX11) (T := TX11) (N := 29) hx hb hts fin_X11 hown hG.1 hP 0 ce_m_0 vq_9 16 (by decide) (hts _ wm_938) (fun _ h9 => h9) rfl dX11_readsSecret_18 ?_
    refine va_put (D := D) (ci := 9) (v := .int o1.2.2) (ty := .int) (C := RX11) (T := TX11) (N := 29) hx hb hts fin_X11 tyX11 tyX11_ok nmX11 hown hG.1 hP hD hS 0 ce_m_0 vq_9 3 (by decide) (hts _ wm_925) (fun _ h9 => h9) rfl (tyX11_ok 3 (by decide)) rfl rfl (Nat.le_of_ble_eq_true rfl) dX11_readsSecret_21 (fun H locs hP _ hS => ?_)
    have hP : va_P D vwCl (wd_m a_m a_m_refused a_m_codes a_m_noted a_m_marked a_m_masks a_m_text a_m_before a_m_ahead a_m_aside a_m_sure a_m_wrongs a_m_says a_m_evening a_m_images cI cB cT m_words m_kindNow o1.2.2 m_guessed m_left m_wrong m_noteMany m_markMany m_typed o1.2.1 o1.2.2 m_undoMany m_lastGuesses m_above m_below m_refused m_codes m_noted m_marked m_masks m_text m_before m_ahead m_aside m_sure m_wrongs m_says m_evening m_images) H := va_P_eq se_m_m_secretNow hP
    have hD : va_D A (wd_m a_m a_m_refused a_m_codes a_m_noted a_m_marked a_m_masks a_m_text a_m_before a_m_ahead a_m_aside a_m_sure a_m_wrongs a_m_says a_m_evening a_m_images cI cB cT m_words m_kindNow o1.2.2 m_guessed m_left m_wrong m_noteMany m_markMany m_typed o1.2.1 o1.2.2 m_undoMany m_lastGuesses m_above m_below m_refused m_codes m_noted m_marked m_masks m_text m_before m_ahead m_aside m_sure m_wrongs m_says m_evening m_images) := va_D_fst fs_m hD
    refine lv_aload_n hx hb dX11_readsSecret_24 rfl (lv_at hl 0 rfl) ?_
    obtain ⟨o4, e5, hf⟩ := lp_bind hf
    refine wr_Wi (x := o4.1) (ws' := (wd_m a_m a_m_refused a_m_codes a_m_noted a_m_marked a_m_masks a_m_text a_m_before a_m_ahead a_m_aside a_m_sure a_m_wrongs a_m_says a_m_evening a_m_images cI cB cT m_words m_kindNow o1.2.2 m_guessed m_left m_wrong m_noteMany m_markMany m_typed o4.2 o1.2.2 m_undoMany m_lastGuesses m_above m_below m_refused m_codes m_noted m_marked m_masks m_text m_before m_ahead m_aside m_sure m_wrongs m_says m_evening m_images)) (As := []) (rest := []) CF (c_X11_ends l D cI cB cT H.size a_m a_m_refused a_m_codes a_m_noted a_m_marked a_m_masks a_m_text a_m_before a_m_ahead a_m_aside a_m_sure a_m_wrongs a_m_says a_m_evening a_m_images m_words m_kindNow o1.2.2 m_guessed m_left m_wrong m_noteMany m_markMany m_typed o1.2.1 o1.2.2 m_undoMany m_lastGuesses m_above m_below m_refused m_codes m_noted m_marked m_masks m_text m_before m_ahead m_aside m_sure m_wrongs m_says m_evening m_images e5) ok_X11_ends wm_1113 ⟨rfl, rfl, Nat.le_of_ble_eq_true rfl, Nat.le_of_ble_eq_true rfl⟩ hG hP hD hS hA fs_m 0 9 vq_9 rfl ce_m_0 rfl hl.1 rfl (Nat.le_of_ble_eq_true rfl) ⟨Nat.zero_le _, Nat.zero_le _⟩ dX11_readsSecret_25 (fun H locs hP hD hS => ?_)
    obtain ⟨n6, hf⟩ := yk hf
    obtain rfl := Option.some.inj hf
    exact wr_zret CF hr hlk n6 hP hS dX11_readsSecret_28
  · have hf := tk c3 hf
    refine lv_iconst (v := (0 : Int32)) hx hb dX11_readsSecret_14 (by decide) ?_
    obtain rfl := Option.some.inj hf
    exact wr_zret CF hr hlk (Or.inl rfl) hP hS dX11_readsSecret_15
end M_X11_readsSecret
section M_X11_has
variable {p : Program} {l : Launch} {e : Env} {s : State} {m : MethodId} {args : Array Value} {below : List Frame} {meth : Method} {c : Code} {Q : State → Prop} {A : Nat → Prop} {D : va_G} {cI cB cT : ClassId}
def rm_X11_has : Room := { frames := 0, cells := 0, slots := 0, locals := 0 }
def f_X11_has (p1 : Int32) (p2 : Int32) : Option (Int32) := (if ((p1 >>> (p2 &&& 31)) &&& (1 : Int32)) = (1 : Int32) then some (1 : Int32) else some (0 : Int32))
set_option maxHeartbeats 4000000 in
set_option maxRecDepth 100000 in
theorem c_X11_has (l : Launch) (D : va_G) (cI cB cT : ClassId) (p1 : Int32) (p2 : Int32) {z : Int32} (hf : f_X11_has p1 p2 = some z) :
    Met l yX11_has (Cond.code yX11_has cX11_has 2 (some .boolean) :: wsAll) rm_X11_has (Pro [.int p1, .int p2] D cI cB cT wd_E) (Qr (some (.int z))) 0 0 (fun _ => False) := by
  refine ro_intro RX11 (by decide +kernel) rfl (Nat.le_of_ble_eq_true rfl) ?_
  intro p e s m below meth c ls CF hr hlk hG hP hl
  have hl : lv_has ls 2 [(0, .int p1), (1, .int p2)] := hl
  obtain ⟨hx, hb, hml, hown, hts⟩ := id CF
  unfold f_X11_has at hf
  refine lv_iload_n hx hb dX11_has_0 rfl (lv_at hl 0 rfl) ?_
  refine lv_iload_n hx hb dX11_has_1 rfl (lv_at hl 1 rfl) ?_
  refine lv_ishr hx hb dX11_has_2 ?_
  refine lv_iconst (v := (1 : Int32)) hx hb dX11_has_3 (by decide) ?_
  refine lv_iand hx hb dX11_has_4 ?_
  refine lv_iconst (v := (1 : Int32)) hx hb dX11_has_5 (by decide) ?_
  refine lv_icmp_ne (tgt := 13) hx hb dX11_has_6 (by decide) (fun c1 => ?_) (fun c1 => ?_)
  · have hf := fk c1 hf
    refine lv_iconst (v := (0 : Int32)) hx hb dX11_has_13 (by decide) ?_
    obtain rfl := Option.some.inj hf
    exact ro_zret CF hr hlk (Or.inl rfl) dX11_has_14
  · have hf := tk c1 hf
    refine lv_iconst (v := (1 : Int32)) hx hb dX11_has_9 (by decide) ?_
    refine lv_goto (tgt := 14) hx hb dX11_has_10 (by decide) ?_
    obtain rfl := Option.some.inj hf
    exact ro_zret CF hr hlk (Or.inr rfl) dX11_has_14
end M_X11_has
section M_X11_bits
variable {p : Program} {l : Launch} {e : Env} {s : State} {m : MethodId} {args : Array Value} {below : List Frame} {meth : Method} {c : Code} {Q : State → Prop} {A : Nat → Prop} {D : va_G} {cI cB cT : ClassId}
def rm_X11_bits : Room := { frames := 0, cells := 0, slots := 0, locals := 0 }
def B_X11_bits_4 (x0 : Int32) (x1 : Int32) (x2 : Int32) : Option ((Int32 × Int32) ⊕ (Int32)) := (if (10 : Int32) ≤ x2 then some (Sum.inr x1) else some (Sum.inl ((x1 + ((x0 >>> (x2 &&& 31)) &&& (1 : Int32))), (x2 + (1 : Int32)))))
def f_X11_bits (p1 : Int32) : Option (Int32) := ((lp (fun v => B_X11_bits_4 p1 v.1 v.2) KN ((0 : Int32), (0 : Int32))).bind fun o2 => some o2)
set_option maxHeartbeats 4000000 in
set_option maxRecDepth 100000 in
theorem B_X11_bits_4_W {x0 : Int32} {x1 : Int32} {x2 : Int32} (CF : CallFix p m c cX11_bits 3 s args wsAll RX11) (hG : Gd D cI cB cT s) {z : (Int32 × Int32) ⊕ (Int32)} (hk : ∀ (v' : Int32 × Int32) (ls : Array Slot), z = Sum.inl v' → lv_has ls 3 [(0, .int x0), (1, .int (v'.1)), (2, .int (v'.2))] → W p l e rm_X11_bits s m args below meth c s.heap [] 0 0 Q (F0 m 4 ls [])) (hx0 : ∀ (o' : Int32) (ls : Array Slot), z = Sum.inr o' → lv_has ls 3 [(1, .int (o'))] → W p l e rm_X11_bits s m args below meth c s.heap [] 0 0 Q (F0 m 24 ls [])) {ls : Array Slot} (hP : va_P D vwCl wd_E s.heap) (hl : lv_has ls 3 [(0, .int x0), (1, .int x1), (2, .int x2)]) (hf : B_X11_bits_4 x0 x1 x2 = some z) : W p l e rm_X11_bits s m args below meth c s.heap [] 0 0 Q (F0 m 4 ls []) := by
  obtain ⟨hx, hb, hml, hown, hts⟩ := id CF
  unfold B_X11_bits_4 at hf
  refine lv_iload_n hx hb dX11_bits_4 rfl (lv_at hl 2 rfl) ?_
  refine lv_bipush (v := (10 : Int32)) hx hb dX11_bits_5 (by decide) ?_
  refine lv_icmp_ge (tgt := 24) hx hb dX11_bits_7 (by decide) (fun c1 => ?_) (fun c1 => ?_)
  · have hf := tk c1 hf
    exact hx0 _ _ (Option.some.inj hf).symm (lv_sub hl [1] rfl)
  · have hf := fk c1 hf
    refine lv_iload_n hx hb dX11_bits_10 rfl (lv_at hl 1 rfl) ?_
    refine lv_iload_n hx hb dX11_bits_11 rfl (lv_at hl 0 rfl) ?_
    refine lv_iload_n hx hb dX11_bits_12 rfl (lv_at hl 2 rfl) ?_
    refine lv_ishr hx hb dX11_bits_13 ?_
    refine lv_iconst (v := (1 : Int32)) hx hb dX11_bits_14 (by decide) ?_
    refine lv_iand hx hb dX11_bits_15 ?_
    refine lv_iadd hx hb dX11_bits_16 ?_
    refine lv_istore_n (lv' := [(1, .int (x1 + ((x0 >>> (x2 &&& 31)) &&& (1 : Int32)))), (0, .int x0), (2, .int x2)]) hx hb dX11_bits_17 rfl hl (by decide) rfl (fun ls hl => ?_)
    refine lv_iinc (v := (x2 + (1 : Int32))) (lv' := [(2, .int (x2 + (1 : Int32))), (1, .int (x1 + ((x0 >>> (x2 &&& 31)) &&& (1 : Int32)))), (0, .int x0)]) hx hb dX11_bits_18 hl (k := 2) rfl (iinc_eq (by decide)) (by decide) rfl (fun ls hl => ?_)
    refine lv_goto (tgt := 4) hx hb dX11_bits_21 (by decide) ?_
    exact hk _ _ (Option.some.inj hf).symm (lv_sub hl [2, 1, 0] rfl)
set_option maxHeartbeats 4000000 in
set_option maxRecDepth 100000 in
theorem L_X11_bits_4_W {x0 : Int32} (CF : CallFix p m c cX11_bits 3 s args wsAll RX11) (hG : Gd D cI cB cT s) {o : Int32} (hx0 : ∀ (ls : Array Slot), lv_has ls 3 [(1, .int o)] → W p l e rm_X11_bits s m args below meth c s.heap [] 0 0 Q (F0 m 24 ls [])) : ∀ (n : Nat) (x1 : Int32) (x2 : Int32) (ls : Array Slot), va_P D vwCl wd_E s.heap → lv_has ls 3 [(0, .int x0), (1, .int x1), (2, .int x2)] → lp (fun v => B_X11_bits_4 x0 v.1 v.2) n (x1, x2) = some o → W p l e rm_X11_bits s m args below meth c s.heap [] 0 0 Q (F0 m 4 ls []) := by
  intro n
  induction n with
  | zero =>
    intro x1 x2 ls hP hl hf
    exact (lp_zero hf).elim
  | succ n ih =>
    intro x1 x2 ls hP hl hf
    obtain ⟨z, hz, hf⟩ := lp_succ hf
    refine B_X11_bits_4_W CF hG ?_ ?_ hP hl hz
    · intro v' ls ez hl
      rcases hf with ⟨v2, ev, hf⟩ | ev
      · cases Sum.inl.inj (ez.symm.trans ev)
        exact ih v'.1 v'.2 ls hP hl hf
      · exact (lp_lr (ez.symm.trans ev)).elim
    · intro o' ls ez hl
      rcases hf with ⟨v2, ev, hf⟩ | ev
      · exact (lp_lr (ev.symm.trans ez)).elim
      · cases Sum.inr.inj (ez.symm.trans ev)
        exact hx0 ls  hl
set_option maxHeartbeats 4000000 in
set_option maxRecDepth 100000 in
theorem c_X11_bits (l : Launch) (D : va_G) (cI cB cT : ClassId) (p1 : Int32) {z : Int32} (hf : f_X11_bits p1 = some z) :
    Met l yX11_bits (Cond.code yX11_bits cX11_bits 3 (some .int) :: wsAll) rm_X11_bits (Pro [.int p1] D cI cB cT wd_E) (Qr (some (.int z))) 0 0 (fun _ => False) := by
  refine ro_intro RX11 (by decide +kernel) rfl (Nat.le_of_ble_eq_true rfl) ?_
  intro p e s m below meth c ls CF hr hlk hG hP hl
  have hl : lv_has ls 3 [(0, .int p1)] := hl
  obtain ⟨hx, hb, hml, hown, hts⟩ := id CF
  unfold f_X11_bits at hf
  refine lv_iconst (v := (0 : Int32)) hx hb dX11_bits_0 (by decide) ?_
  refine lv_istore_n (lv' := [(1, .int (0 : Int32)), (0, .int p1)]) hx hb dX11_bits_1 rfl hl (by decide) rfl (fun ls hl => ?_)
  refine lv_iconst (v := (0 : Int32)) hx hb dX11_bits_2 (by decide) ?_
  refine lv_istore_n (lv' := [(2, .int (0 : Int32)), (1, .int (0 : Int32)), (0, .int p1)]) hx hb dX11_bits_3 rfl hl (by decide) rfl (fun ls hl => ?_)
  obtain ⟨o2, e3, hf⟩ := lp_bind hf
  refine L_X11_bits_4_W CF hG ?_ KN _ _ _ hP (lv_sub hl [2, 1, 0] rfl) e3
  intro ls hl
  refine lv_iload_n hx hb dX11_bits_24 rfl (lv_at hl 0 rfl) ?_
  obtain rfl := Option.some.inj hf
  exact ro_iret CF hr hlk dX11_bits_25
end M_X11_bits
section M_X11_keptOf
variable {p : Program} {l : Launch} {e : Env} {s : State} {m : MethodId} {args : Array Value} {below : List Frame} {meth : Method} {c : Code} {Q : State → Prop} {A : Nat → Prop} {D : va_G} {cI cB cT : ClassId}
variable {a_m a_m_refused a_m_codes a_m_noted a_m_marked a_m_masks a_m_text a_m_before a_m_ahead a_m_aside a_m_sure a_m_wrongs a_m_says a_m_evening a_m_images : Nat}
def rm_X11_keptOf : Room := { frames := 1, cells := 0, slots := 0, locals := 21 }
def B_X11_keptOf_18 (x1 : Int32) (x2 : Int32) : Option ((Int32) ⊕ (Int32)) := ((f_X11_has x1 x2).bind fun o4 => (if o4 = 0 then some (Sum.inl (x2 + (1 : Int32))) else some (Sum.inr x2)))
def f_X11_keptOf (m_secretNow : Int32) (p1 : Int32) : Option (Int32) := ((f_X11_has p1 m_secretNow).bind fun o1 => (if o1 = 0 then ((lp (fun v => B_X11_keptOf_18 p1 v) KN (0 : Int32)).bind fun o7 => some o7) else some m_secretNow))
set_option maxHeartbeats 4000000 in
set_option maxRecDepth 100000 in
theorem B_X11_keptOf_18_W {m_words : Int32} {m_kindNow : Int32} {m_secretNow : Int32} {m_guessed : Int32} {m_left : Int32} {m_wrong : Int32} {m_noteMany : Int32} {m_markMany : Int32} {m_typed : Int32} {m_readAt : Int32} {m_readNumber : Int32} {m_undoMany : Int32} {m_lastGuesses : Int32} {m_above : Int64} {m_below : Int64} {m_refused : (Nat → Int32)} {m_codes : (Nat → Int32)} {m_noted : (Nat → Int32)} {m_marked : (Nat → Int32)} {m_masks : (Nat → Int32)} {m_text : (Nat → Int32)} {m_before : (Nat → Int32)} {m_ahead : (Nat → Int32)} {m_aside : (Nat → Int32)} {m_sure : (Nat → Int32)} {m_wrongs : (Nat → Int32)} {m_says : (Nat → Int32)} {m_evening : (Nat → Int32)} {m_images : (Nat → Int32)} {x1 : Int32} {x2 : Int32} (CF : CallFix p m c cX11_keptOf 3 s args wsAll RX11) (hG : Gd D cI cB cT s) {z : (Int32) ⊕ (Int32)} (hk : ∀ (v' : Int32) (ls : Array Slot), z = Sum.inl v' → lv_has ls 3 [(1, .int x1), (2, .int (v'))] → W p l e rm_X11_keptOf s m args below meth c s.heap [] 0 0 Q (F0 m 18 ls [])) (hx0 : ∀ (o' : Int32) (ls : Array Slot), z = Sum.inr o' → lv_has ls 3 [(2, .int (o'))] → W p l e rm_X11_keptOf s m args below meth c s.heap [] 0 0 Q (F0 m 32 ls [])) {ls : Array Slot} (hP : va_P D vwCl (wd_m a_m a_m_refused a_m_codes a_m_noted a_m_marked a_m_masks a_m_text a_m_before a_m_ahead a_m_aside a_m_sure a_m_wrongs a_m_says a_m_evening a_m_images cI cB cT m_words m_kindNow m_secretNow m_guessed m_left m_wrong m_noteMany m_markMany m_typed m_readAt m_readNumber m_undoMany m_lastGuesses m_above m_below m_refused m_codes m_noted m_marked m_masks m_text m_before m_ahead m_aside m_sure m_wrongs m_says m_evening m_images) s.heap) (hl : lv_has ls 3 [(1, .int x1), (2, .int x2)]) (hf : B_X11_keptOf_18 x1 x2 = some z) : W p l e rm_X11_keptOf s m args below meth c s.heap [] 0 0 Q (F0 m 18 ls []) := by
  obtain ⟨hx, hb, hml, hown, hts⟩ := id CF
  unfold B_X11_keptOf_18 at hf
  refine lv_iload_n hx hb dX11_keptOf_18 rfl (lv_at hl 0 rfl) ?_
  refine lv_iload_n hx hb dX11_keptOf_19 rfl (lv_at hl 1 rfl) ?_
  obtain ⟨o4, e5, hf⟩ := lp_bind hf
  refine ro_Si (x := o4) (As := [.int x1, .int x2]) (rest := []) CF (c_X11_has l D cI cB cT x1 x2 e5) ok_X11_has wm_1133 ⟨rfl, rfl, Nat.le_of_ble_eq_true rfl, Nat.le_of_ble_eq_true rfl⟩ hG wd_E_P rfl hl.1 rfl (Nat.le_of_ble_eq_true rfl) ⟨Nat.zero_le _, Nat.zero_le _⟩ dX11_keptOf_20 ?_
  refine lv_if_ne (tgt := 32) hx hb dX11_keptOf_23 (by decide) (fun c6 => ?_) (fun c6 => ?_)
  · have hf := fk c6 hf
    exact hx0 _ _ (Option.some.inj hf).symm (lv_sub hl [1] rfl)
  · have hf := tk c6 hf
    refine lv_iinc (v := (x2 + (1 : Int32))) (lv' := [(2, .int (x2 + (1 : Int32))), (1, .int x1)]) hx hb dX11_keptOf_26 hl (k := 1) rfl (iinc_eq (by decide)) (by decide) rfl (fun ls hl => ?_)
    refine lv_goto (tgt := 18) hx hb dX11_keptOf_29 (by decide) ?_
    exact hk _ _ (Option.some.inj hf).symm (lv_sub hl [1, 0] rfl)
set_option maxHeartbeats 4000000 in
set_option maxRecDepth 100000 in
theorem L_X11_keptOf_18_W {m_words : Int32} {m_kindNow : Int32} {m_secretNow : Int32} {m_guessed : Int32} {m_left : Int32} {m_wrong : Int32} {m_noteMany : Int32} {m_markMany : Int32} {m_typed : Int32} {m_readAt : Int32} {m_readNumber : Int32} {m_undoMany : Int32} {m_lastGuesses : Int32} {m_above : Int64} {m_below : Int64} {m_refused : (Nat → Int32)} {m_codes : (Nat → Int32)} {m_noted : (Nat → Int32)} {m_marked : (Nat → Int32)} {m_masks : (Nat → Int32)} {m_text : (Nat → Int32)} {m_before : (Nat → Int32)} {m_ahead : (Nat → Int32)} {m_aside : (Nat → Int32)} {m_sure : (Nat → Int32)} {m_wrongs : (Nat → Int32)} {m_says : (Nat → Int32)} {m_evening : (Nat → Int32)} {m_images : (Nat → Int32)} {x1 : Int32} (CF : CallFix p m c cX11_keptOf 3 s args wsAll RX11) (hG : Gd D cI cB cT s) {o : Int32} (hx0 : ∀ (ls : Array Slot), lv_has ls 3 [(2, .int o)] → W p l e rm_X11_keptOf s m args below meth c s.heap [] 0 0 Q (F0 m 32 ls [])) : ∀ (n : Nat) (x2 : Int32) (ls : Array Slot), va_P D vwCl (wd_m a_m a_m_refused a_m_codes a_m_noted a_m_marked a_m_masks a_m_text a_m_before a_m_ahead a_m_aside a_m_sure a_m_wrongs a_m_says a_m_evening a_m_images cI cB cT m_words m_kindNow m_secretNow m_guessed m_left m_wrong m_noteMany m_markMany m_typed m_readAt m_readNumber m_undoMany m_lastGuesses m_above m_below m_refused m_codes m_noted m_marked m_masks m_text m_before m_ahead m_aside m_sure m_wrongs m_says m_evening m_images) s.heap → lv_has ls 3 [(1, .int x1), (2, .int x2)] → lp (fun v => B_X11_keptOf_18 x1 v) n x2 = some o → W p l e rm_X11_keptOf s m args below meth c s.heap [] 0 0 Q (F0 m 18 ls []) := by
  intro n
  induction n with
  | zero =>
    intro x2 ls hP hl hf
    exact (lp_zero hf).elim
  | succ n ih =>
    intro x2 ls hP hl hf
    obtain ⟨z, hz, hf⟩ := lp_succ hf
    refine B_X11_keptOf_18_W CF hG ?_ ?_ hP hl hz
    · intro v' ls ez hl
      rcases hf with ⟨v2, ev, hf⟩ | ev
      · cases Sum.inl.inj (ez.symm.trans ev)
        exact ih v' ls hP hl hf
      · exact (lp_lr (ez.symm.trans ev)).elim
    · intro o' ls ez hl
      rcases hf with ⟨v2, ev, hf⟩ | ev
      · exact (lp_lr (ev.symm.trans ez)).elim
      · cases Sum.inr.inj (ez.symm.trans ev)
        exact hx0 ls  hl
set_option maxHeartbeats 4000000 in
set_option maxRecDepth 100000 in
theorem c_X11_keptOf (l : Launch) (D : va_G) (cI cB cT : ClassId) (a_m a_m_refused a_m_codes a_m_noted a_m_marked a_m_masks a_m_text a_m_before a_m_ahead a_m_aside a_m_sure a_m_wrongs a_m_says a_m_evening a_m_images : Nat) (m_words : Int32) (m_kindNow : Int32) (m_secretNow : Int32) (m_guessed : Int32) (m_left : Int32) (m_wrong : Int32) (m_noteMany : Int32) (m_markMany : Int32) (m_typed : Int32) (m_readAt : Int32) (m_readNumber : Int32) (m_undoMany : Int32) (m_lastGuesses : Int32) (m_above : Int64) (m_below : Int64) (m_refused : (Nat → Int32)) (m_codes : (Nat → Int32)) (m_noted : (Nat → Int32)) (m_marked : (Nat → Int32)) (m_masks : (Nat → Int32)) (m_text : (Nat → Int32)) (m_before : (Nat → Int32)) (m_ahead : (Nat → Int32)) (m_aside : (Nat → Int32)) (m_sure : (Nat → Int32)) (m_wrongs : (Nat → Int32)) (m_says : (Nat → Int32)) (m_evening : (Nat → Int32)) (m_images : (Nat → Int32)) (p1 : Int32) {z : Int32} (hf : f_X11_keptOf m_secretNow p1 = some z) :
    Met l yX11_keptOf (Cond.code yX11_keptOf cX11_keptOf 3 (some .int) :: wsAll) rm_X11_keptOf (Pro [.ref a_m, .int p1] D cI cB cT (wd_m a_m a_m_refused a_m_codes a_m_noted a_m_marked a_m_masks a_m_text a_m_before a_m_ahead a_m_aside a_m_sure a_m_wrongs a_m_says a_m_evening a_m_images cI cB cT m_words m_kindNow m_secretNow m_guessed m_left m_wrong m_noteMany m_markMany m_typed m_readAt m_readNumber m_undoMany m_lastGuesses m_above m_below m_refused m_codes m_noted m_marked m_masks m_text m_before m_ahead m_aside m_sure m_wrongs m_says m_evening m_images)) (Qr (some (.int z))) 0 0 (fun _ => False) := by
  refine ro_intro RX11 (by decide +kernel) rfl (Nat.le_of_ble_eq_true rfl) ?_
  intro p e s m below meth c ls CF hr hlk hG hP hl
  have hl : lv_has ls 3 [(0, .ref a_m), (1, .int p1)] := hl
  obtain ⟨hx, hb, hml, hown, hts⟩ := id CF
  unfold f_X11_keptOf at hf
  refine lv_iload_n hx hb dX11_keptOf_0 rfl (lv_at hl 1 rfl) ?_
  refine lv_aload_n hx hb dX11_keptOf_1 rfl (lv_at hl 0 rfl) ?_
  refine va_get (D := D) (ci := 9) (v := .int m_secretNow) (C := RX11) (T := TX11) (N := 29) hx hb hts fin_X11 hown hG.1 hP 0 ce_m_0 vq_9 3 (by decide) (hts _ wm_925) (fun _ h9 => h9) rfl dX11_keptOf_2 ?_
  obtain ⟨o1, e2, hf⟩ := lp_bind hf
  refine ro_Si (x := o1) (As := [.int p1, .int m_secretNow]) (rest := []) CF (c_X11_has l D cI cB cT p1 m_secretNow e2) ok_X11_has wm_1133 ⟨rfl, rfl, Nat.le_of_ble_eq_true rfl, Nat.le_of_ble_eq_true rfl⟩ hG wd_E_P rfl hl.1 rfl (Nat.le_of_ble_eq_true rfl) ⟨Nat.zero_le _, Nat.zero_le _⟩ dX11_keptOf_5 ?_
  refine lv_if_eq (tgt := 16) hx hb dX11_keptOf_8 (by decide) (fun c3 => ?_) (fun c3 => ?_)
  · have hf := tk c3 hf
    refine lv_iconst (v := (0 : Int32)) hx hb dX11_keptOf_16 (by decide) ?_
    refine lv_istore_n (lv' := [(2, .int (0 : Int32)), (0, .ref a_m), (1, .int p1)]) hx hb dX11_keptOf_17 rfl hl (by decide) rfl (fun ls hl => ?_)
    obtain ⟨o7, e8, hf⟩ := lp_bind hf
    refine L_X11_keptOf_18_W CF hG ?_ KN _ _ hP (lv_sub hl [2, 0] rfl) e8
    intro ls hl
    refine lv_iload_n hx hb dX11_keptOf_32 rfl (lv_at hl 0 rfl) ?_
    obtain rfl := Option.some.inj hf
    exact ro_iret CF hr hlk dX11_keptOf_33
  · have hf := fk c3 hf
    refine lv_aload_n hx hb dX11_keptOf_11 rfl (lv_at hl 0 rfl) ?_
    refine va_get (D := D) (ci := 9) (v := .int m_secretNow) (C := RX11) (T := TX11) (N := 29) hx hb hts fin_X11 hown hG.1 hP 0 ce_m_0 vq_9 3 (by decide) (hts _ wm_925) (fun _ h9 => h9) rfl dX11_keptOf_12 ?_
    obtain rfl := Option.some.inj hf
    exact ro_iret CF hr hlk dX11_keptOf_15
end M_X11_keptOf
section M_X11_maskOf
variable {p : Program} {l : Launch} {e : Env} {s : State} {m : MethodId} {args : Array Value} {below : List Frame} {meth : Method} {c : Code} {Q : State → Prop} {A : Nat → Prop} {D : va_G} {cI cB cT : ClassId}
variable {a_m a_m_refused a_m_codes a_m_noted a_m_marked a_m_masks a_m_text a_m_before a_m_ahead a_m_aside a_m_sure a_m_wrongs a_m_says a_m_evening a_m_images : Nat}
def rm_X11_maskOf : Room := { frames := 0, cells := 0, slots := 0, locals := 0 }
def f_X11_maskOf (m_masks : (Nat → Int32)) (p1 : Int32) (p2 : Int32) : Option (Int32) := (if oob (((10 : Int32) * p1) + p2) 80 then none else some (m_masks ((((10 : Int32) * p1) + p2)).toNatClampNeg))
set_option maxHeartbeats 4000000 in
set_option maxRecDepth 100000 in
theorem c_X11_maskOf (l : Launch) (D : va_G) (cI cB cT : ClassId) (a_m a_m_refused a_m_codes a_m_noted a_m_marked a_m_masks a_m_text a_m_before a_m_ahead a_m_aside a_m_sure a_m_wrongs a_m_says a_m_evening a_m_images : Nat) (m_words : Int32) (m_kindNow : Int32) (m_secretNow : Int32) (m_guessed : Int32) (m_left : Int32) (m_wrong : Int32) (m_noteMany : Int32) (m_markMany : Int32) (m_typed : Int32) (m_readAt : Int32) (m_readNumber : Int32) (m_undoMany : Int32) (m_lastGuesses : Int32) (m_above : Int64) (m_below : Int64) (m_refused : (Nat → Int32)) (m_codes : (Nat → Int32)) (m_noted : (Nat → Int32)) (m_marked : (Nat → Int32)) (m_masks : (Nat → Int32)) (m_text : (Nat → Int32)) (m_before : (Nat → Int32)) (m_ahead : (Nat → Int32)) (m_aside : (Nat → Int32)) (m_sure : (Nat → Int32)) (m_wrongs : (Nat → Int32)) (m_says : (Nat → Int32)) (m_evening : (Nat → Int32)) (m_images : (Nat → Int32)) (p1 : Int32) (p2 : Int32) {z : Int32} (hf : f_X11_maskOf m_masks p1 p2 = some z) :
    Met l yX11_maskOf (Cond.code yX11_maskOf cX11_maskOf 3 (some .int) :: wsAll) rm_X11_maskOf (Pro [.ref a_m, .int p1, .int p2] D cI cB cT (wd_m a_m a_m_refused a_m_codes a_m_noted a_m_marked a_m_masks a_m_text a_m_before a_m_ahead a_m_aside a_m_sure a_m_wrongs a_m_says a_m_evening a_m_images cI cB cT m_words m_kindNow m_secretNow m_guessed m_left m_wrong m_noteMany m_markMany m_typed m_readAt m_readNumber m_undoMany m_lastGuesses m_above m_below m_refused m_codes m_noted m_marked m_masks m_text m_before m_ahead m_aside m_sure m_wrongs m_says m_evening m_images)) (Qr (some (.int z))) 0 0 (fun _ => False) := by
  refine ro_intro RX11 (by decide +kernel) rfl (Nat.le_of_ble_eq_true rfl) ?_
  intro p e s m below meth c ls CF hr hlk hG hP hl
  have hl : lv_has ls 3 [(0, .ref a_m), (1, .int p1), (2, .int p2)] := hl
  obtain ⟨hx, hb, hml, hown, hts⟩ := id CF
  unfold f_X11_maskOf at hf
  refine lv_aload_n hx hb dX11_maskOf_0 rfl (lv_at hl 0 rfl) ?_
  refine va_get (D := D) (ci := 9) (v := .ref a_m_masks) (C := RX11) (T := TX11) (N := 29) hx hb hts fin_X11 hown hG.1 hP 0 ce_m_0 vq_9 12 (by decide) (hts _ wm_934) (fun _ h9 => h9) rfl dX11_maskOf_1 ?_
  refine lv_bipush (v := (10 : Int32)) hx hb dX11_maskOf_4 (by decide) ?_
  refine lv_iload_n hx hb dX11_maskOf_6 rfl (lv_at hl 1 rfl) ?_
  refine lv_imul hx hb dX11_maskOf_7 ?_
  refine lv_iload_n hx hb dX11_maskOf_8 rfl (lv_at hl 2 rfl) ?_
  refine lv_iadd hx hb dX11_maskOf_9 ?_
  obtain ⟨n1, hf⟩ := nk hf
  refine va_iald (f := m_masks) hx hb hG.1 hP 5 0 ce_m_5 rfl n1 dX11_maskOf_10 ?_
  obtain rfl := Option.some.inj hf
  exact ro_iret CF hr hlk dX11_maskOf_11
end M_X11_maskOf
section M_X11_haveMask
variable {p : Program} {l : Launch} {e : Env} {s : State} {m : MethodId} {args : Array Value} {below : List Frame} {meth : Method} {c : Code} {Q : State → Prop} {A : Nat → Prop} {D : va_G} {cI cB cT : ClassId}
variable {a_m a_m_refused a_m_codes a_m_noted a_m_marked a_m_masks a_m_text a_m_before a_m_ahead a_m_aside a_m_sure a_m_wrongs a_m_says a_m_evening a_m_images : Nat}
def rm_X11_haveMask : Room := { frames := 1, cells := 0, slots := 0, locals := 22 }
def B_X11_haveMask_6 (m_words : Int32) (m_masks : (Nat → Int32)) (x1 : Int32) (x2 : Int32) (x3 : Int32) (x4 : Int32) (x5 : Int32) : Option ((Int32 × Int32) ⊕ (Int32)) := (if m_words ≤ x5 then some (Sum.inr x4) else ((f_X11_has x1 x5).bind fun o2 => (if o2 = 0 then some (Sum.inl ((x4 + (0 : Int32)), (x5 + (1 : Int32)))) else ((f_X11_maskOf m_masks x5 x2).bind fun o5 => (if o5 = x3 then some (Sum.inl ((x4 + (1 : Int32)), (x5 + (1 : Int32)))) else some (Sum.inl ((x4 + (0 : Int32)), (x5 + (1 : Int32)))))))))
def f_X11_haveMask (m_words : Int32) (m_masks : (Nat → Int32)) (p1 : Int32) (p2 : Int32) (p3 : Int32) : Option (Int32) := ((lp (fun v => B_X11_haveMask_6 m_words m_masks p1 p2 p3 v.1 v.2) KN ((0 : Int32), (0 : Int32))).bind fun o8 => some o8)
set_option maxHeartbeats 4000000 in
set_option maxRecDepth 100000 in
theorem B_X11_haveMask_6_W {m_words : Int32} {m_kindNow : Int32} {m_secretNow : Int32} {m_guessed : Int32} {m_left : Int32} {m_wrong : Int32} {m_noteMany : Int32} {m_markMany : Int32} {m_typed : Int32} {m_readAt : Int32} {m_readNumber : Int32} {m_undoMany : Int32} {m_lastGuesses : Int32} {m_above : Int64} {m_below : Int64} {m_refused : (Nat → Int32)} {m_codes : (Nat → Int32)} {m_noted : (Nat → Int32)} {m_marked : (Nat → Int32)} {m_masks : (Nat → Int32)} {m_text : (Nat → Int32)} {m_before : (Nat → Int32)} {m_ahead : (Nat → Int32)} {m_aside : (Nat → Int32)} {m_sure : (Nat → Int32)} {m_wrongs : (Nat → Int32)} {m_says : (Nat → Int32)} {m_evening : (Nat → Int32)} {m_images : (Nat → Int32)} {x1 : Int32} {x2 : Int32} {x3 : Int32} {x4 : Int32} {x5 : Int32} (CF : CallFix p m c cX11_haveMask 6 s args wsAll RX11) (hG : Gd D cI cB cT s) {z : (Int32 × Int32) ⊕ (Int32)} (hk : ∀ (v' : Int32 × Int32) (ls : Array Slot), z = Sum.inl v' → lv_has ls 6 [(0, .ref a_m), (1, .int x1), (2, .int x2), (3, .int x3), (4, .int (v'.1)), (5, .int (v'.2))] → W p l e rm_X11_haveMask s m args below meth c s.heap [] 0 0 Q (F0 m 6 ls [])) (hx0 : ∀ (o' : Int32) (ls : Array Slot), z = Sum.inr o' → lv_has ls 6 [(4, .int (o'))] → W p l e rm_X11_haveMask s m args below meth c s.heap [] 0 0 Q (F0 m 51 ls [])) {ls : Array Slot} (hP : va_P D vwCl (wd_m a_m a_m_refused a_m_codes a_m_noted a_m_marked a_m_masks a_m_text a_m_before a_m_ahead a_m_aside a_m_sure a_m_wrongs a_m_says a_m_evening a_m_images cI cB cT m_words m_kindNow m_secretNow m_guessed m_left m_wrong m_noteMany m_markMany m_typed m_readAt m_readNumber m_undoMany m_lastGuesses m_above m_below m_refused m_codes m_noted m_marked m_masks m_text m_before m_ahead m_aside m_sure m_wrongs m_says m_evening m_images) s.heap) (hl : lv_has ls 6 [(0, .ref a_m), (1, .int x1), (2, .int x2), (3, .int x3), (4, .int x4), (5, .int x5)]) (hf : B_X11_haveMask_6 m_words m_masks x1 x2 x3 x4 x5 = some z) : W p l e rm_X11_haveMask s m args below meth c s.heap [] 0 0 Q (F0 m 6 ls []) := by
  obtain ⟨hx, hb, hml, hown, hts⟩ := id CF
  unfold B_X11_haveMask_6 at hf
  refine lv_iload hx hb dX11_haveMask_6 (lv_at hl 5 rfl) ?_
  refine lv_aload_n hx hb dX11_haveMask_8 rfl (lv_at hl 0 rfl) ?_
  refine va_get (D := D) (ci := 9) (v := .int m_words) (C := RX11) (T := TX11) (N := 29) hx hb hts fin_X11 hown hG.1 hP 0 ce_m_0 vq_9 1 (by decide) (hts _ wm_923) (fun _ h9 => h9) rfl dX11_haveMask_9 ?_
  refine lv_icmp_ge (tgt := 51) hx hb dX11_haveMask_12 (by decide) (fun c1 => ?_) (fun c1 => ?_)
  · have hf := tk c1 hf
    exact hx0 _ _ (Option.some.inj hf).symm (lv_sub hl [4] rfl)
  · have hf := fk c1 hf
    refine lv_iload hx hb dX11_haveMask_15 (lv_at hl 4 rfl) ?_
    refine lv_iload_n hx hb dX11_haveMask_17 rfl (lv_at hl 1 rfl) ?_
    refine lv_iload hx hb dX11_haveMask_18 (lv_at hl 5 rfl) ?_
    obtain ⟨o2, e3, hf⟩ := lp_bind hf
    refine ro_Si (x := o2) (As := [.int x1, .int x5]) (rest := [.int x4]) CF (c_X11_has l D cI cB cT x1 x5 e3) ok_X11_has wm_1133 ⟨rfl, rfl, Nat.le_of_ble_eq_true rfl, Nat.le_of_ble_eq_true rfl⟩ hG wd_E_P rfl hl.1 rfl (Nat.le_of_ble_eq_true rfl) ⟨Nat.zero_le _, Nat.zero_le _⟩ dX11_haveMask_20 ?_
    refine lv_if_eq (tgt := 41) hx hb dX11_haveMask_23 (by decide) (fun c4 => ?_) (fun c4 => ?_)
    · have hf := tk c4 hf
      refine lv_iconst (v := (0 : Int32)) hx hb dX11_haveMask_41 (by decide) ?_
      refine lv_iadd hx hb dX11_haveMask_42 ?_
      refine lv_istore (lv' := [(4, .int (x4 + (0 : Int32))), (0, .ref a_m), (1, .int x1), (2, .int x2), (3, .int x3), (5, .int x5)]) hx hb dX11_haveMask_43 hl (by decide) rfl (fun ls hl => ?_)
      refine lv_iinc (v := (x5 + (1 : Int32))) (lv' := [(5, .int (x5 + (1 : Int32))), (4, .int (x4 + (0 : Int32))), (0, .ref a_m), (1, .int x1), (2, .int x2), (3, .int x3)]) hx hb dX11_haveMask_45 hl (k := 5) rfl (iinc_eq (by decide)) (by decide) rfl (fun ls hl => ?_)
      refine lv_goto (tgt := 6) hx hb dX11_haveMask_48 (by decide) ?_
      exact hk _ _ (Option.some.inj hf).symm (lv_sub hl [2, 3, 4, 5, 1, 0] rfl)
    · have hf := fk c4 hf
      refine lv_aload_n hx hb dX11_haveMask_26 rfl (lv_at hl 0 rfl) ?_
      refine lv_iload hx hb dX11_haveMask_27 (lv_at hl 5 rfl) ?_
      refine lv_iload_n hx hb dX11_haveMask_29 rfl (lv_at hl 2 rfl) ?_
      obtain ⟨o5, e6, hf⟩ := lp_bind hf
      refine ro_Vi (x := o5) (As := [.int x5, .int x2]) (rest := [.int x4]) CF (c_X11_maskOf l D cI cB cT a_m a_m_refused a_m_codes a_m_noted a_m_marked a_m_masks a_m_text a_m_before a_m_ahead a_m_aside a_m_sure a_m_wrongs a_m_says a_m_evening a_m_images m_words m_kindNow m_secretNow m_guessed m_left m_wrong m_noteMany m_markMany m_typed m_readAt m_readNumber m_undoMany m_lastGuesses m_above m_below m_refused m_codes m_noted m_marked m_masks m_text m_before m_ahead m_aside m_sure m_wrongs m_says m_evening m_images x5 x2 e6) ok_X11_maskOf wm_1155 ⟨rfl, rfl, Nat.le_of_ble_eq_true rfl, Nat.le_of_ble_eq_true rfl⟩ hG hP 0 9 vq_9 rfl ce_m_0 rfl hl.1 rfl (Nat.le_of_ble_eq_true rfl) ⟨Nat.zero_le _, Nat.zero_le _⟩ dX11_haveMask_30 ?_
      refine lv_iload_n hx hb dX11_haveMask_33 rfl (lv_at hl 3 rfl) ?_
      refine lv_icmp_ne (tgt := 41) hx hb dX11_haveMask_34 (by decide) (fun c7 => ?_) (fun c7 => ?_)
      · have hf := fk c7 hf
        refine lv_iconst (v := (0 : Int32)) hx hb dX11_haveMask_41 (by decide) ?_
        refine lv_iadd hx hb dX11_haveMask_42 ?_
        refine lv_istore (lv' := [(4, .int (x4 + (0 : Int32))), (0, .ref a_m), (1, .int x1), (2, .int x2), (3, .int x3), (5, .int x5)]) hx hb dX11_haveMask_43 hl (by decide) rfl (fun ls hl => ?_)
        refine lv_iinc (v := (x5 + (1 : Int32))) (lv' := [(5, .int (x5 + (1 : Int32))), (4, .int (x4 + (0 : Int32))), (0, .ref a_m), (1, .int x1), (2, .int x2), (3, .int x3)]) hx hb dX11_haveMask_45 hl (k := 5) rfl (iinc_eq (by decide)) (by decide) rfl (fun ls hl => ?_)
        refine lv_goto (tgt := 6) hx hb dX11_haveMask_48 (by decide) ?_
        exact hk _ _ (Option.some.inj hf).symm (lv_sub hl [2, 3, 4, 5, 1, 0] rfl)
      · have hf := tk c7 hf
        refine lv_iconst (v := (1 : Int32)) hx hb dX11_haveMask_37 (by decide) ?_
        refine lv_goto (tgt := 42) hx hb dX11_haveMask_38 (by decide) ?_
        refine lv_iadd hx hb dX11_haveMask_42 ?_
        refine lv_istore (lv' := [(4, .int (x4 + (1 : Int32))), (0, .ref a_m), (1, .int x1), (2, .int x2), (3, .int x3), (5, .int x5)]) hx hb dX11_haveMask_43 hl (by decide) rfl (fun ls hl => ?_)
        refine lv_iinc (v := (x5 + (1 : Int32))) (lv' := [(5, .int (x5 + (1 : Int32))), (4, .int (x4 + (1 : Int32))), (0, .ref a_m), (1, .int x1), (2, .int x2), (3, .int x3)]) hx hb dX11_haveMask_45 hl (k := 5) rfl (iinc_eq (by decide)) (by decide) rfl (fun ls hl => ?_)
        refine lv_goto (tgt := 6) hx hb dX11_haveMask_48 (by decide) ?_
        exact hk _ _ (Option.some.inj hf).symm (lv_sub hl [2, 3, 4, 5, 1, 0] rfl)
set_option maxHeartbeats 4000000 in
set_option maxRecDepth 100000 in
theorem L_X11_haveMask_6_W {m_words : Int32} {m_kindNow : Int32} {m_secretNow : Int32} {m_guessed : Int32} {m_left : Int32} {m_wrong : Int32} {m_noteMany : Int32} {m_markMany : Int32} {m_typed : Int32} {m_readAt : Int32} {m_readNumber : Int32} {m_undoMany : Int32} {m_lastGuesses : Int32} {m_above : Int64} {m_below : Int64} {m_refused : (Nat → Int32)} {m_codes : (Nat → Int32)} {m_noted : (Nat → Int32)} {m_marked : (Nat → Int32)} {m_masks : (Nat → Int32)} {m_text : (Nat → Int32)} {m_before : (Nat → Int32)} {m_ahead : (Nat → Int32)} {m_aside : (Nat → Int32)} {m_sure : (Nat → Int32)} {m_wrongs : (Nat → Int32)} {m_says : (Nat → Int32)} {m_evening : (Nat → Int32)} {m_images : (Nat → Int32)} {x1 : Int32} {x2 : Int32} {x3 : Int32} (CF : CallFix p m c cX11_haveMask 6 s args wsAll RX11) (hG : Gd D cI cB cT s) {o : Int32} (hx0 : ∀ (ls : Array Slot), lv_has ls 6 [(4, .int o)] → W p l e rm_X11_haveMask s m args below meth c s.heap [] 0 0 Q (F0 m 51 ls [])) : ∀ (n : Nat) (x4 : Int32) (x5 : Int32) (ls : Array Slot), va_P D vwCl (wd_m a_m a_m_refused a_m_codes a_m_noted a_m_marked a_m_masks a_m_text a_m_before a_m_ahead a_m_aside a_m_sure a_m_wrongs a_m_says a_m_evening a_m_images cI cB cT m_words m_kindNow m_secretNow m_guessed m_left m_wrong m_noteMany m_markMany m_typed m_readAt m_readNumber m_undoMany m_lastGuesses m_above m_below m_refused m_codes m_noted m_marked m_masks m_text m_before m_ahead m_aside m_sure m_wrongs m_says m_evening m_images) s.heap → lv_has ls 6 [(0, .ref a_m), (1, .int x1), (2, .int x2), (3, .int x3), (4, .int x4), (5, .int x5)] → lp (fun v => B_X11_haveMask_6 m_words m_masks x1 x2 x3 v.1 v.2) n (x4, x5) = some o → W p l e rm_X11_haveMask s m args below meth c s.heap [] 0 0 Q (F0 m 6 ls []) := by
  intro n
  induction n with
  | zero =>
    intro x4 x5 ls hP hl hf
    exact (lp_zero hf).elim
  | succ n ih =>
    intro x4 x5 ls hP hl hf
    obtain ⟨z, hz, hf⟩ := lp_succ hf
    refine B_X11_haveMask_6_W CF hG ?_ ?_ hP hl hz
    · intro v' ls ez hl
      rcases hf with ⟨v2, ev, hf⟩ | ev
      · cases Sum.inl.inj (ez.symm.trans ev)
        exact ih v'.1 v'.2 ls hP hl hf
      · exact (lp_lr (ez.symm.trans ev)).elim
    · intro o' ls ez hl
      rcases hf with ⟨v2, ev, hf⟩ | ev
      · exact (lp_lr (ev.symm.trans ez)).elim
      · cases Sum.inr.inj (ez.symm.trans ev)
        exact hx0 ls  hl
set_option maxHeartbeats 4000000 in
set_option maxRecDepth 100000 in
theorem c_X11_haveMask (l : Launch) (D : va_G) (cI cB cT : ClassId) (a_m a_m_refused a_m_codes a_m_noted a_m_marked a_m_masks a_m_text a_m_before a_m_ahead a_m_aside a_m_sure a_m_wrongs a_m_says a_m_evening a_m_images : Nat) (m_words : Int32) (m_kindNow : Int32) (m_secretNow : Int32) (m_guessed : Int32) (m_left : Int32) (m_wrong : Int32) (m_noteMany : Int32) (m_markMany : Int32) (m_typed : Int32) (m_readAt : Int32) (m_readNumber : Int32) (m_undoMany : Int32) (m_lastGuesses : Int32) (m_above : Int64) (m_below : Int64) (m_refused : (Nat → Int32)) (m_codes : (Nat → Int32)) (m_noted : (Nat → Int32)) (m_marked : (Nat → Int32)) (m_masks : (Nat → Int32)) (m_text : (Nat → Int32)) (m_before : (Nat → Int32)) (m_ahead : (Nat → Int32)) (m_aside : (Nat → Int32)) (m_sure : (Nat → Int32)) (m_wrongs : (Nat → Int32)) (m_says : (Nat → Int32)) (m_evening : (Nat → Int32)) (m_images : (Nat → Int32)) (p1 : Int32) (p2 : Int32) (p3 : Int32) {z : Int32} (hf : f_X11_haveMask m_words m_masks p1 p2 p3 = some z) :
    Met l yX11_haveMask (Cond.code yX11_haveMask cX11_haveMask 6 (some .int) :: wsAll) rm_X11_haveMask (Pro [.ref a_m, .int p1, .int p2, .int p3] D cI cB cT (wd_m a_m a_m_refused a_m_codes a_m_noted a_m_marked a_m_masks a_m_text a_m_before a_m_ahead a_m_aside a_m_sure a_m_wrongs a_m_says a_m_evening a_m_images cI cB cT m_words m_kindNow m_secretNow m_guessed m_left m_wrong m_noteMany m_markMany m_typed m_readAt m_readNumber m_undoMany m_lastGuesses m_above m_below m_refused m_codes m_noted m_marked m_masks m_text m_before m_ahead m_aside m_sure m_wrongs m_says m_evening m_images)) (Qr (some (.int z))) 0 0 (fun _ => False) := by
  refine ro_intro RX11 (by decide +kernel) rfl (Nat.le_of_ble_eq_true rfl) ?_
  intro p e s m below meth c ls CF hr hlk hG hP hl
  have hl : lv_has ls 6 [(0, .ref a_m), (1, .int p1), (2, .int p2), (3, .int p3)] := hl
  obtain ⟨hx, hb, hml, hown, hts⟩ := id CF
  unfold f_X11_haveMask at hf
  refine lv_iconst (v := (0 : Int32)) hx hb dX11_haveMask_0 (by decide) ?_
  refine lv_istore (lv' := [(4, .int (0 : Int32)), (0, .ref a_m), (1, .int p1), (2, .int p2), (3, .int p3)]) hx hb dX11_haveMask_1 hl (by decide) rfl (fun ls hl => ?_)
  refine lv_iconst (v := (0 : Int32)) hx hb dX11_haveMask_3 (by decide) ?_
  refine lv_istore (lv' := [(5, .int (0 : Int32)), (4, .int (0 : Int32)), (0, .ref a_m), (1, .int p1), (2, .int p2), (3, .int p3)]) hx hb dX11_haveMask_4 hl (by decide) rfl (fun ls hl => ?_)
  obtain ⟨o8, e9, hf⟩ := lp_bind hf
  refine L_X11_haveMask_6_W CF hG ?_ KN _ _ _ hP (lv_sub hl [2, 3, 4, 5, 1, 0] rfl) e9
  intro ls hl
  refine lv_iload hx hb dX11_haveMask_51 (lv_at hl 0 rfl) ?_
  obtain rfl := Option.some.inj hf
  exact ro_iret CF hr hlk dX11_haveMask_53
end M_X11_haveMask
section M_X11_slippery
variable {p : Program} {l : Launch} {e : Env} {s : State} {m : MethodId} {args : Array Value} {below : List Frame} {meth : Method} {c : Code} {Q : State → Prop} {A : Nat → Prop} {D : va_G} {cI cB cT : ClassId}
variable {a_m a_m_refused a_m_codes a_m_noted a_m_marked a_m_masks a_m_text a_m_before a_m_ahead a_m_aside a_m_sure a_m_wrongs a_m_says a_m_evening a_m_images : Nat}
def rm_X11_slippery : Room := { frames := 2, cells := 0, slots := 0, locals := 47 }
def B_X11_slippery_8 (m_words : Int32) (m_masks : (Nat → Int32)) (x1 : Int32) (x2 : Int32) (x3 : Int32) (x4 : Int32) (x5 : Int32) : Option ((Int32 × Int32 × Int32) ⊕ (Int32)) := (if (16 : Int32) ≤ x5 then some (Sum.inr x3) else ((f_X11_haveMask m_words m_masks x1 x2 x5).bind fun o2 => (if o2 ≤ x4 then (if o2 ≤ x4 then some (Sum.inl (x3, x4, (x5 + (1 : Int32)))) else some (Sum.inl (x3, o2, (x5 + (1 : Int32))))) else (if o2 ≤ x4 then some (Sum.inl (x5, x4, (x5 + (1 : Int32)))) else some (Sum.inl (x5, o2, (x5 + (1 : Int32))))))))
def f_X11_slippery (m_words : Int32) (m_masks : (Nat → Int32)) (p1 : Int32) (p2 : Int32) : Option (Int32) := ((lp (fun v => B_X11_slippery_8 m_words m_masks p1 p2 v.1 v.2.1 v.2.2) KN ((0 : Int32), (0 : Int32), (0 : Int32))).bind fun o7 => some o7)
set_option maxHeartbeats 4000000 in
set_option maxRecDepth 100000 in
theorem B_X11_slippery_8_W {m_words : Int32} {m_kindNow : Int32} {m_secretNow : Int32} {m_guessed : Int32} {m_left : Int32} {m_wrong : Int32} {m_noteMany : Int32} {m_markMany : Int32} {m_typed : Int32} {m_readAt : Int32} {m_readNumber : Int32} {m_undoMany : Int32} {m_lastGuesses : Int32} {m_above : Int64} {m_below : Int64} {m_refused : (Nat → Int32)} {m_codes : (Nat → Int32)} {m_noted : (Nat → Int32)} {m_marked : (Nat → Int32)} {m_masks : (Nat → Int32)} {m_text : (Nat → Int32)} {m_before : (Nat → Int32)} {m_ahead : (Nat → Int32)} {m_aside : (Nat → Int32)} {m_sure : (Nat → Int32)} {m_wrongs : (Nat → Int32)} {m_says : (Nat → Int32)} {m_evening : (Nat → Int32)} {m_images : (Nat → Int32)} {x1 : Int32} {x2 : Int32} {x3 : Int32} {x4 : Int32} {x5 : Int32} (CF : CallFix p m c cX11_slippery 7 s args wsAll RX11) (hG : Gd D cI cB cT s) {z : (Int32 × Int32 × Int32) ⊕ (Int32)} (hk : ∀ (v' : Int32 × Int32 × Int32) (ls : Array Slot), z = Sum.inl v' → lv_has ls 7 [(0, .ref a_m), (1, .int x1), (2, .int x2), (3, .int (v'.1)), (4, .int (v'.2.1)), (5, .int (v'.2.2))] → W p l e rm_X11_slippery s m args below meth c s.heap [] 0 0 Q (F0 m 8 ls [])) (hx0 : ∀ (o' : Int32) (ls : Array Slot), z = Sum.inr o' → lv_has ls 7 [(3, .int (o'))] → W p l e rm_X11_slippery s m args below meth c s.heap [] 0 0 Q (F0 m 61 ls [])) {ls : Array Slot} (hP : va_P D vwCl (wd_m a_m a_m_refused a_m_codes a_m_noted a_m_marked a_m_masks a_m_text a_m_before a_m_ahead a_m_aside a_m_sure a_m_wrongs a_m_says a_m_evening a_m_images cI cB cT m_words m_kindNow m_secretNow m_guessed m_left m_wrong m_noteMany m_markMany m_typed m_readAt m_readNumber m_undoMany m_lastGuesses m_above m_below m_refused m_codes m_noted m_marked m_masks m_text m_before m_ahead m_aside m_sure m_wrongs m_says m_evening m_images) s.heap) (hl : lv_has ls 7 [(0, .ref a_m), (1, .int x1), (2, .int x2), (3, .int x3), (4, .int x4), (5, .int x5)]) (hf : B_X11_slippery_8 m_words m_masks x1 x2 x3 x4 x5 = some z) : W p l e rm_X11_slippery s m args below meth c s.heap [] 0 0 Q (F0 m 8 ls []) := by
  obtain ⟨hx, hb, hml, hown, hts⟩ := id CF
  unfold B_X11_slippery_8 at hf
  refine lv_iload hx hb dX11_slippery_8 (lv_at hl 5 rfl) ?_
  refine lv_bipush (v := (16 : Int32)) hx hb dX11_slippery_10 (by decide) ?_
  refine lv_icmp_ge (tgt := 61) hx hb dX11_slippery_12 (by decide) (fun c1 => ?_) (fun c1 => ?_)
  · have hf := tk c1 hf
    exact hx0 _ _ (Option.some.inj hf).symm (lv_sub hl [3] rfl)
  · have hf := fk c1 hf
    refine lv_aload_n hx hb dX11_slippery_15 rfl (lv_at hl 0 rfl) ?_
    refine lv_iload_n hx hb dX11_slippery_16 rfl (lv_at hl 1 rfl) ?_
    refine lv_iload_n hx hb dX11_slippery_17 rfl (lv_at hl 2 rfl) ?_
    refine lv_iload hx hb dX11_slippery_18 (lv_at hl 5 rfl) ?_
    obtain ⟨o2, e3, hf⟩ := lp_bind hf
    refine ro_Vi (x := o2) (As := [.int x1, .int x2, .int x5]) (rest := []) CF (c_X11_haveMask l D cI cB cT a_m a_m_refused a_m_codes a_m_noted a_m_marked a_m_masks a_m_text a_m_before a_m_ahead a_m_aside a_m_sure a_m_wrongs a_m_says a_m_evening a_m_images m_words m_kindNow m_secretNow m_guessed m_left m_wrong m_noteMany m_markMany m_typed m_readAt m_readNumber m_undoMany m_lastGuesses m_above m_below m_refused m_codes m_noted m_marked m_masks m_text m_before m_ahead m_aside m_sure m_wrongs m_says m_evening m_images x1 x2 x5 e3) ok_X11_haveMask wm_1163 ⟨rfl, rfl, Nat.le_of_ble_eq_true rfl, Nat.le_of_ble_eq_true rfl⟩ hG hP 0 9 vq_9 rfl ce_m_0 rfl hl.1 rfl (Nat.le_of_ble_eq_true rfl) ⟨Nat.zero_le _, Nat.zero_le _⟩ dX11_slippery_20 ?_
    refine lv_istore (lv' := [(6, .int o2), (0, .ref a_m), (1, .int x1), (2, .int x2), (3, .int x3), (4, .int x4), (5, .int x5)]) hx hb dX11_slippery_23 hl (by decide) rfl (fun ls hl => ?_)
    refine lv_iload hx hb dX11_slippery_25 (lv_at hl 0 rfl) ?_
    refine lv_iload hx hb dX11_slippery_27 (lv_at hl 5 rfl) ?_
    refine lv_icmp_le (tgt := 37) hx hb dX11_slippery_29 (by decide) (fun c4 => ?_) (fun c4 => ?_)
    · have hf := tk c4 hf
      refine lv_iload_n hx hb dX11_slippery_37 rfl (lv_at hl 4 rfl) ?_
      refine lv_istore_n (lv' := [(3, .int x3), (6, .int o2), (0, .ref a_m), (1, .int x1), (2, .int x2), (4, .int x4), (5, .int x5)]) hx hb dX11_slippery_38 rfl hl (by decide) rfl (fun ls hl => ?_)
      refine lv_iload hx hb dX11_slippery_39 (lv_at hl 1 rfl) ?_
      refine lv_iload hx hb dX11_slippery_41 (lv_at hl 5 rfl) ?_
      refine lv_icmp_le (tgt := 51) hx hb dX11_slippery_43 (by decide) (fun c5 => ?_) (fun c5 => ?_)
      · have hf := tk c5 hf
        refine lv_iload hx hb dX11_slippery_51 (lv_at hl 5 rfl) ?_
        refine lv_istore (lv' := [(4, .int x4), (3, .int x3), (6, .int o2), (0, .ref a_m), (1, .int x1), (2, .int x2), (5, .int x5)]) hx hb dX11_slippery_53 hl (by decide) rfl (fun ls hl => ?_)
        refine lv_iinc (v := (x5 + (1 : Int32))) (lv' := [(5, .int (x5 + (1 : Int32))), (4, .int x4), (3, .int x3), (6, .int o2), (0, .ref a_m), (1, .int x1), (2, .int x2)]) hx hb dX11_slippery_55 hl (k := 6) rfl (iinc_eq (by decide)) (by decide) rfl (fun ls hl => ?_)
        refine lv_goto (tgt := 8) hx hb dX11_slippery_58 (by decide) ?_
        exact hk _ _ (Option.some.inj hf).symm (lv_sub hl [4, 5, 6, 2, 1, 0] rfl)
      · have hf := fk c5 hf
        refine lv_iload hx hb dX11_slippery_46 (lv_at hl 1 rfl) ?_
        refine lv_goto (tgt := 53) hx hb dX11_slippery_48 (by decide) ?_
        refine lv_istore (lv' := [(4, .int o2), (3, .int x3), (6, .int o2), (0, .ref a_m), (1, .int x1), (2, .int x2), (5, .int x5)]) hx hb dX11_slippery_53 hl (by decide) rfl (fun ls hl => ?_)
        refine lv_iinc (v := (x5 + (1 : Int32))) (lv' := [(5, .int (x5 + (1 : Int32))), (4, .int o2), (3, .int x3), (6, .int o2), (0, .ref a_m), (1, .int x1), (2, .int x2)]) hx hb dX11_slippery_55 hl (k := 6) rfl (iinc_eq (by decide)) (by decide) rfl (fun ls hl => ?_)
        refine lv_goto (tgt := 8) hx hb dX11_slippery_58 (by decide) ?_
        exact hk _ _ (Option.some.inj hf).symm (lv_sub hl [4, 5, 6, 2, 1, 0] rfl)
    · have hf := fk c4 hf
      refine lv_iload hx hb dX11_slippery_32 (lv_at hl 6 rfl) ?_
      refine lv_goto (tgt := 38) hx hb dX11_slippery_34 (by decide) ?_
      refine lv_istore_n (lv' := [(3, .int x5), (6, .int o2), (0, .ref a_m), (1, .int x1), (2, .int x2), (4, .int x4), (5, .int x5)]) hx hb dX11_slippery_38 rfl hl (by decide) rfl (fun ls hl => ?_)
      refine lv_iload hx hb dX11_slippery_39 (lv_at hl 1 rfl) ?_
      refine lv_iload hx hb dX11_slippery_41 (lv_at hl 5 rfl) ?_
      refine lv_icmp_le (tgt := 51) hx hb dX11_slippery_43 (by decide) (fun c6 => ?_) (fun c6 => ?_)
      · have hf := tk c6 hf
        refine lv_iload hx hb dX11_slippery_51 (lv_at hl 5 rfl) ?_
        refine lv_istore (lv' := [(4, .int x4), (3, .int x5), (6, .int o2), (0, .ref a_m), (1, .int x1), (2, .int x2), (5, .int x5)]) hx hb dX11_slippery_53 hl (by decide) rfl (fun ls hl => ?_)
        refine lv_iinc (v := (x5 + (1 : Int32))) (lv' := [(5, .int (x5 + (1 : Int32))), (4, .int x4), (3, .int x5), (6, .int o2), (0, .ref a_m), (1, .int x1), (2, .int x2)]) hx hb dX11_slippery_55 hl (k := 6) rfl (iinc_eq (by decide)) (by decide) rfl (fun ls hl => ?_)
        refine lv_goto (tgt := 8) hx hb dX11_slippery_58 (by decide) ?_
        exact hk _ _ (Option.some.inj hf).symm (lv_sub hl [4, 5, 6, 2, 1, 0] rfl)
      · have hf := fk c6 hf
        refine lv_iload hx hb dX11_slippery_46 (lv_at hl 1 rfl) ?_
        refine lv_goto (tgt := 53) hx hb dX11_slippery_48 (by decide) ?_
        refine lv_istore (lv' := [(4, .int o2), (3, .int x5), (6, .int o2), (0, .ref a_m), (1, .int x1), (2, .int x2), (5, .int x5)]) hx hb dX11_slippery_53 hl (by decide) rfl (fun ls hl => ?_)
        refine lv_iinc (v := (x5 + (1 : Int32))) (lv' := [(5, .int (x5 + (1 : Int32))), (4, .int o2), (3, .int x5), (6, .int o2), (0, .ref a_m), (1, .int x1), (2, .int x2)]) hx hb dX11_slippery_55 hl (k := 6) rfl (iinc_eq (by decide)) (by decide) rfl (fun ls hl => ?_)
        refine lv_goto (tgt := 8) hx hb dX11_slippery_58 (by decide) ?_
        exact hk _ _ (Option.some.inj hf).symm (lv_sub hl [4, 5, 6, 2, 1, 0] rfl)
set_option maxHeartbeats 4000000 in
set_option maxRecDepth 100000 in
theorem L_X11_slippery_8_W {m_words : Int32} {m_kindNow : Int32} {m_secretNow : Int32} {m_guessed : Int32} {m_left : Int32} {m_wrong : Int32} {m_noteMany : Int32} {m_markMany : Int32} {m_typed : Int32} {m_readAt : Int32} {m_readNumber : Int32} {m_undoMany : Int32} {m_lastGuesses : Int32} {m_above : Int64} {m_below : Int64} {m_refused : (Nat → Int32)} {m_codes : (Nat → Int32)} {m_noted : (Nat → Int32)} {m_marked : (Nat → Int32)} {m_masks : (Nat → Int32)} {m_text : (Nat → Int32)} {m_before : (Nat → Int32)} {m_ahead : (Nat → Int32)} {m_aside : (Nat → Int32)} {m_sure : (Nat → Int32)} {m_wrongs : (Nat → Int32)} {m_says : (Nat → Int32)} {m_evening : (Nat → Int32)} {m_images : (Nat → Int32)} {x1 : Int32} {x2 : Int32} (CF : CallFix p m c cX11_slippery 7 s args wsAll RX11) (hG : Gd D cI cB cT s) {o : Int32} (hx0 : ∀ (ls : Array Slot), lv_has ls 7 [(3, .int o)] → W p l e rm_X11_slippery s m args below meth c s.heap [] 0 0 Q (F0 m 61 ls [])) : ∀ (n : Nat) (x3 : Int32) (x4 : Int32) (x5 : Int32) (ls : Array Slot), va_P D vwCl (wd_m a_m a_m_refused a_m_codes a_m_noted a_m_marked a_m_masks a_m_text a_m_before a_m_ahead a_m_aside a_m_sure a_m_wrongs a_m_says a_m_evening a_m_images cI cB cT m_words m_kindNow m_secretNow m_guessed m_left m_wrong m_noteMany m_markMany m_typed m_readAt m_readNumber m_undoMany m_lastGuesses m_above m_below m_refused m_codes m_noted m_marked m_masks m_text m_before m_ahead m_aside m_sure m_wrongs m_says m_evening m_images) s.heap → lv_has ls 7 [(0, .ref a_m), (1, .int x1), (2, .int x2), (3, .int x3), (4, .int x4), (5, .int x5)] → lp (fun v => B_X11_slippery_8 m_words m_masks x1 x2 v.1 v.2.1 v.2.2) n (x3, x4, x5) = some o → W p l e rm_X11_slippery s m args below meth c s.heap [] 0 0 Q (F0 m 8 ls []) := by
  intro n
  induction n with
  | zero =>
    intro x3 x4 x5 ls hP hl hf
    exact (lp_zero hf).elim
  | succ n ih =>
    intro x3 x4 x5 ls hP hl hf
    obtain ⟨z, hz, hf⟩ := lp_succ hf
    refine B_X11_slippery_8_W CF hG ?_ ?_ hP hl hz
    · intro v' ls ez hl
      rcases hf with ⟨v2, ev, hf⟩ | ev
      · cases Sum.inl.inj (ez.symm.trans ev)
        exact ih v'.1 v'.2.1 v'.2.2 ls hP hl hf
      · exact (lp_lr (ez.symm.trans ev)).elim
    · intro o' ls ez hl
      rcases hf with ⟨v2, ev, hf⟩ | ev
      · exact (lp_lr (ev.symm.trans ez)).elim
      · cases Sum.inr.inj (ez.symm.trans ev)
        exact hx0 ls  hl
set_option maxHeartbeats 4000000 in
set_option maxRecDepth 100000 in
theorem c_X11_slippery (l : Launch) (D : va_G) (cI cB cT : ClassId) (a_m a_m_refused a_m_codes a_m_noted a_m_marked a_m_masks a_m_text a_m_before a_m_ahead a_m_aside a_m_sure a_m_wrongs a_m_says a_m_evening a_m_images : Nat) (m_words : Int32) (m_kindNow : Int32) (m_secretNow : Int32) (m_guessed : Int32) (m_left : Int32) (m_wrong : Int32) (m_noteMany : Int32) (m_markMany : Int32) (m_typed : Int32) (m_readAt : Int32) (m_readNumber : Int32) (m_undoMany : Int32) (m_lastGuesses : Int32) (m_above : Int64) (m_below : Int64) (m_refused : (Nat → Int32)) (m_codes : (Nat → Int32)) (m_noted : (Nat → Int32)) (m_marked : (Nat → Int32)) (m_masks : (Nat → Int32)) (m_text : (Nat → Int32)) (m_before : (Nat → Int32)) (m_ahead : (Nat → Int32)) (m_aside : (Nat → Int32)) (m_sure : (Nat → Int32)) (m_wrongs : (Nat → Int32)) (m_says : (Nat → Int32)) (m_evening : (Nat → Int32)) (m_images : (Nat → Int32)) (p1 : Int32) (p2 : Int32) {z : Int32} (hf : f_X11_slippery m_words m_masks p1 p2 = some z) :
    Met l yX11_slippery (Cond.code yX11_slippery cX11_slippery 7 (some .int) :: wsAll) rm_X11_slippery (Pro [.ref a_m, .int p1, .int p2] D cI cB cT (wd_m a_m a_m_refused a_m_codes a_m_noted a_m_marked a_m_masks a_m_text a_m_before a_m_ahead a_m_aside a_m_sure a_m_wrongs a_m_says a_m_evening a_m_images cI cB cT m_words m_kindNow m_secretNow m_guessed m_left m_wrong m_noteMany m_markMany m_typed m_readAt m_readNumber m_undoMany m_lastGuesses m_above m_below m_refused m_codes m_noted m_marked m_masks m_text m_before m_ahead m_aside m_sure m_wrongs m_says m_evening m_images)) (Qr (some (.int z))) 0 0 (fun _ => False) := by
  refine ro_intro RX11 (by decide +kernel) rfl (Nat.le_of_ble_eq_true rfl) ?_
  intro p e s m below meth c ls CF hr hlk hG hP hl
  have hl : lv_has ls 7 [(0, .ref a_m), (1, .int p1), (2, .int p2)] := hl
  obtain ⟨hx, hb, hml, hown, hts⟩ := id CF
  unfold f_X11_slippery at hf
  refine lv_iconst (v := (0 : Int32)) hx hb dX11_slippery_0 (by decide) ?_
  refine lv_istore_n (lv' := [(3, .int (0 : Int32)), (0, .ref a_m), (1, .int p1), (2, .int p2)]) hx hb dX11_slippery_1 rfl hl (by decide) rfl (fun ls hl => ?_)
  refine lv_iconst (v := (0 : Int32)) hx hb dX11_slippery_2 (by decide) ?_
  refine lv_istore (lv' := [(4, .int (0 : Int32)), (3, .int (0 : Int32)), (0, .ref a_m), (1, .int p1), (2, .int p2)]) hx hb dX11_slippery_3 hl (by decide) rfl (fun ls hl => ?_)
  refine lv_iconst (v := (0 : Int32)) hx hb dX11_slippery_5 (by decide) ?_
  refine lv_istore (lv' := [(5, .int (0 : Int32)), (4, .int (0 : Int32)), (3, .int (0 : Int32)), (0, .ref a_m), (1, .int p1), (2, .int p2)]) hx hb dX11_slippery_6 hl (by decide) rfl (fun ls hl => ?_)
  obtain ⟨o7, e8, hf⟩ := lp_bind hf
  refine L_X11_slippery_8_W CF hG ?_ KN _ _ _ _ hP (lv_sub hl [3, 4, 5, 2, 1, 0] rfl) e8
  intro ls hl
  refine lv_iload_n hx hb dX11_slippery_61 rfl (lv_at hl 0 rfl) ?_
  obtain rfl := Option.some.inj hf
  exact ro_iret CF hr hlk dX11_slippery_62
end M_X11_slippery
section M_X11_meanly
variable {p : Program} {l : Launch} {e : Env} {s : State} {m : MethodId} {args : Array Value} {below : List Frame} {meth : Method} {c : Code} {Q : State → Prop} {A : Nat → Prop} {D : va_G} {cI cB cT : ClassId}
variable {a_m a_m_refused a_m_codes a_m_noted a_m_marked a_m_masks a_m_text a_m_before a_m_ahead a_m_aside a_m_sure a_m_wrongs a_m_says a_m_evening a_m_images : Nat}
def rm_X11_meanly : Room := { frames := 3, cells := 0, slots := 0, locals := 73 }
def f_X11_meanly (m_words : Int32) (m_masks : (Nat → Int32)) (p1 : Int32) (p2 : Int32) : Option (Int32) := ((f_X11_haveMask m_words m_masks p1 p2 (0 : Int32)).bind fun o1 => (if o1 ≤ 0 then ((f_X11_slippery m_words m_masks p1 p2).bind fun o4 => some o4) else some (0 : Int32)))
set_option maxHeartbeats 4000000 in
set_option maxRecDepth 100000 in
theorem c_X11_meanly (l : Launch) (D : va_G) (cI cB cT : ClassId) (a_m a_m_refused a_m_codes a_m_noted a_m_marked a_m_masks a_m_text a_m_before a_m_ahead a_m_aside a_m_sure a_m_wrongs a_m_says a_m_evening a_m_images : Nat) (m_words : Int32) (m_kindNow : Int32) (m_secretNow : Int32) (m_guessed : Int32) (m_left : Int32) (m_wrong : Int32) (m_noteMany : Int32) (m_markMany : Int32) (m_typed : Int32) (m_readAt : Int32) (m_readNumber : Int32) (m_undoMany : Int32) (m_lastGuesses : Int32) (m_above : Int64) (m_below : Int64) (m_refused : (Nat → Int32)) (m_codes : (Nat → Int32)) (m_noted : (Nat → Int32)) (m_marked : (Nat → Int32)) (m_masks : (Nat → Int32)) (m_text : (Nat → Int32)) (m_before : (Nat → Int32)) (m_ahead : (Nat → Int32)) (m_aside : (Nat → Int32)) (m_sure : (Nat → Int32)) (m_wrongs : (Nat → Int32)) (m_says : (Nat → Int32)) (m_evening : (Nat → Int32)) (m_images : (Nat → Int32)) (p1 : Int32) (p2 : Int32) {z : Int32} (hf : f_X11_meanly m_words m_masks p1 p2 = some z) :
    Met l yX11_meanly (Cond.code yX11_meanly cX11_meanly 3 (some .int) :: wsAll) rm_X11_meanly (Pro [.ref a_m, .int p1, .int p2] D cI cB cT (wd_m a_m a_m_refused a_m_codes a_m_noted a_m_marked a_m_masks a_m_text a_m_before a_m_ahead a_m_aside a_m_sure a_m_wrongs a_m_says a_m_evening a_m_images cI cB cT m_words m_kindNow m_secretNow m_guessed m_left m_wrong m_noteMany m_markMany m_typed m_readAt m_readNumber m_undoMany m_lastGuesses m_above m_below m_refused m_codes m_noted m_marked m_masks m_text m_before m_ahead m_aside m_sure m_wrongs m_says m_evening m_images)) (Qr (some (.int z))) 0 0 (fun _ => False) := by
  refine ro_intro RX11 (by decide +kernel) rfl (Nat.le_of_ble_eq_true rfl) ?_
  intro p e s m below meth c ls CF hr hlk hG hP hl
  have hl : lv_has ls 3 [(0, .ref a_m), (1, .int p1), (2, .int p2)] := hl
  obtain ⟨hx, hb, hml, hown, hts⟩ := id CF
  unfold f_X11_meanly at hf
  refine lv_aload_n hx hb dX11_meanly_0 rfl (lv_at hl 0 rfl) ?_
  refine lv_iload_n hx hb dX11_meanly_1 rfl (lv_at hl 1 rfl) ?_
  refine lv_iload_n hx hb dX11_meanly_2 rfl (lv_at hl 2 rfl) ?_
  refine lv_iconst (v := (0 : Int32)) hx hb dX11_meanly_3 (by decide) ?_
  obtain ⟨o1, e2, hf⟩ := lp_bind hf
  refine ro_Vi (x := o1) (As := [.int p1, .int p2, .int (0 : Int32)]) (rest := []) CF (c_X11_haveMask l D cI cB cT a_m a_m_refused a_m_codes a_m_noted a_m_marked a_m_masks a_m_text a_m_before a_m_ahead a_m_aside a_m_sure a_m_wrongs a_m_says a_m_evening a_m_images m_words m_kindNow m_secretNow m_guessed m_left m_wrong m_noteMany m_markMany m_typed m_readAt m_readNumber m_undoMany m_lastGuesses m_above m_below m_refused m_codes m_noted m_marked m_masks m_text m_before m_ahead m_aside m_sure m_wrongs m_says m_evening m_images p1 p2 (0 : Int32) e2) ok_X11_haveMask wm_1163 ⟨rfl, rfl, Nat.le_of_ble_eq_true rfl, Nat.le_of_ble_eq_true rfl⟩ hG hP 0 9 vq_9 rfl ce_m_0 rfl hl.1 rfl (Nat.le_of_ble_eq_true rfl) ⟨Nat.zero_le _, Nat.zero_le _⟩ dX11_meanly_4 ?_
  refine lv_if_le (tgt := 14) hx hb dX11_meanly_7 (by decide) (fun c3 => ?_) (fun c3 => ?_)
  · have hf := tk c3 hf
    refine lv_aload_n hx hb dX11_meanly_14 rfl (lv_at hl 0 rfl) ?_
    refine lv_iload_n hx hb dX11_meanly_15 rfl (lv_at hl 1 rfl) ?_
    refine lv_iload_n hx hb dX11_meanly_16 rfl (lv_at hl 2 rfl) ?_
    obtain ⟨o4, e5, hf⟩ := lp_bind hf
    refine ro_Vi (x := o4) (As := [.int p1, .int p2]) (rest := []) CF (c_X11_slippery l D cI cB cT a_m a_m_refused a_m_codes a_m_noted a_m_marked a_m_masks a_m_text a_m_before a_m_ahead a_m_aside a_m_sure a_m_wrongs a_m_says a_m_evening a_m_images m_words m_kindNow m_secretNow m_guessed m_left m_wrong m_noteMany m_markMany m_typed m_readAt m_readNumber m_undoMany m_lastGuesses m_above m_below m_refused m_codes m_noted m_marked m_masks m_text m_before m_ahead m_aside m_sure m_wrongs m_says m_evening m_images p1 p2 e5) ok_X11_slippery wm_1159 ⟨rfl, rfl, Nat.le_of_ble_eq_true rfl, Nat.le_of_ble_eq_true rfl⟩ hG hP 0 9 vq_9 rfl ce_m_0 rfl hl.1 rfl (Nat.le_of_ble_eq_true rfl) ⟨Nat.zero_le _, Nat.zero_le _⟩ dX11_meanly_17 ?_
    obtain rfl := Option.some.inj hf
    exact ro_iret CF hr hlk dX11_meanly_20
  · have hf := fk c3 hf
    refine lv_iconst (v := (0 : Int32)) hx hb dX11_meanly_10 (by decide) ?_
    refine lv_goto (tgt := 20) hx hb dX11_meanly_11 (by decide) ?_
    obtain rfl := Option.some.inj hf
    exact ro_iret CF hr hlk dX11_meanly_20
end M_X11_meanly
