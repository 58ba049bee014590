section M_X11_mark
variable {p : Program} {l : Launch} {e : Env} {s : State} {m : MethodId} {args : Array Value} {below : List Frame} {meth : Method} {c : Code} {Q : State → Prop} {A : Nat → Prop} {D : va_G} {cI cB cT : ClassId}
variable {a_m a_m_refused a_m_codes a_m_noted a_m_marked a_m_masks a_m_text a_m_before a_m_ahead a_m_aside a_m_sure a_m_wrongs a_m_says a_m_evening a_m_images : Nat}
def rm_X11_mark : Room := { frames := 2, cells := 0, slots := 0, locals := 43 }
def f_X11_mark (m_words : Int32) (m_markMany : Int32) (m_refused : (Nat → Int32)) (m_marked : (Nat → Int32)) (p1 : Int32) (p2 : Int32) (p3 : Int32) : Option (Int32 × Int32 × (Nat → Int32) × (Nat → Int32)) := ((f_X11_isSome m_words p1).bind fun o1 => (if o1 = 0 then ((f_X11_bad m_refused).bind fun o4 => some (o4.1, m_markMany, o4.2, m_marked)) else ((f_X11_in p2 (0 : Int32) (1023 : Int32)).bind fun o6 => (if o6 = 0 then ((f_X11_bad m_refused).bind fun o9 => some (o9.1, m_markMany, o9.2, m_marked)) else ((f_X11_isLetterNumber p3).bind fun o11 => (if o11 = 0 then ((f_X11_bad m_refused).bind fun o20 => some (o20.1, m_markMany, o20.2, m_marked)) else (if m_markMany = (6 : Int32) then ((f_X11_full m_refused).bind fun o18 => some (o18.1, m_markMany, o18.2, m_marked)) else (if oob ((3 : Int32) * m_markMany) 18 then none else (if oob (((3 : Int32) * m_markMany) + (1 : Int32)) 18 then none else (if oob (((3 : Int32) * m_markMany) + (2 : Int32)) 18 then none else some ((m_markMany + (1 : Int32)), (m_markMany + (1 : Int32)), m_refused, (upd (upd (upd m_marked (((3 : Int32) * m_markMany)).toNatClampNeg p1) ((((3 : Int32) * m_markMany) + (1 : Int32))).toNatClampNeg p2) ((((3 : Int32) * m_markMany) + (2 : Int32))).toNatClampNeg p3))))))))))))
set_option maxHeartbeats 4000000 in
set_option maxRecDepth 100000 in
theorem c_X11_mark (l : Launch) (D : va_G) (cI cB cT : ClassId) (sz : Nat) (a_m a_m_refused a_m_codes a_m_noted a_m_marked a_m_masks a_m_text a_m_before a_m_ahead a_m_aside a_m_sure a_m_wrongs a_m_says a_m_evening a_m_images : Nat) (m_words : Int32) (m_kindNow : Int32) (m_secretNow : Int32) (m_guessed : Int32) (m_left : Int32) (m_wrong : Int32) (m_noteMany : Int32) (m_markMany : Int32) (m_typed : Int32) (m_readAt : Int32) (m_readNumber : Int32) (m_undoMany : Int32) (m_lastGuesses : Int32) (m_above : Int64) (m_below : Int64) (m_refused : (Nat → Int32)) (m_codes : (Nat → Int32)) (m_noted : (Nat → Int32)) (m_marked : (Nat → Int32)) (m_masks : (Nat → Int32)) (m_text : (Nat → Int32)) (m_before : (Nat → Int32)) (m_ahead : (Nat → Int32)) (m_aside : (Nat → Int32)) (m_sure : (Nat → Int32)) (m_wrongs : (Nat → Int32)) (m_says : (Nat → Int32)) (m_evening : (Nat → Int32)) (m_images : (Nat → Int32)) (p1 : Int32) (p2 : Int32) (p3 : Int32) {z : Int32 × Int32 × (Nat → Int32) × (Nat → Int32)} (hf : f_X11_mark m_words m_markMany m_refused m_marked p1 p2 p3 = some z) :
    Met l yX11_mark (Cond.code yX11_mark cX11_mark 4 (some .int) :: wsAll) rm_X11_mark (Pwr [.ref a_m, .int p1, .int p2, .int p3] D cI cB cT (wd_m a_m a_m_refused a_m_codes a_m_noted a_m_marked a_m_masks a_m_text a_m_before a_m_ahead a_m_aside a_m_sure a_m_wrongs a_m_says a_m_evening a_m_images cI cB cT m_words m_kindNow m_secretNow m_guessed m_left m_wrong m_noteMany m_markMany m_typed m_readAt m_readNumber m_undoMany m_lastGuesses m_above m_below m_refused m_codes m_noted m_marked m_masks m_text m_before m_ahead m_aside m_sure m_wrongs m_says m_evening m_images) sz) (Qw (some (.int z.1)) D (wd_m a_m a_m_refused a_m_codes a_m_noted a_m_marked a_m_masks a_m_text a_m_before a_m_ahead a_m_aside a_m_sure a_m_wrongs a_m_says a_m_evening a_m_images cI cB cT m_words m_kindNow m_secretNow m_guessed m_left m_wrong m_noteMany z.2.1 m_typed m_readAt m_readNumber m_undoMany m_lastGuesses m_above m_below z.2.2.1 m_codes m_noted z.2.2.2 m_masks m_text m_before m_ahead m_aside m_sure m_wrongs m_says m_evening m_images) (va_A (wd_m a_m a_m_refused a_m_codes a_m_noted a_m_marked a_m_masks a_m_text a_m_before a_m_ahead a_m_aside a_m_sure a_m_wrongs a_m_says a_m_evening a_m_images cI cB cT m_words m_kindNow m_secretNow m_guessed m_left m_wrong m_noteMany m_markMany m_typed m_readAt m_readNumber m_undoMany m_lastGuesses m_above m_below m_refused m_codes m_noted m_marked m_masks m_text m_before m_ahead m_aside m_sure m_wrongs m_says m_evening m_images) sz)) 0 0 (va_A (wd_m a_m a_m_refused a_m_codes a_m_noted a_m_marked a_m_masks a_m_text a_m_before a_m_ahead a_m_aside a_m_sure a_m_wrongs a_m_says a_m_evening a_m_images cI cB cT m_words m_kindNow m_secretNow m_guessed m_left m_wrong m_noteMany m_markMany m_typed m_readAt m_readNumber m_undoMany m_lastGuesses m_above m_below m_refused m_codes m_noted m_marked m_masks m_text m_before m_ahead m_aside m_sure m_wrongs m_says m_evening m_images) sz) := by
  refine wr_intro RX11 (by decide +kernel) rfl (Nat.le_of_ble_eq_true rfl) ?_
  intro p e s m below meth c ls A H locs CF hr hlk hG hP hD hS hA hl
  have hl : lv_has ls 4 [(0, .ref a_m), (1, .int p1), (2, .int p2), (3, .int p3)] := hl
  obtain ⟨hx, hb, hml, hown, hts⟩ := id CF
  unfold f_X11_mark at hf
  refine lv_aload_n hx hb dX11_mark_0 rfl (lv_at hl 0 rfl) ?_
  refine lv_iload_n hx hb dX11_mark_1 rfl (lv_at hl 1 rfl) ?_
  obtain ⟨o1, e2, hf⟩ := lp_bind hf
  refine ro_Vi (x := o1) (As := [.int p1]) (rest := []) CF (c_X11_isSome l D cI cB cT a_m a_m_refused a_m_codes a_m_noted a_m_marked a_m_masks a_m_text a_m_before a_m_ahead a_m_aside a_m_sure a_m_wrongs a_m_says a_m_evening a_m_images m_words m_kindNow m_secretNow m_guessed m_left m_wrong m_noteMany m_markMany m_typed m_readAt m_readNumber m_undoMany m_lastGuesses m_above m_below m_refused m_codes m_noted m_marked m_masks m_text m_before m_ahead m_aside m_sure m_wrongs m_says m_evening m_images p1 e2) ok_X11_isSome wm_1337 ⟨rfl, rfl, Nat.le_of_ble_eq_true rfl, Nat.le_of_ble_eq_true rfl⟩ hG hP 0 9 vq_9 rfl ce_m_0 rfl hl.1 rfl (Nat.le_of_ble_eq_true rfl) ⟨Nat.zero_le _, Nat.zero_le _⟩ dX11_mark_2 ?_
  refine lv_if_eq (tgt := 26) hx hb dX11_mark_5 (by decide) (fun c3 => ?_) (fun c3 => ?_)
  · have hf := tk c3 hf
    refine lv_aload_n hx hb dX11_mark_26 rfl (lv_at hl 0 rfl) ?_
    obtain ⟨o4, e5, hf⟩ := lp_bind hf
    refine wr_Wi (x := o4.1) (ws' := (wd_m a_m a_m_refused a_m_codes a_m_noted a_m_marked a_m_masks a_m_text a_m_before a_m_ahead a_m_aside a_m_sure a_m_wrongs a_m_says a_m_evening a_m_images cI cB cT m_words m_kindNow m_secretNow m_guessed m_left m_wrong m_noteMany m_markMany m_typed m_readAt m_readNumber m_undoMany m_lastGuesses m_above m_below o4.2 m_codes m_noted m_marked m_masks m_text m_before m_ahead m_aside m_sure m_wrongs m_says m_evening m_images)) (As := []) (rest := []) CF (c_X11_bad l D cI cB cT H.size a_m a_m_refused a_m_codes a_m_noted a_m_marked a_m_masks a_m_text a_m_before a_m_ahead a_m_aside a_m_sure a_m_wrongs a_m_says a_m_evening a_m_images m_words m_kindNow m_secretNow m_guessed m_left m_wrong m_noteMany m_markMany m_typed m_readAt m_readNumber m_undoMany m_lastGuesses m_above m_below m_refused m_codes m_noted m_marked m_masks m_text m_before m_ahead m_aside m_sure m_wrongs m_says m_evening m_images e5) ok_X11_bad wm_1020 ⟨rfl, rfl, Nat.le_of_ble_eq_true rfl, Nat.le_of_ble_eq_true rfl⟩ hG hP hD hS hA fs_m 0 9 vq_9 rfl ce_m_0 rfl hl.1 rfl (Nat.le_of_ble_eq_true rfl) ⟨Nat.zero_le _, Nat.zero_le _⟩ dX11_mark_27 (fun H locs hP hD hS => ?_)
    obtain rfl := Option.some.inj hf
    exact wr_iret CF hr hlk hP hS dX11_mark_30
  · have hf := fk c3 hf
    refine lv_iload_n hx hb dX11_mark_8 rfl (lv_at hl 2 rfl) ?_
    refine lv_iconst (v := (0 : Int32)) hx hb dX11_mark_9 (by decide) ?_
    refine lv_sipush (v := (1023 : Int32)) hx hb dX11_mark_10 (by decide) ?_
    obtain ⟨o6, e7, hf⟩ := lp_bind hf
    refine ro_Si (x := o6) (As := [.int p2, .int (0 : Int32), .int (1023 : Int32)]) (rest := []) CF (c_X11_in l D cI cB cT p2 (0 : Int32) (1023 : Int32) e7) ok_X11_in wm_1017 ⟨rfl, rfl, Nat.le_of_ble_eq_true rfl, Nat.le_of_ble_eq_true rfl⟩ hG wd_E_P rfl hl.1 rfl (Nat.le_of_ble_eq_true rfl) ⟨Nat.zero_le _, Nat.zero_le _⟩ dX11_mark_13 ?_
    refine lv_if_eq (tgt := 26) hx hb dX11_mark_16 (by decide) (fun c8 => ?_) (fun c8 => ?_)
    · have hf := tk c8 hf
      refine lv_aload_n hx hb dX11_mark_26 rfl (lv_at hl 0 rfl) ?_
      obtain ⟨o9, e10, hf⟩ := lp_bind hf
      refine wr_Wi (x := o9.1) (ws' := (wd_m a_m a_m_refused a_m_codes a_m_noted a_m_marked a_m_masks a_m_text a_m_before a_m_ahead a_m_aside a_m_sure a_m_wrongs a_m_says a_m_evening a_m_images cI cB cT m_words m_kindNow m_secretNow m_guessed m_left m_wrong m_noteMany m_markMany m_typed m_readAt m_readNumber m_undoMany m_lastGuesses m_above m_below o9.2 m_codes m_noted m_marked m_masks m_text m_before m_ahead m_aside m_sure m_wrongs m_says m_evening m_images)) (As := []) (rest := []) CF (c_X11_bad l D cI cB cT H.size a_m a_m_refused a_m_codes a_m_noted a_m_marked a_m_masks a_m_text a_m_before a_m_ahead a_m_aside a_m_sure a_m_wrongs a_m_says a_m_evening a_m_images m_words m_kindNow m_secretNow m_guessed m_left m_wrong m_noteMany m_markMany m_typed m_readAt m_readNumber m_undoMany m_lastGuesses m_above m_below m_refused m_codes m_noted m_marked m_masks m_text m_before m_ahead m_aside m_sure m_wrongs m_says m_evening m_images e10) ok_X11_bad wm_1020 ⟨rfl, rfl, Nat.le_of_ble_eq_true rfl, Nat.le_of_ble_eq_true rfl⟩ hG hP hD hS hA fs_m 0 9 vq_9 rfl ce_m_0 rfl hl.1 rfl (Nat.le_of_ble_eq_true rfl) ⟨Nat.zero_le _, Nat.zero_le _⟩ dX11_mark_27 (fun H locs hP hD hS => ?_)
      obtain rfl := Option.some.inj hf
      exact wr_iret CF hr hlk hP hS dX11_mark_30
    · have hf := fk c8 hf
      refine lv_iload_n hx hb dX11_mark_19 rfl (lv_at hl 3 rfl) ?_
      obtain ⟨o11, e12, hf⟩ := lp_bind hf
      refine ro_Si (x := o11) (As := [.int p3]) (rest := []) CF (c_X11_isLetterNumber l D cI cB cT p3 e12) ok_X11_isLetterNumber wm_1191 ⟨rfl, rfl, Nat.le_of_ble_eq_true rfl, Nat.le_of_ble_eq_true rfl⟩ hG wd_E_P rfl hl.1 rfl (Nat.le_of_ble_eq_true rfl) ⟨Nat.zero_le _, Nat.zero_le _⟩ dX11_mark_20 ?_
      refine lv_if_ne (tgt := 31) hx hb dX11_mark_23 (by decide) (fun c13 => ?_) (fun c13 => ?_)
      · have hf := fk c13 hf
        refine lv_aload_n hx hb dX11_mark_31 rfl (lv_at hl 0 rfl) ?_
        refine va_get (D := D) (ci := 9) (v := .int m_markMany) (C := RX11) (T := TX11) (N := 29) hx hb hts fin_X11 hown hG.1 hP 0 ce_m_0 vq_9 8 (by decide) (hts _ wm_930) (fun _ h9 => h9) rfl dX11_mark_32 ?_
        refine lv_bipush (v := (6 : Int32)) hx hb dX11_mark_35 (by decide) ?_
        refine lv_icmp_ne (tgt := 45) hx hb dX11_mark_37 (by decide) (fun c14 => ?_) (fun c14 => ?_)
        · have hf := fk c14 hf
          refine lv_aload_n hx hb dX11_mark_45 rfl (lv_at hl 0 rfl) ?_
          refine va_get (D := D) (ci := 9) (v := .ref a_m_marked) (C := RX11) (T := TX11) (N := 29) hx hb hts fin_X11 hown hG.1 hP 0 ce_m_0 vq_9 11 (by decide) (hts _ wm_933) (fun _ h9 => h9) rfl dX11_mark_46 ?_
          refine lv_iconst (v := (3 : Int32)) hx hb dX11_mark_49 (by decide) ?_
          refine lv_aload_n hx hb dX11_mark_50 rfl (lv_at hl 0 rfl) ?_
          refine va_get (D := D) (ci := 9) (v := .int m_markMany) (C := RX11) (T := TX11) (N := 29) hx hb hts fin_X11 hown hG.1 hP 0 ce_m_0 vq_9 8 (by decide) (hts _ wm_930) (fun _ h9 => h9) rfl dX11_mark_51 ?_
          refine lv_imul hx hb dX11_mark_54 ?_
          refine lv_iload_n hx hb dX11_mark_55 rfl (lv_at hl 1 rfl) ?_
          obtain ⟨n15, hf⟩ := nk hf
          refine va_iast (f := m_marked) hx hb hG.1 hP hD hS 4 0 ce_m_4 rfl n15 dX11_mark_56 (fun H locs hP _ hS => ?_)
          have hP : va_P D vwCl (wd_m a_m a_m_refused a_m_codes a_m_noted a_m_marked a_m_masks a_m_text a_m_before a_m_ahead a_m_aside a_m_sure a_m_wrongs a_m_says a_m_evening a_m_images cI cB cT m_words m_kindNow m_secretNow m_guessed m_left m_wrong m_noteMany m_markMany m_typed m_readAt m_readNumber m_undoMany m_lastGuesses m_above m_below m_refused m_codes m_noted (upd m_marked (((3 : Int32) * m_markMany)).toNatClampNeg p1) m_masks m_text m_before m_ahead m_aside m_sure m_wrongs m_says m_evening m_images) H := va_P_eq se_m_m_marked hP
          have hD : va_D A (wd_m a_m a_m_refused a_m_codes a_m_noted a_m_marked a_m_masks a_m_text a_m_before a_m_ahead a_m_aside a_m_sure a_m_wrongs a_m_says a_m_evening a_m_images cI cB cT m_words m_kindNow m_secretNow m_guessed m_left m_wrong m_noteMany m_markMany m_typed m_readAt m_readNumber m_undoMany m_lastGuesses m_above m_below m_refused m_codes m_noted (upd m_marked (((3 : Int32) * m_markMany)).toNatClampNeg p1) m_masks m_text m_before m_ahead m_aside m_sure m_wrongs m_says m_evening m_images) := va_D_fst fs_m hD
          refine lv_aload_n hx hb dX11_mark_57 rfl (lv_at hl 0 rfl) ?_
          refine va_get (D := D) (ci := 9) (v := .ref a_m_marked) (C := RX11) (T := TX11) (N := 29) hx hb hts fin_X11 hown hG.1 hP 0 ce_m_0 vq_9 11 (by decide) (hts _ wm_933) (fun _ h9 => h9) rfl dX11_mark_58 ?_
          refine lv_iconst (v := (3 : Int32)) hx hb dX11_mark_61 (by decide) ?_
          refine lv_aload_n hx hb dX11_mark_62 rfl (lv_at hl 0 rfl) ?_
          refine va_get (D := D) (ci := 9) (v := .int m_markMany) (C := RX11) (T := TX11) (N := 29) hx hb hts fin_X11 hown hG.1 hP 0 ce_m_0 vq_9 8 (by decide) (hts _ wm_930) (fun _ h9 => h9) rfl dX11_mark_63 ?_
          refine lv_imul hx hb dX11_mark_66 ?_
          refine lv_iconst (v := (1 : Int32)) hx hb dX11_mark_67 (by decide) ?_
          refine lv_iadd hx hb dX11_mark_68 ?_
          refine lv_iload_n hx hb dX11_mark_69 rfl (lv_at hl 2 rfl) ?_
          obtain ⟨n16, hf⟩ := nk hf
          refine va_iast (f := (upd m_marked (((3 : Int32) * m_markMany)).toNatClampNeg p1)) hx hb hG.1 hP hD hS 4 0 ce_m_4 rfl n16 dX11_mark_70 (fun H locs hP _ hS => ?_)
          have hP : va_P D vwCl (wd_m a_m a_m_refused a_m_codes a_m_noted a_m_marked a_m_masks a_m_text a_m_before a_m_ahead a_m_aside a_m_sure a_m_wrongs a_m_says a_m_evening a_m_images cI cB cT m_words m_kindNow m_secretNow m_guessed m_left m_wrong m_noteMany m_markMany m_typed m_readAt m_readNumber m_undoMany m_lastGuesses m_above m_below m_refused m_codes m_noted (upd (upd m_marked (((3 : Int32) * m_markMany)).toNatClampNeg p1) ((((3 : Int32) * m_markMany) + (1 : Int32))).toNatClampNeg p2) m_masks m_text m_before m_ahead m_aside m_sure m_wrongs m_says m_evening m_images) H := va_P_eq se_m_m_marked hP
          have hD : va_D A (wd_m a_m a_m_refused a_m_codes a_m_noted a_m_marked a_m_masks a_m_text a_m_before a_m_ahead a_m_aside a_m_sure a_m_wrongs a_m_says a_m_evening a_m_images cI cB cT m_words m_kindNow m_secretNow m_guessed m_left m_wrong m_noteMany m_markMany m_typed m_readAt m_readNumber m_undoMany m_lastGuesses m_above m_below m_refused m_codes m_noted (upd (upd m_marked (((3 : Int32) * m_markMany)).toNatClampNeg p1) ((((3 : Int32) * m_markMany) + (1 : Int32))).toNatClampNeg p2) m_masks m_text m_before m_ahead m_aside m_sure m_wrongs m_says m_evening m_images) := va_D_fst fs_m hD
          refine lv_aload_n hx hb dX11_mark_71 rfl (lv_at hl 0 rfl) ?_
          refine va_get (D := D) (ci := 9) (v := .ref a_m_marked) (C := RX11) (T := TX11) (N := 29) hx hb hts fin_X11 hown hG.1 hP 0 ce_m_0 vq_9 11 (by decide) (hts _ wm_933) (fun _ h9 => h9) rfl dX11_mark_72 ?_
          refine lv_iconst (v := (3 : Int32)) hx hb dX11_mark_75 (by decide) ?_
          refine lv_aload_n hx hb dX11_mark_76 rfl (lv_at hl 0 rfl) ?_
          refine va_get (D := D) (ci := 9) (v := .int m_markMany) (C := RX11) (T := TX11) (N := 29) hx hb hts fin_X11 hown hG.1 hP 0 ce_m_0 vq_9 8 (by decide) (hts _ wm_930) (fun _ h9 => h9) rfl dX11_mark_77 ?_
          refine lv_imul hx hb dX11_mark_80 ?_
          refine lv_iconst (v := (2 : Int32)) hx hb dX11_mark_81 (by decide) ?_
          refine lv_iadd hx hb dX11_mark_82 ?_
          refine lv_iload_n hx hb dX11_mark_83 rfl (lv_at hl 3 rfl) ?_
          obtain ⟨n17, hf⟩ := nk hf
          refine va_iast (f := (upd (upd m_marked (((3 : Int32) * m_markMany)).toNatClampNeg p1) ((((3 : Int32) * m_markMany) + (1 : Int32))).toNatClampNeg p2)) hx hb hG.1 hP hD hS 4 0 ce_m_4 rfl n17 dX11_mark_84 (fun H locs hP _ hS => ?_)
          have hP : va_P D vwCl (wd_m a_m a_m_refused a_m_codes a_m_noted a_m_marked a_m_masks a_m_text a_m_before a_m_ahead a_m_aside a_m_sure a_m_wrongs a_m_says a_m_evening a_m_images cI cB cT m_words m_kindNow m_secretNow m_guessed m_left m_wrong m_noteMany m_markMany m_typed m_readAt m_readNumber m_undoMany m_lastGuesses m_above m_below m_refused m_codes m_noted (upd (upd (upd m_marked (((3 : Int32) * m_markMany)).toNatClampNeg p1) ((((3 : Int32) * m_markMany) + (1 : Int32))).toNatClampNeg p2) ((((3 : Int32) * m_markMany) + (2 : Int32))).toNatClampNeg p3) m_masks m_text m_before m_ahead m_aside m_sure m_wrongs m_says m_evening m_images) H := va_P_eq se_m_m_marked hP
          have hD : va_D A (wd_m a_m a_m_refused a_m_codes a_m_noted a_m_marked a_m_masks a_m_text a_m_before a_m_ahead a_m_aside a_m_sure a_m_wrongs a_m_says a_m_evening a_m_images cI cB cT m_words m_kindNow m_secretNow m_guessed m_left m_wrong m_noteMany m_markMany m_typed m_readAt m_readNumber m_undoMany m_lastGuesses m_above m_below m_refused m_codes m_noted (upd (upd (upd m_marked (((3 : Int32) * m_markMany)).toNatClampNeg p1) ((((3 : Int32) * m_markMany) + (1 : Int32))).toNatClampNeg p2) ((((3 : Int32) * m_markMany) + (2 : Int32))).toNatClampNeg p3) m_masks m_text m_before m_ahead m_aside m_sure m_wrongs m_says m_evening m_images) := va_D_fst fs_m hD
          refine lv_aload_n hx hb dX11_mark_85 rfl (lv_at hl 0 rfl) ?_
          refine lv_dup hx hb dX11_mark_86 rfl ?_
          refine va_get (D := D) (ci := 9) (v := .int m_markMany) (C := RX11) (T := TX11) (N := 29) hx hb hts fin_X11 hown hG.1 hP 0 ce_m_0 vq_9 8 (by decide) (hts _ wm_930) (fun _ h9 => h9) rfl dX11_mark_87 ?_
          refine lv_iconst (v := (1 : Int32)) hx hb dX11_mark_90 (by decide) ?_
          refine lv_iadd hx hb dX11_mark_91 ?_
          refine va_put (D := D) (ci := 9) (v := .int (m_markMany + (1 : Int32))) (ty := .int) (C := RX11) (T := TX11) (N := 29) hx hb hts fin_X11 tyX11 tyX11_ok nmX11 hown hG.1 hP hD hS 0 ce_m_0 vq_9 8 (by decide) (hts _ wm_930) (fun _ h9 => h9) rfl (tyX11_ok 8 (by decide)) rfl rfl (Nat.le_of_ble_eq_true rfl) dX11_mark_92 (fun H locs hP _ hS => ?_)
          have hP : va_P D vwCl (wd_m a_m a_m_refused a_m_codes a_m_noted a_m_marked a_m_masks a_m_text a_m_before a_m_ahead a_m_aside a_m_sure a_m_wrongs a_m_says a_m_evening a_m_images cI cB cT m_words m_kindNow m_secretNow m_guessed m_left m_wrong m_noteMany (m_markMany + (1 : Int32)) m_typed m_readAt m_readNumber m_undoMany m_lastGuesses m_above m_below m_refused m_codes m_noted (upd (upd (upd m_marked (((3 : Int32) * m_markMany)).toNatClampNeg p1) ((((3 : Int32) * m_markMany) + (1 : Int32))).toNatClampNeg p2) ((((3 : Int32) * m_markMany) + (2 : Int32))).toNatClampNeg p3) m_masks m_text m_before m_ahead m_aside m_sure m_wrongs m_says m_evening m_images) H := va_P_eq se_m_m_markMany hP
          have hD : va_D A (wd_m a_m a_m_refused a_m_codes a_m_noted a_m_marked a_m_masks a_m_text a_m_before a_m_ahead a_m_aside a_m_sure a_m_wrongs a_m_says a_m_evening a_m_images cI cB cT m_words m_kindNow m_secretNow m_guessed m_left m_wrong m_noteMany (m_markMany + (1 : Int32)) m_typed m_readAt m_readNumber m_undoMany m_lastGuesses m_above m_below m_refused m_codes m_noted (upd (upd (upd m_marked (((3 : Int32) * m_markMany)).toNatClampNeg p1) ((((3 : Int32) * m_markMany) + (1 : Int32))).toNatClampNeg p2) ((((3 : Int32) * m_markMany) + (2 : Int32))).toNatClampNeg p3) m_masks m_text m_before m_ahead m_aside m_sure m_wrongs m_says m_evening m_images) := va_D_fst fs_m hD
          refine lv_aload_n hx hb dX11_mark_95 rfl (lv_at hl 0 rfl) ?_
          refine va_get (D := D) (ci := 9) (v := .int (m_markMany + (1 : Int32))) (C := RX11) (T := TX11) (N := 29) hx hb hts fin_X11 hown hG.1 hP 0 ce_m_0 vq_9 8 (by decide) (hts _ wm_930) (fun _ h9 => h9) rfl dX11_mark_96 ?_
          obtain rfl := Option.some.inj hf
          exact wr_iret CF hr hlk hP hS dX11_mark_99
        · have hf := tk c14 hf
          refine lv_aload_n hx hb dX11_mark_40 rfl (lv_at hl 0 rfl) ?_
          obtain ⟨o18, e19, hf⟩ := lp_bind hf
          refine wr_Wi (x := o18.1) (ws' := (wd_m a_m a_m_refused a_m_codes a_m_noted a_m_marked a_m_masks a_m_text a_m_before a_m_ahead a_m_aside a_m_sure a_m_wrongs a_m_says a_m_evening a_m_images cI cB cT m_words m_kindNow m_secretNow m_guessed m_left m_wrong m_noteMany m_markMany m_typed m_readAt m_readNumber m_undoMany m_lastGuesses m_above m_below o18.2 m_codes m_noted m_marked m_masks m_text m_before m_ahead m_aside m_sure m_wrongs m_says m_evening m_images)) (As := []) (rest := []) CF (c_X11_full l D cI cB cT H.size a_m a_m_refused a_m_codes a_m_noted a_m_marked a_m_masks a_m_text a_m_before a_m_ahead a_m_aside a_m_sure a_m_wrongs a_m_says a_m_evening a_m_images m_words m_kindNow m_secretNow m_guessed m_left m_wrong m_noteMany m_markMany m_typed m_readAt m_readNumber m_undoMany m_lastGuesses m_above m_below m_refused m_codes m_noted m_marked m_masks m_text m_before m_ahead m_aside m_sure m_wrongs m_says m_evening m_images e19) ok_X11_full wm_1040 ⟨rfl, rfl, Nat.le_of_ble_eq_true rfl, Nat.le_of_ble_eq_true rfl⟩ hG hP hD hS hA fs_m 0 9 vq_9 rfl ce_m_0 rfl hl.1 rfl (Nat.le_of_ble_eq_true rfl) ⟨Nat.zero_le _, Nat.zero_le _⟩ dX11_mark_41 (fun H locs hP hD hS => ?_)
          obtain rfl := Option.some.inj hf
          exact wr_iret CF hr hlk hP hS dX11_mark_44
      · have hf := tk c13 hf
        refine lv_aload_n hx hb dX11_mark_26 rfl (lv_at hl 0 rfl) ?_
        obtain ⟨o20, e21, hf⟩ := lp_bind hf
        refine wr_Wi (x := o20.1) (ws' := (wd_m a_m a_m_refused a_m_codes a_m_noted a_m_marked a_m_masks a_m_text a_m_before a_m_ahead a_m_aside a_m_sure a_m_wrongs a_m_says a_m_evening a_m_images cI cB cT m_words m_kindNow m_secretNow m_guessed m_left m_wrong m_noteMany m_markMany m_typed m_readAt m_readNumber m_undoMany m_lastGuesses m_above m_below o20.2 m_codes m_noted m_marked m_masks m_text m_before m_ahead m_aside m_sure m_wrongs m_says m_evening m_images)) (As := []) (rest := []) CF (c_X11_bad l D cI cB cT H.size a_m a_m_refused a_m_codes a_m_noted a_m_marked a_m_masks a_m_text a_m_before a_m_ahead a_m_aside a_m_sure a_m_wrongs a_m_says a_m_evening a_m_images m_words m_kindNow m_secretNow m_guessed m_left m_wrong m_noteMany m_markMany m_typed m_readAt m_readNumber m_undoMany m_lastGuesses m_above m_below m_refused m_codes m_noted m_marked m_masks m_text m_before m_ahead m_aside m_sure m_wrongs m_says m_evening m_images e21) ok_X11_bad wm_1020 ⟨rfl, rfl, Nat.le_of_ble_eq_true rfl, Nat.le_of_ble_eq_true rfl⟩ hG hP hD hS hA fs_m 0 9 vq_9 rfl ce_m_0 rfl hl.1 rfl (Nat.le_of_ble_eq_true rfl) ⟨Nat.zero_le _, Nat.zero_le _⟩ dX11_mark_27 (fun H locs hP hD hS => ?_)
        obtain rfl := Option.some.inj hf
        exact wr_iret CF hr hlk hP hS dX11_mark_30
end M_X11_mark
section M_X11_forget
variable {p : Program} {l : Launch} {e : Env} {s : State} {m : MethodId} {args : Array Value} {below : List Frame} {meth : Method} {c : Code} {Q : State → Prop} {A : Nat → Prop} {D : va_G} {cI cB cT : ClassId}
variable {a_m a_m_refused a_m_codes a_m_noted a_m_marked a_m_masks a_m_text a_m_before a_m_ahead a_m_aside a_m_sure a_m_wrongs a_m_says a_m_evening a_m_images : Nat}
def rm_X11_forget : Room := { frames := 1, cells := 0, slots := 0, locals := 22 }
def J_X11_forget_43 (m_markMany : Int32) (m_refused : (Nat → Int32)) (x1 : Int32) (x2 : Int32) (y1 : Int32) : Option (Int32 × Int32 × Int32 × (Nat → Int32)) := (if x1 = (1 : Int32) then some (x2, y1, (0 : Int32), m_refused) else some (x2, y1, m_markMany, m_refused))
def J_X11_forget_29 (m_noteMany : Int32) (m_markMany : Int32) (m_refused : (Nat → Int32)) (x1 : Int32) (y0 : Int32) : Option (Int32 × Int32 × Int32 × (Nat → Int32)) := (if x1 = 0 then J_X11_forget_43 m_markMany m_refused x1 y0 (0 : Int32) else J_X11_forget_43 m_markMany m_refused x1 y0 m_noteMany)
def f_X11_forget (m_noteMany : Int32) (m_markMany : Int32) (m_refused : (Nat → Int32)) (p1 : Int32) : Option (Int32 × Int32 × Int32 × (Nat → Int32)) := ((f_X11_in p1 (0 : Int32) (1 : Int32)).bind fun o1 => (if o1 = 0 then ((f_X11_bad m_refused).bind fun o7 => some (o7.1, m_noteMany, m_markMany, o7.2)) else (if p1 = 0 then J_X11_forget_29 m_noteMany m_markMany m_refused p1 m_noteMany else J_X11_forget_29 m_noteMany m_markMany m_refused p1 m_markMany)))
set_option maxHeartbeats 4000000 in
set_option maxRecDepth 100000 in
theorem J_X11_forget_43_W {m_words : Int32} {m_kindNow : Int32} {m_secretNow : Int32} {m_guessed : Int32} {m_left : Int32} {m_wrong : Int32} {m_noteMany : Int32} {m_markMany : Int32} {m_typed : Int32} {m_readAt : Int32} {m_readNumber : Int32} {m_undoMany : Int32} {m_lastGuesses : Int32} {m_above : Int64} {m_below : Int64} {m_refused : (Nat → Int32)} {m_codes : (Nat → Int32)} {m_noted : (Nat → Int32)} {m_marked : (Nat → Int32)} {m_masks : (Nat → Int32)} {m_text : (Nat → Int32)} {m_before : (Nat → Int32)} {m_ahead : (Nat → Int32)} {m_aside : (Nat → Int32)} {m_sure : (Nat → Int32)} {m_wrongs : (Nat → Int32)} {m_says : (Nat → Int32)} {m_evening : (Nat → Int32)} {m_images : (Nat → Int32)} {x1 : Int32} {x2 : Int32} {y1 : Int32} (CF : CallFix p m c cX11_forget 3 s args wsAll RX11) (hG : Gd D cI cB cT s) (hA : ∀ q : Nat, s.heap.size ≤ q → A q) {z : Int32 × Int32 × Int32 × (Nat → Int32)} {H : Heap} {locs : List Loc} (hr : meth.sig.returnType = some .int) (hlk : meth.locks = false) {ls : Array Slot} (hP : va_P D vwCl (wd_m a_m a_m_refused a_m_codes a_m_noted a_m_marked a_m_masks a_m_text a_m_before a_m_ahead a_m_aside a_m_sure a_m_wrongs a_m_says a_m_evening a_m_images cI cB cT m_words m_kindNow m_secretNow m_guessed m_left m_wrong m_noteMany m_markMany m_typed m_readAt m_readNumber m_undoMany m_lastGuesses m_above m_below m_refused m_codes m_noted m_marked m_masks m_text m_before m_ahead m_aside m_sure m_wrongs m_says m_evening m_images) H) (hD : va_D A (wd_m a_m a_m_refused a_m_codes a_m_noted a_m_marked a_m_masks a_m_text a_m_before a_m_ahead a_m_aside a_m_sure a_m_wrongs a_m_says a_m_evening a_m_images cI cB cT m_words m_kindNow m_secretNow m_guessed m_left m_wrong m_noteMany m_markMany m_typed m_readAt m_readNumber m_undoMany m_lastGuesses m_above m_below m_refused m_codes m_noted m_marked m_masks m_text m_before m_ahead m_aside m_sure m_wrongs m_says m_evening m_images)) (hS : va_S A s.heap H locs) (hl : lv_has ls 3 [(0, .ref a_m), (1, .int x1), (2, .int x2)]) (hf : J_X11_forget_43 m_markMany m_refused x1 x2 y1 = some z) : W p l e rm_X11_forget s m args below meth c H locs 0 0 (MQ below (Qw (some (.int z.1)) D (wd_m a_m a_m_refused a_m_codes a_m_noted a_m_marked a_m_masks a_m_text a_m_before a_m_ahead a_m_aside a_m_sure a_m_wrongs a_m_says a_m_evening a_m_images cI cB cT m_words m_kindNow m_secretNow m_guessed m_left m_wrong z.2.1 z.2.2.1 m_typed m_readAt m_readNumber m_undoMany m_lastGuesses m_above m_below z.2.2.2 m_codes m_noted m_marked m_masks m_text m_before m_ahead m_aside m_sure m_wrongs m_says m_evening m_images) A) args s 0 0 A) (F0 m 43 ls [.int y1, .ref a_m]) := by
  obtain ⟨hx, hb, hml, hown, hts⟩ := id CF
  unfold J_X11_forget_43 at hf
  refine va_put (D := D) (ci := 9) (v := .int y1) (ty := .int) (C := RX11) (T := TX11) (N := 29) hx hb hts fin_X11 tyX11 tyX11_ok nmX11 hown hG.1 hP hD hS 0 ce_m_0 vq_9 7 (by decide) (hts _ wm_929) (fun _ h9 => h9) rfl (tyX11_ok 7 (by decide)) rfl rfl (Nat.le_of_ble_eq_true rfl) dX11_forget_43 (fun H locs hP _ hS => ?_)
  have hP : va_P D vwCl (wd_m a_m a_m_refused a_m_codes a_m_noted a_m_marked a_m_masks a_m_text a_m_before a_m_ahead a_m_aside a_m_sure a_m_wrongs a_m_says a_m_evening a_m_images cI cB cT m_words m_kindNow m_secretNow m_guessed m_left m_wrong y1 m_markMany m_typed m_readAt m_readNumber m_undoMany m_lastGuesses m_above m_below m_refused m_codes m_noted m_marked m_masks m_text m_before m_ahead m_aside m_sure m_wrongs m_says m_evening m_images) H := va_P_eq se_m_m_noteMany hP
  have hD : va_D A (wd_m a_m a_m_refused a_m_codes a_m_noted a_m_marked a_m_masks a_m_text a_m_before a_m_ahead a_m_aside a_m_sure a_m_wrongs a_m_says a_m_evening a_m_images cI cB cT m_words m_kindNow m_secretNow m_guessed m_left m_wrong y1 m_markMany m_typed m_readAt m_readNumber m_undoMany m_lastGuesses m_above m_below m_refused m_codes m_noted m_marked m_masks m_text m_before m_ahead m_aside m_sure m_wrongs m_says m_evening m_images) := va_D_fst fs_m hD
  refine lv_aload_n hx hb dX11_forget_46 rfl (lv_at hl 0 rfl) ?_
  refine lv_iload_n hx hb dX11_forget_47 rfl (lv_at hl 1 rfl) ?_
  refine lv_iconst (v := (1 : Int32)) hx hb dX11_forget_48 (by decide) ?_
  refine lv_icmp_ne (tgt := 56) hx hb dX11_forget_49 (by decide) (fun c6 => ?_) (fun c6 => ?_)
  · have hf := fk c6 hf
    refine lv_aload_n hx hb dX11_forget_56 rfl (lv_at hl 0 rfl) ?_
    refine va_get (D := D) (ci := 9) (v := .int m_markMany) (C := RX11) (T := TX11) (N := 29) hx hb hts fin_X11 hown hG.1 hP 0 ce_m_0 vq_9 8 (by decide) (hts _ wm_930) (fun _ h9 => h9) rfl dX11_forget_57 ?_
    refine va_put (D := D) (ci := 9) (v := .int m_markMany) (ty := .int) (C := RX11) (T := TX11) (N := 29) hx hb hts fin_X11 tyX11 tyX11_ok nmX11 hown hG.1 hP hD hS 0 ce_m_0 vq_9 8 (by decide) (hts _ wm_930) (fun _ h9 => h9) rfl (tyX11_ok 8 (by decide)) rfl rfl (Nat.le_of_ble_eq_true rfl) dX11_forget_60 (fun H locs hP _ hS => ?_)
    have hP : va_P D vwCl (wd_m a_m a_m_refused a_m_codes a_m_noted a_m_marked a_m_masks a_m_text a_m_before a_m_ahead a_m_aside a_m_sure a_m_wrongs a_m_says a_m_evening a_m_images cI cB cT m_words m_kindNow m_secretNow m_guessed m_left m_wrong y1 m_markMany m_typed m_readAt m_readNumber m_undoMany m_lastGuesses m_above m_below m_refused m_codes m_noted m_marked m_masks m_text m_before m_ahead m_aside m_sure m_wrongs m_says m_evening m_images) H := va_P_eq se_m_m_markMany hP
    have hD : va_D A (wd_m a_m a_m_refused a_m_codes a_m_noted a_m_marked a_m_masks a_m_text a_m_before a_m_ahead a_m_aside a_m_sure a_m_wrongs a_m_says a_m_evening a_m_images cI cB cT m_words m_kindNow m_secretNow m_guessed m_left m_wrong y1 m_markMany m_typed m_readAt m_readNumber m_undoMany m_lastGuesses m_above m_below m_refused m_codes m_noted m_marked m_masks m_text m_before m_ahead m_aside m_sure m_wrongs m_says m_evening m_images) := va_D_fst fs_m hD
    refine lv_iload_n hx hb dX11_forget_63 rfl (lv_at hl 2 rfl) ?_
    obtain rfl := Option.some.inj hf
    exact wr_iret CF hr hlk hP hS dX11_forget_64
  · have hf := tk c6 hf
    refine lv_iconst (v := (0 : Int32)) hx hb dX11_forget_52 (by decide) ?_
    refine lv_goto (tgt := 60) hx hb dX11_forget_53 (by decide) ?_
    refine va_put (D := D) (ci := 9) (v := .int (0 : Int32)) (ty := .int) (C := RX11) (T := TX11) (N := 29) hx hb hts fin_X11 tyX11 tyX11_ok nmX11 hown hG.1 hP hD hS 0 ce_m_0 vq_9 8 (by decide) (hts _ wm_930) (fun _ h9 => h9) rfl (tyX11_ok 8 (by decide)) rfl rfl (Nat.le_of_ble_eq_true rfl) dX11_forget_60 (fun H locs hP _ hS => ?_)
    have hP : va_P D vwCl (wd_m a_m a_m_refused a_m_codes a_m_noted a_m_marked a_m_masks a_m_text a_m_before a_m_ahead a_m_aside a_m_sure a_m_wrongs a_m_says a_m_evening a_m_images cI cB cT m_words m_kindNow m_secretNow m_guessed m_left m_wrong y1 (0 : Int32) m_typed m_readAt m_readNumber m_undoMany m_lastGuesses m_above m_below m_refused m_codes m_noted m_marked m_masks m_text m_before m_ahead m_aside m_sure m_wrongs m_says m_evening m_images) H := va_P_eq se_m_m_markMany hP
    have hD : va_D A (wd_m a_m a_m_refused a_m_codes a_m_noted a_m_marked a_m_masks a_m_text a_m_before a_m_ahead a_m_aside a_m_sure a_m_wrongs a_m_says a_m_evening a_m_images cI cB cT m_words m_kindNow m_secretNow m_guessed m_left m_wrong y1 (0 : Int32) m_typed m_readAt m_readNumber m_undoMany m_lastGuesses m_above m_below m_refused m_codes m_noted m_marked m_masks m_text m_before m_ahead m_aside m_sure m_wrongs m_says m_evening m_images) := va_D_fst fs_m hD
    refine lv_iload_n hx hb dX11_forget_63 rfl (lv_at hl 2 rfl) ?_
    obtain rfl := Option.some.inj hf
    exact wr_iret CF hr hlk hP hS dX11_forget_64
set_option maxHeartbeats 4000000 in
set_option maxRecDepth 100000 in
theorem J_X11_forget_29_W {m_words : Int32} {m_kindNow : Int32} {m_secretNow : Int32} {m_guessed : Int32} {m_left : Int32} {m_wrong : Int32} {m_noteMany : Int32} {m_markMany : Int32} {m_typed : Int32} {m_readAt : Int32} {m_readNumber : Int32} {m_undoMany : Int32} {m_lastGuesses : Int32} {m_above : Int64} {m_below : Int64} {m_refused : (Nat → Int32)} {m_codes : (Nat → Int32)} {m_noted : (Nat → Int32)} {m_marked : (Nat → Int32)} {m_masks : (Nat → Int32)} {m_text : (Nat → Int32)} {m_before : (Nat → Int32)} {m_ahead : (Nat → Int32)} {m_aside : (Nat → Int32)} {m_sure : (Nat → Int32)} {m_wrongs : (Nat → Int32)} {m_says : (Nat → Int32)} {m_evening : (Nat → Int32)} {m_images : (Nat → Int32)} {x1 : Int32} {y0 : Int32} (CF : CallFix p m c cX11_forget 3 s args wsAll RX11) (hG : Gd D cI cB cT s) (hA : ∀ q : Nat, s.heap.size ≤ q → A q) {z : Int32 × Int32 × Int32 × (Nat → Int32)} {H : Heap} {locs : List Loc} (hr : meth.sig.returnType = some .int) (hlk : meth.locks = false) {ls : Array Slot} (hP : va_P D vwCl (wd_m a_m a_m_refused a_m_codes a_m_noted a_m_marked a_m_masks a_m_text a_m_before a_m_ahead a_m_aside a_m_sure a_m_wrongs a_m_says a_m_evening a_m_images cI cB cT m_words m_kindNow m_secretNow m_guessed m_left m_wrong m_noteMany m_markMany m_typed m_readAt m_readNumber m_undoMany m_lastGuesses m_above m_below m_refused m_codes m_noted m_marked m_masks m_text m_before m_ahead m_aside m_sure m_wrongs m_says m_evening m_images) H) (hD : va_D A (wd_m a_m a_m_refused a_m_codes a_m_noted a_m_marked a_m_masks a_m_text a_m_before a_m_ahead a_m_aside a_m_sure a_m_wrongs a_m_says a_m_evening a_m_images cI cB cT m_words m_kindNow m_secretNow m_guessed m_left m_wrong m_noteMany m_markMany m_typed m_readAt m_readNumber m_undoMany m_lastGuesses m_above m_below m_refused m_codes m_noted m_marked m_masks m_text m_before m_ahead m_aside m_sure m_wrongs m_says m_evening m_images)) (hS : va_S A s.heap H locs) (hl : lv_has ls 3 [(0, .ref a_m), (1, .int x1)]) (hf : J_X11_forget_29 m_noteMany m_markMany m_refused x1 y0 = some z) : W p l e rm_X11_forget s m args below meth c H locs 0 0 (MQ below (Qw (some (.int z.1)) D (wd_m a_m a_m_refused a_m_codes a_m_noted a_m_marked a_m_masks a_m_text a_m_before a_m_ahead a_m_aside a_m_sure a_m_wrongs a_m_says a_m_evening a_m_images cI cB cT m_words m_kindNow m_secretNow m_guessed m_left m_wrong z.2.1 z.2.2.1 m_typed m_readAt m_readNumber m_undoMany m_lastGuesses m_above m_below z.2.2.2 m_codes m_noted m_marked m_masks m_text m_before m_ahead m_aside m_sure m_wrongs m_says m_evening m_images) A) args s 0 0 A) (F0 m 29 ls [.int y0]) := by
  obtain ⟨hx, hb, hml, hown, hts⟩ := id CF
  unfold J_X11_forget_29 at hf
  refine lv_istore_n (lv' := [(2, .int y0), (0, .ref a_m), (1, .int x1)]) hx hb dX11_forget_29 rfl hl (by decide) rfl (fun ls hl => ?_)
  refine lv_aload_n hx hb dX11_forget_30 rfl (lv_at hl 1 rfl) ?_
  refine lv_iload_n hx hb dX11_forget_31 rfl (lv_at hl 2 rfl) ?_
  refine lv_if_ne (tgt := 39) hx hb dX11_forget_32 (by decide) (fun c5 => ?_) (fun c5 => ?_)
  · have hf := fk c5 hf
    refine lv_aload_n hx hb dX11_forget_39 rfl (lv_at hl 1 rfl) ?_
    refine va_get (D := D) (ci := 9) (v := .int m_noteMany) (C := RX11) (T := TX11) (N := 29) hx hb hts fin_X11 hown hG.1 hP 0 ce_m_0 vq_9 7 (by decide) (hts _ wm_929) (fun _ h9 => h9) rfl dX11_forget_40 ?_
    exact J_X11_forget_43_W CF hG hA hr hlk hP hD hS (lv_sub hl [1, 2, 0] rfl) hf
  · have hf := tk c5 hf
    refine lv_iconst (v := (0 : Int32)) hx hb dX11_forget_35 (by decide) ?_
    refine lv_goto (tgt := 43) hx hb dX11_forget_36 (by decide) ?_
    exact J_X11_forget_43_W CF hG hA hr hlk hP hD hS (lv_sub hl [1, 2, 0] rfl) hf
set_option maxHeartbeats 4000000 in
set_option maxRecDepth 100000 in
theorem c_X11_forget (l : Launch) (D : va_G) (cI cB cT : ClassId) (sz : Nat) (a_m a_m_refused a_m_codes a_m_noted a_m_marked a_m_masks a_m_text a_m_before a_m_ahead a_m_aside a_m_sure a_m_wrongs a_m_says a_m_evening a_m_images : Nat) (m_words : Int32) (m_kindNow : Int32) (m_secretNow : Int32) (m_guessed : Int32) (m_left : Int32) (m_wrong : Int32) (m_noteMany : Int32) (m_markMany : Int32) (m_typed : Int32) (m_readAt : Int32) (m_readNumber : Int32) (m_undoMany : Int32) (m_lastGuesses : Int32) (m_above : Int64) (m_below : Int64) (m_refused : (Nat → Int32)) (m_codes : (Nat → Int32)) (m_noted : (Nat → Int32)) (m_marked : (Nat → Int32)) (m_masks : (Nat → Int32)) (m_text : (Nat → Int32)) (m_before : (Nat → Int32)) (m_ahead : (Nat → Int32)) (m_aside : (Nat → Int32)) (m_sure : (Nat → Int32)) (m_wrongs : (Nat → Int32)) (m_says : (Nat → Int32)) (m_evening : (Nat → Int32)) (m_images : (Nat → Int32)) (p1 : Int32) {z : Int32 × Int32 × Int32 × (Nat → Int32)} (hf : f_X11_forget m_noteMany m_markMany m_refused p1 = some z) :
    Met l yX11_forget (Cond.code yX11_forget cX11_forget 3 (some .int) :: wsAll) rm_X11_forget (Pwr [.ref a_m, .int p1] D cI cB cT (wd_m a_m a_m_refused a_m_codes a_m_noted a_m_marked a_m_masks a_m_text a_m_before a_m_ahead a_m_aside a_m_sure a_m_wrongs a_m_says a_m_evening a_m_images cI cB cT m_words m_kindNow m_secretNow m_guessed m_left m_wrong m_noteMany m_markMany m_typed m_readAt m_readNumber m_undoMany m_lastGuesses m_above m_below m_refused m_codes m_noted m_marked m_masks m_text m_before m_ahead m_aside m_sure m_wrongs m_says m_evening m_images) sz) (Qw (some (.int z.1)) D (wd_m a_m a_m_refused a_m_codes a_m_noted a_m_marked a_m_masks a_m_text a_m_before a_m_ahead a_m_aside a_m_sure a_m_wrongs a_m_says a_m_evening a_m_images cI cB cT m_words m_kindNow m_secretNow m_guessed m_left m_wrong z.2.1 z.2.2.1 m_typed m_readAt m_readNumber m_undoMany m_lastGuesses m_above m_below z.2.2.2 m_codes m_noted m_marked m_masks m_text m_before m_ahead m_aside m_sure m_wrongs m_says m_evening m_images) (va_A (wd_m a_m a_m_refused a_m_codes a_m_noted a_m_marked a_m_masks a_m_text a_m_before a_m_ahead a_m_aside a_m_sure a_m_wrongs a_m_says a_m_evening a_m_images cI cB cT m_words m_kindNow m_secretNow m_guessed m_left m_wrong m_noteMany m_markMany m_typed m_readAt m_readNumber m_undoMany m_lastGuesses m_above m_below m_refused m_codes m_noted m_marked m_masks m_text m_before m_ahead m_aside m_sure m_wrongs m_says m_evening m_images) sz)) 0 0 (va_A (wd_m a_m a_m_refused a_m_codes a_m_noted a_m_marked a_m_masks a_m_text a_m_before a_m_ahead a_m_aside a_m_sure a_m_wrongs a_m_says a_m_evening a_m_images cI cB cT m_words m_kindNow m_secretNow m_guessed m_left m_wrong m_noteMany m_markMany m_typed m_readAt m_readNumber m_undoMany m_lastGuesses m_above m_below m_refused m_codes m_noted m_marked m_masks m_text m_before m_ahead m_aside m_sure m_wrongs m_says m_evening m_images) sz) := by
  refine wr_intro RX11 (by decide +kernel) rfl (Nat.le_of_ble_eq_true rfl) ?_
  intro p e s m below meth c ls A H locs CF hr hlk hG hP hD hS hA hl
  have hl : lv_has ls 3 [(0, .ref a_m), (1, .int p1)] := hl
  obtain ⟨hx, hb, hml, hown, hts⟩ := id CF
  unfold f_X11_forget at hf
  refine lv_iload_n hx hb dX11_forget_0 rfl (lv_at hl 1 rfl) ?_
  refine lv_iconst (v := (0 : Int32)) hx hb dX11_forget_1 (by decide) ?_
  refine lv_iconst (v := (1 : Int32)) hx hb dX11_forget_2 (by decide) ?_
  obtain ⟨o1, e2, hf⟩ := lp_bind hf
  refine ro_Si (x := o1) (As := [.int p1, .int (0 : Int32), .int (1 : Int32)]) (rest := []) CF (c_X11_in l D cI cB cT p1 (0 : Int32) (1 : Int32) e2) ok_X11_in wm_1017 ⟨rfl, rfl, Nat.le_of_ble_eq_true rfl, Nat.le_of_ble_eq_true rfl⟩ hG wd_E_P rfl hl.1 rfl (Nat.le_of_ble_eq_true rfl) ⟨Nat.zero_le _, Nat.zero_le _⟩ dX11_forget_3 ?_
  refine lv_if_ne (tgt := 14) hx hb dX11_forget_6 (by decide) (fun c3 => ?_) (fun c3 => ?_)
  · have hf := fk c3 hf
    refine lv_iload_n hx hb dX11_forget_14 rfl (lv_at hl 1 rfl) ?_
    refine lv_if_ne (tgt := 25) hx hb dX11_forget_15 (by decide) (fun c4 => ?_) (fun c4 => ?_)
    · have hf := fk c4 hf
      refine lv_aload_n hx hb dX11_forget_25 rfl (lv_at hl 0 rfl) ?_
      refine va_get (D := D) (ci := 9) (v := .int m_markMany) (C := RX11) (T := TX11) (N := 29) hx hb hts fin_X11 hown hG.1 hP 0 ce_m_0 vq_9 8 (by decide) (hts _ wm_930) (fun _ h9 => h9) rfl dX11_forget_26 ?_
      exact J_X11_forget_29_W CF hG hA hr hlk hP hD hS (lv_sub hl [0, 1] rfl) hf
    · have hf := tk c4 hf
      refine lv_aload_n hx hb dX11_forget_18 rfl (lv_at hl 0 rfl) ?_
      refine va_get (D := D) (ci := 9) (v := .int m_noteMany) (C := RX11) (T := TX11) (N := 29) hx hb hts fin_X11 hown hG.1 hP 0 ce_m_0 vq_9 7 (by decide) (hts _ wm_929) (fun _ h9 => h9) rfl dX11_forget_19 ?_
      refine lv_goto (tgt := 29) hx hb dX11_forget_22 (by decide) ?_
      exact J_X11_forget_29_W CF hG hA hr hlk hP hD hS (lv_sub hl [0, 1] rfl) hf
  · have hf := tk c3 hf
    refine lv_aload_n hx hb dX11_forget_9 rfl (lv_at hl 0 rfl) ?_
    obtain ⟨o7, e8, hf⟩ := lp_bind hf
    refine wr_Wi (x := o7.1) (ws' := (wd_m a_m a_m_refused a_m_codes a_m_noted a_m_marked a_m_masks a_m_text a_m_before a_m_ahead a_m_aside a_m_sure a_m_wrongs a_m_says a_m_evening a_m_images cI cB cT m_words m_kindNow m_secretNow m_guessed m_left m_wrong m_noteMany m_markMany m_typed m_readAt m_readNumber m_undoMany m_lastGuesses m_above m_below o7.2 m_codes m_noted m_marked m_masks m_text m_before m_ahead m_aside m_sure m_wrongs m_says m_evening m_images)) (As := []) (rest := []) CF (c_X11_bad l D cI cB cT H.size a_m a_m_refused a_m_codes a_m_noted a_m_marked a_m_masks a_m_text a_m_before a_m_ahead a_m_aside a_m_sure a_m_wrongs a_m_says a_m_evening a_m_images m_words m_kindNow m_secretNow m_guessed m_left m_wrong m_noteMany m_markMany m_typed m_readAt m_readNumber m_undoMany m_lastGuesses m_above m_below m_refused m_codes m_noted m_marked m_masks m_text m_before m_ahead m_aside m_sure m_wrongs m_says m_evening m_images e8) ok_X11_bad wm_1020 ⟨rfl, rfl, Nat.le_of_ble_eq_true rfl, Nat.le_of_ble_eq_true rfl⟩ hG hP hD hS hA fs_m 0 9 vq_9 rfl ce_m_0 rfl hl.1 rfl (Nat.le_of_ble_eq_true rfl) ⟨Nat.zero_le _, Nat.zero_le _⟩ dX11_forget_10 (fun H locs hP hD hS => ?_)
    obtain rfl := Option.some.inj hf
    exact wr_iret CF hr hlk hP hS dX11_forget_13
end M_X11_forget
section M_X11_is
variable {p : Program} {l : Launch} {e : Env} {s : State} {m : MethodId} {args : Array Value} {below : List Frame} {meth : Method} {c : Code} {Q : State → Prop} {A : Nat → Prop} {D : va_G} {cI cB cT : ClassId}
variable {a_m a_m_refused a_m_codes a_m_noted a_m_marked a_m_masks a_m_text a_m_before a_m_ahead a_m_aside a_m_sure a_m_wrongs a_m_says a_m_evening a_m_images : Nat}
def rm_X11_is : Room := { frames := 5, cells := 0, slots := 0, locals := 120 }
def B_X11_is_15 (m_words : Int32) (m_secretNow : Int32) (m_noteMany : Int32) (m_noted : (Nat → Int32)) (m_masks : (Nat → Int32)) (x2 : Int32) (x3 : Int32) (x4 : Int32) : Option ((Int32 × Int32) ⊕ (Int32)) := (if m_noteMany ≤ x4 then some (Sum.inr x3) else (if x3 = 0 then some (Sum.inl ((0 : Int32), (x4 + (1 : Int32)))) else (if oob ((4 : Int32) * x4) 24 then none else (if oob (((4 : Int32) * x4) + (1 : Int32)) 24 then none else (if oob (((4 : Int32) * x4) + (2 : Int32)) 24 then none else ((f_X11_answerBy m_words m_secretNow m_masks x2 (m_noted (((4 : Int32) * x4)).toNatClampNeg) (m_noted ((((4 : Int32) * x4) + (1 : Int32))).toNatClampNeg) (m_noted ((((4 : Int32) * x4) + (2 : Int32))).toNatClampNeg)).bind fun o7 => (if oob (((4 : Int32) * x4) + (3 : Int32)) 24 then none else (if o7 = (m_noted ((((4 : Int32) * x4) + (3 : Int32))).toNatClampNeg) then some (Sum.inl ((1 : Int32), (x4 + (1 : Int32)))) else some (Sum.inl ((0 : Int32), (x4 + (1 : Int32))))))))))))
def B_X11_is_4 (m_words : Int32) (m_secretNow : Int32) (m_noteMany : Int32) (m_noted : (Nat → Int32)) (m_masks : (Nat → Int32)) (x1 : Int32) (x2 : Int32) : Option ((Int32 × Int32) ⊕ (Int32)) := (if (6 : Int32) ≤ x2 then some (Sum.inr x1) else ((lp (fun v => B_X11_is_15 m_words m_secretNow m_noteMany m_noted m_masks x2 v.1 v.2) KN ((1 : Int32), (0 : Int32))).bind fun o11 => (if o11 = 0 then some (Sum.inl ((x1 ||| (0 : Int32)), (x2 + (1 : Int32)))) else some (Sum.inl ((x1 ||| ((1 : Int32) <<< (x2 &&& 31))), (x2 + (1 : Int32)))))))
def f_X11_is (m_words : Int32) (m_secretNow : Int32) (m_noteMany : Int32) (m_noted : (Nat → Int32)) (m_masks : (Nat → Int32)) : Option (Int32) := ((lp (fun v => B_X11_is_4 m_words m_secretNow m_noteMany m_noted m_masks v.1 v.2) KN ((0 : Int32), (0 : Int32))).bind fun o14 => some o14)
set_option maxHeartbeats 4000000 in
set_option maxRecDepth 100000 in
theorem B_X11_is_15_W {m_words : Int32} {m_kindNow : Int32} {m_secretNow : Int32} {m_guessed : Int32} {m_left : Int32} {m_wrong : Int32} {m_noteMany : Int32} {m_markMany : Int32} {m_typed : Int32} {m_readAt : Int32} {m_readNumber : Int32} {m_undoMany : Int32} {m_lastGuesses : Int32} {m_above : Int64} {m_below : Int64} {m_refused : (Nat → Int32)} {m_codes : (Nat → Int32)} {m_noted : (Nat → Int32)} {m_marked : (Nat → Int32)} {m_masks : (Nat → Int32)} {m_text : (Nat → Int32)} {m_before : (Nat → Int32)} {m_ahead : (Nat → Int32)} {m_aside : (Nat → Int32)} {m_sure : (Nat → Int32)} {m_wrongs : (Nat → Int32)} {m_says : (Nat → Int32)} {m_evening : (Nat → Int32)} {m_images : (Nat → Int32)} {x1 : Int32} {x2 : Int32} {x3 : Int32} {x4 : Int32} (CF : CallFix p m c cX11_is 5 s args wsAll RX11) (hG : Gd D cI cB cT s) {z : (Int32 × Int32) ⊕ (Int32)} (hk : ∀ (v' : Int32 × Int32) (ls : Array Slot), z = Sum.inl v' → lv_has ls 5 [(0, .ref a_m), (1, .int x1), (2, .int x2), (3, .int (v'.1)), (4, .int (v'.2))] → W p l e rm_X11_is s m args below meth c s.heap [] 0 0 Q (F0 m 15 ls [])) (hx0 : ∀ (o' : Int32) (ls : Array Slot), z = Sum.inr o' → lv_has ls 5 [(0, .ref a_m), (1, .int x1), (2, .int x2), (3, .int (o'))] → W p l e rm_X11_is s m args below meth c s.heap [] 0 0 Q (F0 m 90 ls [])) {ls : Array Slot} (hP : va_P D vwCl (wd_m a_m a_m_refused a_m_codes a_m_noted a_m_marked a_m_masks a_m_text a_m_before a_m_ahead a_m_aside a_m_sure a_m_wrongs a_m_says a_m_evening a_m_images cI cB cT m_words m_kindNow m_secretNow m_guessed m_left m_wrong m_noteMany m_markMany m_typed m_readAt m_readNumber m_undoMany m_lastGuesses m_above m_below m_refused m_codes m_noted m_marked m_masks m_text m_before m_ahead m_aside m_sure m_wrongs m_says m_evening m_images) s.heap) (hl : lv_has ls 5 [(0, .ref a_m), (1, .int x1), (2, .int x2), (3, .int x3), (4, .int x4)]) (hf : B_X11_is_15 m_words m_secretNow m_noteMany m_noted m_masks x2 x3 x4 = some z) : W p l e rm_X11_is s m args below meth c s.heap [] 0 0 Q (F0 m 15 ls []) := by
  obtain ⟨hx, hb, hml, hown, hts⟩ := id CF
  unfold B_X11_is_15 at hf
  refine lv_iload hx hb dX11_is_15 (lv_at hl 4 rfl) ?_
  refine lv_aload_n hx hb dX11_is_17 rfl (lv_at hl 0 rfl) ?_
  refine va_get (D := D) (ci := 9) (v := .int m_noteMany) (C := RX11) (T := TX11) (N := 29) hx hb hts fin_X11 hown hG.1 hP 0 ce_m_0 vq_9 7 (by decide) (hts _ wm_929) (fun _ h9 => h9) rfl dX11_is_18 ?_
  refine lv_icmp_ge (tgt := 90) hx hb dX11_is_21 (by decide) (fun c2 => ?_) (fun c2 => ?_)
  · have hf := tk c2 hf
    exact hx0 _ _ (Option.some.inj hf).symm (lv_sub hl [0, 1, 2, 3] rfl)
  · have hf := fk c2 hf
    refine lv_iload_n hx hb dX11_is_24 rfl (lv_at hl 3 rfl) ?_
    refine lv_if_eq (tgt := 82) hx hb dX11_is_25 (by decide) (fun c3 => ?_) (fun c3 => ?_)
    · have hf := tk c3 hf
      refine lv_iconst (v := (0 : Int32)) hx hb dX11_is_82 (by decide) ?_
      refine lv_istore_n (lv' := [(3, .int (0 : Int32)), (0, .ref a_m), (1, .int x1), (2, .int x2), (4, .int x4)]) hx hb dX11_is_83 rfl hl (by decide) rfl (fun ls hl => ?_)
      refine lv_iinc (v := (x4 + (1 : Int32))) (lv' := [(4, .int (x4 + (1 : Int32))), (3, .int (0 : Int32)), (0, .ref a_m), (1, .int x1), (2, .int x2)]) hx hb dX11_is_84 hl (k := 4) rfl (iinc_eq (by decide)) (by decide) rfl (fun ls hl => ?_)
      refine lv_goto (tgt := 15) hx hb dX11_is_87 (by decide) ?_
      exact hk _ _ (Option.some.inj hf).symm (lv_sub hl [2, 3, 4, 1, 0] rfl)
    · have hf := fk c3 hf
      refine lv_aload_n hx hb dX11_is_28 rfl (lv_at hl 0 rfl) ?_
      refine lv_iload_n hx hb dX11_is_29 rfl (lv_at hl 2 rfl) ?_
      refine lv_aload_n hx hb dX11_is_30 rfl (lv_at hl 0 rfl) ?_
      refine va_get (D := D) (ci := 9) (v := .ref a_m_noted) (C := RX11) (T := TX11) (N := 29) hx hb hts fin_X11 hown hG.1 hP 0 ce_m_0 vq_9 10 (by decide) (hts _ wm_932) (fun _ h9 => h9) rfl dX11_is_31 ?_
      refine lv_iconst (v := (4 : Int32)) hx hb dX11_is_34 (by decide) ?_
      refine lv_iload hx hb dX11_is_35 (lv_at hl 4 rfl) ?_
      refine lv_imul hx hb dX11_is_37 ?_
      obtain ⟨n4, hf⟩ := nk hf
      refine va_iald (f := m_noted) hx hb hG.1 hP 3 0 ce_m_3 rfl n4 dX11_is_38 ?_
      refine lv_aload_n hx hb dX11_is_39 rfl (lv_at hl 0 rfl) ?_
      refine va_get (D := D) (ci := 9) (v := .ref a_m_noted) (C := RX11) (T := TX11) (N := 29) hx hb hts fin_X11 hown hG.1 hP 0 ce_m_0 vq_9 10 (by decide) (hts _ wm_932) (fun _ h9 => h9) rfl dX11_is_40 ?_
      refine lv_iconst (v := (4 : Int32)) hx hb dX11_is_43 (by decide) ?_
      refine lv_iload hx hb dX11_is_44 (lv_at hl 4 rfl) ?_
      refine lv_imul hx hb dX11_is_46 ?_
      refine lv_iconst (v := (1 : Int32)) hx hb dX11_is_47 (by decide) ?_
      refine lv_iadd hx hb dX11_is_48 ?_
      obtain ⟨n5, hf⟩ := nk hf
      refine va_iald (f := m_noted) hx hb hG.1 hP 3 0 ce_m_3 rfl n5 dX11_is_49 ?_
      refine lv_aload_n hx hb dX11_is_50 rfl (lv_at hl 0 rfl) ?_
      refine va_get (D := D) (ci := 9) (v := .ref a_m_noted) (C := RX11) (T := TX11) (N := 29) hx hb hts fin_X11 hown hG.1 hP 0 ce_m_0 vq_9 10 (by decide) (hts _ wm_932) (fun _ h9 => h9) rfl dX11_is_51 ?_
      refine lv_iconst (v := (4 : Int32)) hx hb dX11_is_54 (by decide) ?_
      refine lv_iload hx hb dX11_is_55 (lv_at hl 4 rfl) ?_
      refine lv_imul hx hb dX11_is_57 ?_
      refine lv_iconst (v := (2 : Int32)) hx hb dX11_is_58 (by decide) ?_
      refine lv_iadd hx hb dX11_is_59 ?_
      obtain ⟨n6, hf⟩ := nk hf
      refine va_iald (f := m_noted) hx hb hG.1 hP 3 0 ce_m_3 rfl n6 dX11_is_60 ?_
      obtain ⟨o7, e8, hf⟩ := lp_bind hf
      refine ro_Vi (x := o7) (As := [.int x2, .int (m_noted (((4 : Int32) * x4)).toNatClampNeg), .int (m_noted ((((4 : Int32) * x4) + (1 : Int32))).toNatClampNeg), .int (m_noted ((((4 : Int32) * x4) + (2 : Int32))).toNatClampNeg)]) (rest := []) CF (c_X11_answerBy l D cI cB cT a_m a_m_refused a_m_codes a_m_noted a_m_marked a_m_masks a_m_text a_m_before a_m_ahead a_m_aside a_m_sure a_m_wrongs a_m_says a_m_evening a_m_images m_words m_kindNow m_secretNow m_guessed m_left m_wrong m_noteMany m_markMany m_typed m_readAt m_readNumber m_undoMany m_lastGuesses m_above m_below m_refused m_codes m_noted m_marked m_masks m_text m_before m_ahead m_aside m_sure m_wrongs m_says m_evening m_images x2 (m_noted (((4 : Int32) * x4)).toNatClampNeg) (m_noted ((((4 : Int32) * x4) + (1 : Int32))).toNatClampNeg) (m_noted ((((4 : Int32) * x4) + (2 : Int32))).toNatClampNeg) e8) ok_X11_answerBy wm_1147 ⟨rfl, rfl, Nat.le_of_ble_eq_true rfl, Nat.le_of_ble_eq_true rfl⟩ hG hP 0 9 vq_9 rfl ce_m_0 rfl hl.1 rfl (Nat.le_of_ble_eq_true rfl) ⟨Nat.zero_le _, Nat.zero_le _⟩ dX11_is_61 ?_
      refine lv_aload_n hx hb dX11_is_64 rfl (lv_at hl 0 rfl) ?_
      refine va_get (D := D) (ci := 9) (v := .ref a_m_noted) (C := RX11) (T := TX11) (N := 29) hx hb hts fin_X11 hown hG.1 hP 0 ce_m_0 vq_9 10 (by decide) (hts _ wm_932) (fun _ h9 => h9) rfl dX11_is_65 ?_
      refine lv_iconst (v := (4 : Int32)) hx hb dX11_is_68 (by decide) ?_
      refine lv_iload hx hb dX11_is_69 (lv_at hl 4 rfl) ?_
      refine lv_imul hx hb dX11_is_71 ?_
      refine lv_iconst (v := (3 : Int32)) hx hb dX11_is_72 (by decide) ?_
      refine lv_iadd hx hb dX11_is_73 ?_
      obtain ⟨n9, hf⟩ := nk hf
      refine va_iald (f := m_noted) hx hb hG.1 hP 3 0 ce_m_3 rfl n9 dX11_is_74 ?_
      refine lv_icmp_ne (tgt := 82) hx hb dX11_is_75 (by decide) (fun c10 => ?_) (fun c10 => ?_)
      · have hf := fk c10 hf
        refine lv_iconst (v := (0 : Int32)) hx hb dX11_is_82 (by decide) ?_
        refine lv_istore_n (lv' := [(3, .int (0 : Int32)), (0, .ref a_m), (1, .int x1), (2, .int x2), (4, .int x4)]) hx hb dX11_is_83 rfl hl (by decide) rfl (fun ls hl => ?_)
        refine lv_iinc (v := (x4 + (1 : Int32))) (lv' := [(4, .int (x4 + (1 : Int32))), (3, .int (0 : Int32)), (0, .ref a_m), (1, .int x1), (2, .int x2)]) hx hb dX11_is_84 hl (k := 4) rfl (iinc_eq (by decide)) (by decide) rfl (fun ls hl => ?_)
        refine lv_goto (tgt := 15) hx hb dX11_is_87 (by decide) ?_
        exact hk _ _ (Option.some.inj hf).symm (lv_sub hl [2, 3, 4, 1, 0] rfl)
      · have hf := tk c10 hf
        refine lv_iconst (v := (1 : Int32)) hx hb dX11_is_78 (by decide) ?_
        refine lv_goto (tgt := 83) hx hb dX11_is_79 (by decide) ?_
        refine lv_istore_n (lv' := [(3, .int (1 : Int32)), (0, .ref a_m), (1, .int x1), (2, .int x2), (4, .int x4)]) hx hb dX11_is_83 rfl hl (by decide) rfl (fun ls hl => ?_)
        refine lv_iinc (v := (x4 + (1 : Int32))) (lv' := [(4, .int (x4 + (1 : Int32))), (3, .int (1 : Int32)), (0, .ref a_m), (1, .int x1), (2, .int x2)]) hx hb dX11_is_84 hl (k := 4) rfl (iinc_eq (by decide)) (by decide) rfl (fun ls hl => ?_)
        refine lv_goto (tgt := 15) hx hb dX11_is_87 (by decide) ?_
        exact hk _ _ (Option.some.inj hf).symm (lv_sub hl [2, 3, 4, 1, 0] rfl)
set_option maxHeartbeats 4000000 in
set_option maxRecDepth 100000 in
theorem L_X11_is_15_W {m_words : Int32} {m_kindNow : Int32} {m_secretNow : Int32} {m_guessed : Int32} {m_left : Int32} {m_wrong : Int32} {m_noteMany : Int32} {m_markMany : Int32} {m_typed : Int32} {m_readAt : Int32} {m_readNumber : Int32} {m_undoMany : Int32} {m_lastGuesses : Int32} {m_above : Int64} {m_below : Int64} {m_refused : (Nat → Int32)} {m_codes : (Nat → Int32)} {m_noted : (Nat → Int32)} {m_marked : (Nat → Int32)} {m_masks : (Nat → Int32)} {m_text : (Nat → Int32)} {m_before : (Nat → Int32)} {m_ahead : (Nat → Int32)} {m_aside : (Nat → Int32)} {m_sure : (Nat → Int32)} {m_wrongs : (Nat → Int32)} {m_says : (Nat → Int32)} {m_evening : (Nat → Int32)} {m_images : (Nat → Int32)} {x1 : Int32} {x2 : Int32} (CF : CallFix p m c cX11_is 5 s args wsAll RX11) (hG : Gd D cI cB cT s) {o : Int32} (hx0 : ∀ (ls : Array Slot), lv_has ls 5 [(0, .ref a_m), (1, .int x1), (2, .int x2), (3, .int o)] → W p l e rm_X11_is s m args below meth c s.heap [] 0 0 Q (F0 m 90 ls [])) : ∀ (n : Nat) (x3 : Int32) (x4 : Int32) (ls : Array Slot), va_P D vwCl (wd_m a_m a_m_refused a_m_codes a_m_noted a_m_marked a_m_masks a_m_text a_m_before a_m_ahead a_m_aside a_m_sure a_m_wrongs a_m_says a_m_evening a_m_images cI cB cT m_words m_kindNow m_secretNow m_guessed m_left m_wrong m_noteMany m_markMany m_typed m_readAt m_readNumber m_undoMany m_lastGuesses m_above m_below m_refused m_codes m_noted m_marked m_masks m_text m_before m_ahead m_aside m_sure m_wrongs m_says m_evening m_images) s.heap → lv_has ls 5 [(0, .ref a_m), (1, .int x1), (2, .int x2), (3, .int x3), (4, .int x4)] → lp (fun v => B_X11_is_15 m_words m_secretNow m_noteMany m_noted m_masks x2 v.1 v.2) n (x3, x4) = some o → W p l e rm_X11_is s m args below meth c s.heap [] 0 0 Q (F0 m 15 ls []) := by
  intro n
  induction n with
  | zero =>
    intro x3 x4 ls hP hl hf
    exact (lp_zero hf).elim
  | succ n ih =>
    intro x3 x4 ls hP hl hf
    obtain ⟨z, hz, hf⟩ := lp_succ hf
    refine B_X11_is_15_W CF hG ?_ ?_ hP hl hz
    · intro v' ls ez hl
      rcases hf with ⟨v2, ev, hf⟩ | ev
      · cases Sum.inl.inj (ez.symm.trans ev)
        exact ih v'.1 v'.2 ls hP hl hf
      · exact (lp_lr (ez.symm.trans ev)).elim
    · intro o' ls ez hl
      rcases hf with ⟨v2, ev, hf⟩ | ev
      · exact (lp_lr (ev.symm.trans ez)).elim
      · cases Sum.inr.inj (ez.symm.trans ev)
        exact hx0 ls  hl
set_option maxHeartbeats 4000000 in
set_option maxRecDepth 100000 in
theorem B_X11_is_4_W {m_words : Int32} {m_kindNow : Int32} {m_secretNow : Int32} {m_guessed : Int32} {m_left : Int32} {m_wrong : Int32} {m_noteMany : Int32} {m_markMany : Int32} {m_typed : Int32} {m_readAt : Int32} {m_readNumber : Int32} {m_undoMany : Int32} {m_lastGuesses : Int32} {m_above : Int64} {m_below : Int64} {m_refused : (Nat → Int32)} {m_codes : (Nat → Int32)} {m_noted : (Nat → Int32)} {m_marked : (Nat → Int32)} {m_masks : (Nat → Int32)} {m_text : (Nat → Int32)} {m_before : (Nat → Int32)} {m_ahead : (Nat → Int32)} {m_aside : (Nat → Int32)} {m_sure : (Nat → Int32)} {m_wrongs : (Nat → Int32)} {m_says : (Nat → Int32)} {m_evening : (Nat → Int32)} {m_images : (Nat → Int32)} {x1 : Int32} {x2 : Int32} (CF : CallFix p m c cX11_is 5 s args wsAll RX11) (hG : Gd D cI cB cT s) {z : (Int32 × Int32) ⊕ (Int32)} (hk : ∀ (v' : Int32 × Int32) (ls : Array Slot), z = Sum.inl v' → lv_has ls 5 [(0, .ref a_m), (1, .int (v'.1)), (2, .int (v'.2))] → W p l e rm_X11_is s m args below meth c s.heap [] 0 0 Q (F0 m 4 ls [])) (hx0 : ∀ (o' : Int32) (ls : Array Slot), z = Sum.inr o' → lv_has ls 5 [(1, .int (o'))] → W p l e rm_X11_is s m args below meth c s.heap [] 0 0 Q (F0 m 110 ls [])) {ls : Array Slot} (hP : va_P D vwCl (wd_m a_m a_m_refused a_m_codes a_m_noted a_m_marked a_m_masks a_m_text a_m_before a_m_ahead a_m_aside a_m_sure a_m_wrongs a_m_says a_m_evening a_m_images cI cB cT m_words m_kindNow m_secretNow m_guessed m_left m_wrong m_noteMany m_markMany m_typed m_readAt m_readNumber m_undoMany m_lastGuesses m_above m_below m_refused m_codes m_noted m_marked m_masks m_text m_before m_ahead m_aside m_sure m_wrongs m_says m_evening m_images) s.heap) (hl : lv_has ls 5 [(0, .ref a_m), (1, .int x1), (2, .int x2)]) (hf : B_X11_is_4 m_words m_secretNow m_noteMany m_noted m_masks x1 x2 = some z) : W p l e rm_X11_is s m args below meth c s.heap [] 0 0 Q (F0 m 4 ls []) := by
  obtain ⟨hx, hb, hml, hown, hts⟩ := id CF
  unfold B_X11_is_4 at hf
  refine lv_iload_n hx hb dX11_is_4 rfl (lv_at hl 2 rfl) ?_
  refine lv_bipush (v := (6 : Int32)) hx hb dX11_is_5 (by decide) ?_
  refine lv_icmp_ge (tgt := 110) hx hb dX11_is_7 (by decide) (fun c1 => ?_) (fun c1 => ?_)
  · have hf := tk c1 hf
    exact hx0 _ _ (Option.some.inj hf).symm (lv_sub hl [1] rfl)
  · have hf := fk c1 hf
    refine lv_iconst (v := (1 : Int32)) hx hb dX11_is_10 (by decide) ?_
    refine lv_istore_n (lv' := [(3, .int (1 : Int32)), (0, .ref a_m), (1, .int x1), (2, .int x2)]) hx hb dX11_is_11 rfl hl (by decide) rfl (fun ls hl => ?_)
    refine lv_iconst (v := (0 : Int32)) hx hb dX11_is_12 (by decide) ?_
    refine lv_istore (lv' := [(4, .int (0 : Int32)), (3, .int (1 : Int32)), (0, .ref a_m), (1, .int x1), (2, .int x2)]) hx hb dX11_is_13 hl (by decide) rfl (fun ls hl => ?_)
    obtain ⟨o11, e12, hf⟩ := lp_bind hf
    refine L_X11_is_15_W CF hG ?_ KN _ _ _ hP (lv_sub hl [2, 3, 4, 1, 0] rfl) e12
    intro ls hl
    refine lv_iload_n hx hb dX11_is_90 rfl (lv_at hl 1 rfl) ?_
    refine lv_iload_n hx hb dX11_is_91 rfl (lv_at hl 3 rfl) ?_
    refine lv_if_eq (tgt := 101) hx hb dX11_is_92 (by decide) (fun c13 => ?_) (fun c13 => ?_)
    · have hf := tk c13 hf
      refine lv_iconst (v := (0 : Int32)) hx hb dX11_is_101 (by decide) ?_
      refine lv_ior hx hb dX11_is_102 ?_
      refine lv_istore_n (lv' := [(1, .int (x1 ||| (0 : Int32))), (0, .ref a_m), (2, .int x2), (3, .int o11)]) hx hb dX11_is_103 rfl hl (by decide) rfl (fun ls hl => ?_)
      refine lv_iinc (v := (x2 + (1 : Int32))) (lv' := [(2, .int (x2 + (1 : Int32))), (1, .int (x1 ||| (0 : Int32))), (0, .ref a_m), (3, .int o11)]) hx hb dX11_is_104 hl (k := 2) rfl (iinc_eq (by decide)) (by decide) rfl (fun ls hl => ?_)
      refine lv_goto (tgt := 4) hx hb dX11_is_107 (by decide) ?_
      exact hk _ _ (Option.some.inj hf).symm (lv_sub hl [2, 1, 0] rfl)
    · have hf := fk c13 hf
      refine lv_iconst (v := (1 : Int32)) hx hb dX11_is_95 (by decide) ?_
      refine lv_iload_n hx hb dX11_is_96 rfl (lv_at hl 2 rfl) ?_
      refine lv_ishl hx hb dX11_is_97 ?_
      refine lv_goto (tgt := 102) hx hb dX11_is_98 (by decide) ?_
      refine lv_ior hx hb dX11_is_102 ?_
      refine lv_istore_n (lv' := [(1, .int (x1 ||| ((1 : Int32) <<< (x2 &&& 31)))), (0, .ref a_m), (2, .int x2), (3, .int o11)]) hx hb dX11_is_103 rfl hl (by decide) rfl (fun ls hl => ?_)
      refine lv_iinc (v := (x2 + (1 : Int32))) (lv' := [(2, .int (x2 + (1 : Int32))), (1, .int (x1 ||| ((1 : Int32) <<< (x2 &&& 31)))), (0, .ref a_m), (3, .int o11)]) hx hb dX11_is_104 hl (k := 2) rfl (iinc_eq (by decide)) (by decide) rfl (fun ls hl => ?_)
      refine lv_goto (tgt := 4) hx hb dX11_is_107 (by decide) ?_
      exact hk _ _ (Option.some.inj hf).symm (lv_sub hl [2, 1, 0] rfl)
set_option maxHeartbeats 4000000 in
set_option maxRecDepth 100000 in
theorem L_X11_is_4_W {m_words : Int32} {m_kindNow : Int32} {m_secretNow : Int32} {m_guessed : Int32} {m_left : Int32} {m_wrong : Int32} {m_noteMany : Int32} {m_markMany : Int32} {m_typed : Int32} {m_readAt : Int32} {m_readNumber : Int32} {m_undoMany : Int32} {m_lastGuesses : Int32} {m_above : Int64} {m_below : Int64} {m_refused : (Nat → Int32)} {m_codes : (Nat → Int32)} {m_noted : (Nat → Int32)} {m_marked : (Nat → Int32)} {m_masks : (Nat → Int32)} {m_text : (Nat → Int32)} {m_before : (Nat → Int32)} {m_ahead : (Nat → Int32)} {m_aside : (Nat → Int32)} {m_sure : (Nat → Int32)} {m_wrongs : (Nat → Int32)} {m_says : (Nat → Int32)} {m_evening : (Nat → Int32)} {m_images : (Nat → Int32)} (CF : CallFix p m c cX11_is 5 s args wsAll RX11) (hG : Gd D cI cB cT s) {o : Int32} (hx0 : ∀ (ls : Array Slot), lv_has ls 5 [(1, .int o)] → W p l e rm_X11_is s m args below meth c s.heap [] 0 0 Q (F0 m 110 ls [])) : ∀ (n : Nat) (x1 : Int32) (x2 : Int32) (ls : Array Slot), va_P D vwCl (wd_m a_m a_m_refused a_m_codes a_m_noted a_m_marked a_m_masks a_m_text a_m_before a_m_ahead a_m_aside a_m_sure a_m_wrongs a_m_says a_m_evening a_m_images cI cB cT m_words m_kindNow m_secretNow m_guessed m_left m_wrong m_noteMany m_markMany m_typed m_readAt m_readNumber m_undoMany m_lastGuesses m_above m_below m_refused m_codes m_noted m_marked m_masks m_text m_before m_ahead m_aside m_sure m_wrongs m_says m_evening m_images) s.heap → lv_has ls 5 [(0, .ref a_m), (1, .int x1), (2, .int x2)] → lp (fun v => B_X11_is_4 m_words m_secretNow m_noteMany m_noted m_masks v.1 v.2) n (x1, x2) = some o → W p l e rm_X11_is s m args below meth c s.heap [] 0 0 Q (F0 m 4 ls []) := by
  intro n
  induction n with
  | zero =>
    intro x1 x2 ls hP hl hf
    exact (lp_zero hf).elim
  | succ n ih =>
    intro x1 x2 ls hP hl hf
    obtain ⟨z, hz, hf⟩ := lp_succ hf
    refine B_X11_is_4_W CF hG ?_ ?_ hP hl hz
    · intro v' ls ez hl
      rcases hf with ⟨v2, ev, hf⟩ | ev
      · cases Sum.inl.inj (ez.symm.trans ev)
        exact ih v'.1 v'.2 ls hP hl hf
      · exact (lp_lr (ez.symm.trans ev)).elim
    · intro o' ls ez hl
      rcases hf with ⟨v2, ev, hf⟩ | ev
      · exact (lp_lr (ev.symm.trans ez)).elim
      · cases Sum.inr.inj (ez.symm.trans ev)
        exact hx0 ls  hl
set_option maxHeartbeats 4000000 in
set_option maxRecDepth 100000 in
theorem c_X11_is (l : Launch) (D : va_G) (cI cB cT : ClassId) (a_m a_m_refused a_m_codes a_m_noted a_m_marked a_m_masks a_m_text a_m_before a_m_ahead a_m_aside a_m_sure a_m_wrongs a_m_says a_m_evening a_m_images : Nat) (m_words : Int32) (m_kindNow : Int32) (m_secretNow : Int32) (m_guessed : Int32) (m_left : Int32) (m_wrong : Int32) (m_noteMany : Int32) (m_markMany : Int32) (m_typed : Int32) (m_readAt : Int32) (m_readNumber : Int32) (m_undoMany : Int32) (m_lastGuesses : Int32) (m_above : Int64) (m_below : Int64) (m_refused : (Nat → Int32)) (m_codes : (Nat → Int32)) (m_noted : (Nat → Int32)) (m_marked : (Nat → Int32)) (m_masks : (Nat → Int32)) (m_text : (Nat → Int32)) (m_before : (Nat → Int32)) (m_ahead : (Nat → Int32)) (m_aside : (Nat → Int32)) (m_sure : (Nat → Int32)) (m_wrongs : (Nat → Int32)) (m_says : (Nat → Int32)) (m_evening : (Nat → Int32)) (m_images : (Nat → Int32)) {z : Int32} (hf : f_X11_is m_words m_secretNow m_noteMany m_noted m_masks = some z) :
    Met l yX11_is (Cond.code yX11_is cX11_is 5 (some .int) :: wsAll) rm_X11_is (Pro [.ref a_m] D cI cB cT (wd_m a_m a_m_refused a_m_codes a_m_noted a_m_marked a_m_masks a_m_text a_m_before a_m_ahead a_m_aside a_m_sure a_m_wrongs a_m_says a_m_evening a_m_images cI cB cT m_words m_kindNow m_secretNow m_guessed m_left m_wrong m_noteMany m_markMany m_typed m_readAt m_readNumber m_undoMany m_lastGuesses m_above m_below m_refused m_codes m_noted m_marked m_masks m_text m_before m_ahead m_aside m_sure m_wrongs m_says m_evening m_images)) (Qr (some (.int z))) 0 0 (fun _ => False) := by
  refine ro_intro RX11 (by decide +kernel) rfl (Nat.le_of_ble_eq_true rfl) ?_
  intro p e s m below meth c ls CF hr hlk hG hP hl
  have hl : lv_has ls 5 [(0, .ref a_m)] := hl
  obtain ⟨hx, hb, hml, hown, hts⟩ := id CF
  unfold f_X11_is at hf
  refine lv_iconst (v := (0 : Int32)) hx hb dX11_is_0 (by decide) ?_
  refine lv_istore_n (lv' := [(1, .int (0 : Int32)), (0, .ref a_m)]) hx hb dX11_is_1 rfl hl (by decide) rfl (fun ls hl => ?_)
  refine lv_iconst (v := (0 : Int32)) hx hb dX11_is_2 (by decide) ?_
  refine lv_istore_n (lv' := [(2, .int (0 : Int32)), (1, .int (0 : Int32)), (0, .ref a_m)]) hx hb dX11_is_3 rfl hl (by decide) rfl (fun ls hl => ?_)
  obtain ⟨o14, e15, hf⟩ := lp_bind hf
  refine L_X11_is_4_W CF hG ?_ KN _ _ _ hP (lv_sub hl [2, 1, 0] rfl) e15
  intro ls hl
  refine lv_iload_n hx hb dX11_is_110 rfl (lv_at hl 0 rfl) ?_
  obtain rfl := Option.some.inj hf
  exact ro_iret CF hr hlk dX11_is_111
end M_X11_is
section M_X11_kinds
variable {p : Program} {l : Launch} {e : Env} {s : State} {m : MethodId} {args : Array Value} {below : List Frame} {meth : Method} {c : Code} {Q : State → Prop} {A : Nat → Prop} {D : va_G} {cI cB cT : ClassId}
variable {a_m a_m_refused a_m_codes a_m_noted a_m_marked a_m_masks a_m_text a_m_before a_m_ahead a_m_aside a_m_sure a_m_wrongs a_m_says a_m_evening a_m_images : Nat}
def rm_X11_kinds : Room := { frames := 6, cells := 0, slots := 0, locals := 142 }
def B_X11_kinds_15 (m_words : Int32) (m_markMany : Int32) (m_codes : (Nat → Int32)) (m_marked : (Nat → Int32)) (m_masks : (Nat → Int32)) (x2 : Int32) (x3 : Int32) (x4 : Int32) : Option ((Int32 × Int32) ⊕ (Int32)) := (if m_markMany ≤ x4 then some (Sum.inr x3) else (if x3 = 0 then some (Sum.inl ((0 : Int32), (x4 + (1 : Int32)))) else (if oob ((3 : Int32) * x4) 18 then none else (if oob (((3 : Int32) * x4) + (1 : Int32)) 18 then none else ((f_X11_nextBy m_words m_codes m_masks x2 (m_marked (((3 : Int32) * x4)).toNatClampNeg) (m_marked ((((3 : Int32) * x4) + (1 : Int32))).toNatClampNeg)).bind fun o6 => (if oob (((3 : Int32) * x4) + (2 : Int32)) 18 then none else (if o6 = (m_marked ((((3 : Int32) * x4) + (2 : Int32))).toNatClampNeg) then some (Sum.inl ((1 : Int32), (x4 + (1 : Int32)))) else some (Sum.inl ((0 : Int32), (x4 + (1 : Int32)))))))))))
def B_X11_kinds_4 (m_words : Int32) (m_markMany : Int32) (m_codes : (Nat → Int32)) (m_marked : (Nat → Int32)) (m_masks : (Nat → Int32)) (x1 : Int32) (x2 : Int32) : Option ((Int32 × Int32) ⊕ (Int32)) := (if (6 : Int32) ≤ x2 then some (Sum.inr x1) else ((lp (fun v => B_X11_kinds_15 m_words m_markMany m_codes m_marked m_masks x2 v.1 v.2) KN ((1 : Int32), (0 : Int32))).bind fun o10 => (if o10 = 0 then some (Sum.inl ((x1 ||| (0 : Int32)), (x2 + (1 : Int32)))) else some (Sum.inl ((x1 ||| ((1 : Int32) <<< (x2 &&& 31))), (x2 + (1 : Int32)))))))
def f_X11_kinds (m_words : Int32) (m_markMany : Int32) (m_codes : (Nat → Int32)) (m_marked : (Nat → Int32)) (m_masks : (Nat → Int32)) : Option (Int32) := ((lp (fun v => B_X11_kinds_4 m_words m_markMany m_codes m_marked m_masks v.1 v.2) KN ((0 : Int32), (0 : Int32))).bind fun o13 => some o13)
set_option maxHeartbeats 4000000 in
set_option maxRecDepth 100000 in
theorem B_X11_kinds_15_W {m_words : Int32} {m_kindNow : Int32} {m_secretNow : Int32} {m_guessed : Int32} {m_left : Int32} {m_wrong : Int32} {m_noteMany : Int32} {m_markMany : Int32} {m_typed : Int32} {m_readAt : Int32} {m_readNumber : Int32} {m_undoMany : Int32} {m_lastGuesses : Int32} {m_above : Int64} {m_below : Int64} {m_refused : (Nat → Int32)} {m_codes : (Nat → Int32)} {m_noted : (Nat → Int32)} {m_marked : (Nat → Int32)} {m_masks : (Nat → Int32)} {m_text : (Nat → Int32)} {m_before : (Nat → Int32)} {m_ahead : (Nat → Int32)} {m_aside : (Nat → Int32)} {m_sure : (Nat → Int32)} {m_wrongs : (Nat → Int32)} {m_says : (Nat → Int32)} {m_evening : (Nat → Int32)} {m_images : (Nat → Int32)} {x1 : Int32} {x2 : Int32} {x3 : Int32} {x4 : Int32} (CF : CallFix p m c cX11_kinds 5 s args wsAll RX11) (hG : Gd D cI cB cT s) {z : (Int32 × Int32) ⊕ (Int32)} (hk : ∀ (v' : Int32 × Int32) (ls : Array Slot), z = Sum.inl v' → lv_has ls 5 [(0, .ref a_m), (1, .int x1), (2, .int x2), (3, .int (v'.1)), (4, .int (v'.2))] → W p l e rm_X11_kinds s m args below meth c s.heap [] 0 0 Q (F0 m 15 ls [])) (hx0 : ∀ (o' : Int32) (ls : Array Slot), z = Sum.inr o' → lv_has ls 5 [(0, .ref a_m), (1, .int x1), (2, .int x2), (3, .int (o'))] → W p l e rm_X11_kinds s m args below meth c s.heap [] 0 0 Q (F0 m 79 ls [])) {ls : Array Slot} (hP : va_P D vwCl (wd_m a_m a_m_refused a_m_codes a_m_noted a_m_marked a_m_masks a_m_text a_m_before a_m_ahead a_m_aside a_m_sure a_m_wrongs a_m_says a_m_evening a_m_images cI cB cT m_words m_kindNow m_secretNow m_guessed m_left m_wrong m_noteMany m_markMany m_typed m_readAt m_readNumber m_undoMany m_lastGuesses m_above m_below m_refused m_codes m_noted m_marked m_masks m_text m_before m_ahead m_aside m_sure m_wrongs m_says m_evening m_images) s.heap) (hl : lv_has ls 5 [(0, .ref a_m), (1, .int x1), (2, .int x2), (3, .int x3), (4, .int x4)]) (hf : B_X11_kinds_15 m_words m_markMany m_codes m_marked m_masks x2 x3 x4 = some z) : W p l e rm_X11_kinds s m args below meth c s.heap [] 0 0 Q (F0 m 15 ls []) := by
  obtain ⟨hx, hb, hml, hown, hts⟩ := id CF
  unfold B_X11_kinds_15 at hf
  refine lv_iload hx hb dX11_kinds_15 (lv_at hl 4 rfl) ?_
  refine lv_aload_n hx hb dX11_kinds_17 rfl (lv_at hl 0 rfl) ?_
  refine va_get (D := D) (ci := 9) (v := .int m_markMany) (C := RX11) (T := TX11) (N := 29) hx hb hts fin_X11 hown hG.1 hP 0 ce_m_0 vq_9 8 (by decide) (hts _ wm_930) (fun _ h9 => h9) rfl dX11_kinds_18 ?_
  refine lv_icmp_ge (tgt := 79) hx hb dX11_kinds_21 (by decide) (fun c2 => ?_) (fun c2 => ?_)
  · have hf := tk c2 hf
    exact hx0 _ _ (Option.some.inj hf).symm (lv_sub hl [0, 1, 2, 3] rfl)
  · have hf := fk c2 hf
    refine lv_iload_n hx hb dX11_kinds_24 rfl (lv_at hl 3 rfl) ?_
    refine lv_if_eq (tgt := 71) hx hb dX11_kinds_25 (by decide) (fun c3 => ?_) (fun c3 => ?_)
    · have hf := tk c3 hf
      refine lv_iconst (v := (0 : Int32)) hx hb dX11_kinds_71 (by decide) ?_
      refine lv_istore_n (lv' := [(3, .int (0 : Int32)), (0, .ref a_m), (1, .int x1), (2, .int x2), (4, .int x4)]) hx hb dX11_kinds_72 rfl hl (by decide) rfl (fun ls hl => ?_)
      refine lv_iinc (v := (x4 + (1 : Int32))) (lv' := [(4, .int (x4 + (1 : Int32))), (3, .int (0 : Int32)), (0, .ref a_m), (1, .int x1), (2, .int x2)]) hx hb dX11_kinds_73 hl (k := 4) rfl (iinc_eq (by decide)) (by decide) rfl (fun ls hl => ?_)
      refine lv_goto (tgt := 15) hx hb dX11_kinds_76 (by decide) ?_
      exact hk _ _ (Option.some.inj hf).symm (lv_sub hl [2, 3, 4, 1, 0] rfl)
    · have hf := fk c3 hf
      refine lv_aload_n hx hb dX11_kinds_28 rfl (lv_at hl 0 rfl) ?_
      refine lv_iload_n hx hb dX11_kinds_29 rfl (lv_at hl 2 rfl) ?_
      refine lv_aload_n hx hb dX11_kinds_30 rfl (lv_at hl 0 rfl) ?_
      refine va_get (D := D) (ci := 9) (v := .ref a_m_marked) (C := RX11) (T := TX11) (N := 29) hx hb hts fin_X11 hown hG.1 hP 0 ce_m_0 vq_9 11 (by decide) (hts _ wm_933) (fun _ h9 => h9) rfl dX11_kinds_31 ?_
      refine lv_iconst (v := (3 : Int32)) hx hb dX11_kinds_34 (by decide) ?_
      refine lv_iload hx hb dX11_kinds_35 (lv_at hl 4 rfl) ?_
      refine lv_imul hx hb dX11_kinds_37 ?_
      obtain ⟨n4, hf⟩ := nk hf
      refine va_iald (f := m_marked) hx hb hG.1 hP 4 0 ce_m_4 rfl n4 dX11_kinds_38 ?_
      refine lv_aload_n hx hb dX11_kinds_39 rfl (lv_at hl 0 rfl) ?_
      refine va_get (D := D) (ci := 9) (v := .ref a_m_marked) (C := RX11) (T := TX11) (N := 29) hx hb hts fin_X11 hown hG.1 hP 0 ce_m_0 vq_9 11 (by decide) (hts _ wm_933) (fun _ h9 => h9) rfl dX11_kinds_40 ?_
      refine lv_iconst (v := (3 : Int32)) hx hb dX11_kinds_43 (by decide) ?_
      refine lv_iload hx hb dX11_kinds_44 (lv_at hl 4 rfl) ?_
      refine lv_imul hx hb dX11_kinds_46 ?_
      refine lv_iconst (v := (1 : Int32)) hx hb dX11_kinds_47 (by decide) ?_
      refine lv_iadd hx hb dX11_kinds_48 ?_
      obtain ⟨n5, hf⟩ := nk hf
      refine va_iald (f := m_marked) hx hb hG.1 hP 4 0 ce_m_4 rfl n5 dX11_kinds_49 ?_
      obtain ⟨o6, e7, hf⟩ := lp_bind hf
      refine ro_Vi (x := o6) (As := [.int x2, .int (m_marked (((3 : Int32) * x4)).toNatClampNeg), .int (m_marked ((((3 : Int32) * x4) + (1 : Int32))).toNatClampNeg)]) (rest := []) CF (c_X11_nextBy l D cI cB cT a_m a_m_refused a_m_codes a_m_noted a_m_marked a_m_masks a_m_text a_m_before a_m_ahead a_m_aside a_m_sure a_m_wrongs a_m_says a_m_evening a_m_images m_words m_kindNow m_secretNow m_guessed m_left m_wrong m_noteMany m_markMany m_typed m_readAt m_readNumber m_undoMany m_lastGuesses m_above m_below m_refused m_codes m_noted m_marked m_masks m_text m_before m_ahead m_aside m_sure m_wrongs m_says m_evening m_images x2 (m_marked (((3 : Int32) * x4)).toNatClampNeg) (m_marked ((((3 : Int32) * x4) + (1 : Int32))).toNatClampNeg) e7) ok_X11_nextBy wm_1266 ⟨rfl, rfl, Nat.le_of_ble_eq_true rfl, Nat.le_of_ble_eq_true rfl⟩ hG hP 0 9 vq_9 rfl ce_m_0 rfl hl.1 rfl (Nat.le_of_ble_eq_true rfl) ⟨Nat.zero_le _, Nat.zero_le _⟩ dX11_kinds_50 ?_
      refine lv_aload_n hx hb dX11_kinds_53 rfl (lv_at hl 0 rfl) ?_
      refine va_get (D := D) (ci := 9) (v := .ref a_m_marked) (C := RX11) (T := TX11) (N := 29) hx hb hts fin_X11 hown hG.1 hP 0 ce_m_0 vq_9 11 (by decide) (hts _ wm_933) (fun _ h9 => h9) rfl dX11_kinds_54 ?_
      refine lv_iconst (v := (3 : Int32)) hx hb dX11_kinds_57 (by decide) ?_
      refine lv_iload hx hb dX11_kinds_58 (lv_at hl 4 rfl) ?_
      refine lv_imul hx hb dX11_kinds_60 ?_
      refine lv_iconst (v := (2 : Int32)) hx hb dX11_kinds_61 (by decide) ?_
      refine lv_iadd hx hb dX11_kinds_62 ?_
      obtain ⟨n8, hf⟩ := nk hf
      refine va_iald (f := m_marked) hx hb hG.1 hP 4 0 ce_m_4 rfl n8 dX11_kinds_63 ?_
      refine lv_icmp_ne (tgt := 71) hx hb dX11_kinds_64 (by decide) (fun c9 => ?_) (fun c9 => ?_)
      · have hf := fk c9 hf
        refine lv_iconst (v := (0 : Int32)) hx hb dX11_kinds_71 (by decide) ?_
        refine lv_istore_n (lv' := [(3, .int (0 : Int32)), (0, .ref a_m), (1, .int x1), (2, .int x2), (4, .int x4)]) hx hb dX11_kinds_72 rfl hl (by decide) rfl (fun ls hl => ?_)
        refine lv_iinc (v := (x4 + (1 : Int32))) (lv' := [(4, .int (x4 + (1 : Int32))), (3, .int (0 : Int32)), (0, .ref a_m), (1, .int x1), (2, .int x2)]) hx hb dX11_kinds_73 hl (k := 4) rfl (iinc_eq (by decide)) (by decide) rfl (fun ls hl => ?_)
        refine lv_goto (tgt := 15) hx hb dX11_kinds_76 (by decide) ?_
        exact hk _ _ (Option.some.inj hf).symm (lv_sub hl [2, 3, 4, 1, 0] rfl)
      · have hf := tk c9 hf
        refine lv_iconst (v := (1 : Int32)) hx hb dX11_kinds_67 (by decide) ?_
        refine lv_goto (tgt := 72) hx hb dX11_kinds_68 (by decide) ?_
        refine lv_istore_n (lv' := [(3, .int (1 : Int32)), (0, .ref a_m), (1, .int x1), (2, .int x2), (4, .int x4)]) hx hb dX11_kinds_72 rfl hl (by decide) rfl (fun ls hl => ?_)
        refine lv_iinc (v := (x4 + (1 : Int32))) (lv' := [(4, .int (x4 + (1 : Int32))), (3, .int (1 : Int32)), (0, .ref a_m), (1, .int x1), (2, .int x2)]) hx hb dX11_kinds_73 hl (k := 4) rfl (iinc_eq (by decide)) (by decide) rfl (fun ls hl => ?_)
        refine lv_goto (tgt := 15) hx hb dX11_kinds_76 (by decide) ?_
        exact hk _ _ (Option.some.inj hf).symm (lv_sub hl [2, 3, 4, 1, 0] rfl)
set_option maxHeartbeats 4000000 in
set_option maxRecDepth 100000 in
theorem L_X11_kinds_15_W {m_words : Int32} {m_kindNow : Int32} {m_secretNow : Int32} {m_guessed : Int32} {m_left : Int32} {m_wrong : Int32} {m_noteMany : Int32} {m_markMany : Int32} {m_typed : Int32} {m_readAt : Int32} {m_readNumber : Int32} {m_undoMany : Int32} {m_lastGuesses : Int32} {m_above : Int64} {m_below : Int64} {m_refused : (Nat → Int32)} {m_codes : (Nat → Int32)} {m_noted : (Nat → Int32)} {m_marked : (Nat → Int32)} {m_masks : (Nat → Int32)} {m_text : (Nat → Int32)} {m_before : (Nat → Int32)} {m_ahead : (Nat → Int32)} {m_aside : (Nat → Int32)} {m_sure : (Nat → Int32)} {m_wrongs : (Nat → Int32)} {m_says : (Nat → Int32)} {m_evening : (Nat → Int32)} {m_images : (Nat → Int32)} {x1 : Int32} {x2 : Int32} (CF : CallFix p m c cX11_kinds 5 s args wsAll RX11) (hG : Gd D cI cB cT s) {o : Int32} (hx0 : ∀ (ls : Array Slot), lv_has ls 5 [(0, .ref a_m), (1, .int x1), (2, .int x2), (3, .int o)] → W p l e rm_X11_kinds s m args below meth c s.heap [] 0 0 Q (F0 m 79 ls [])) : ∀ (n : Nat) (x3 : Int32) (x4 : Int32) (ls : Array Slot), va_P D vwCl (wd_m a_m a_m_refused a_m_codes a_m_noted a_m_marked a_m_masks a_m_text a_m_before a_m_ahead a_m_aside a_m_sure a_m_wrongs a_m_says a_m_evening a_m_images cI cB cT m_words m_kindNow m_secretNow m_guessed m_left m_wrong m_noteMany m_markMany m_typed m_readAt m_readNumber m_undoMany m_lastGuesses m_above m_below m_refused m_codes m_noted m_marked m_masks m_text m_before m_ahead m_aside m_sure m_wrongs m_says m_evening m_images) s.heap → lv_has ls 5 [(0, .ref a_m), (1, .int x1), (2, .int x2), (3, .int x3), (4, .int x4)] → lp (fun v => B_X11_kinds_15 m_words m_markMany m_codes m_marked m_masks x2 v.1 v.2) n (x3, x4) = some o → W p l e rm_X11_kinds s m args below meth c s.heap [] 0 0 Q (F0 m 15 ls []) := by
  intro n
  induction n with
  | zero =>
    intro x3 x4 ls hP hl hf
    exact (lp_zero hf).elim
  | succ n ih =>
    intro x3 x4 ls hP hl hf
    obtain ⟨z, hz, hf⟩ := lp_succ hf
    refine B_X11_kinds_15_W CF hG ?_ ?_ hP hl hz
    · intro v' ls ez hl
      rcases hf with ⟨v2, ev, hf⟩ | ev
      · cases Sum.inl.inj (ez.symm.trans ev)
        exact ih v'.1 v'.2 ls hP hl hf
      · exact (lp_lr (ez.symm.trans ev)).elim
    · intro o' ls ez hl
      rcases hf with ⟨v2, ev, hf⟩ | ev
      · exact (lp_lr (ev.symm.trans ez)).elim
      · cases Sum.inr.inj (ez.symm.trans ev)
        exact hx0 ls  hl
set_option maxHeartbeats 4000000 in
set_option maxRecDepth 100000 in
theorem B_X11_kinds_4_W {m_words : Int32} {m_kindNow : Int32} {m_secretNow : Int32} {m_guessed : Int32} {m_left : Int32} {m_wrong : Int32} {m_noteMany : Int32} {m_markMany : Int32} {m_typed : Int32} {m_readAt : Int32} {m_readNumber : Int32} {m_undoMany : Int32} {m_lastGuesses : Int32} {m_above : Int64} {m_below : Int64} {m_refused : (Nat → Int32)} {m_codes : (Nat → Int32)} {m_noted : (Nat → Int32)} {m_marked : (Nat → Int32)} {m_masks : (Nat → Int32)} {m_text : (Nat → Int32)} {m_before : (Nat → Int32)} {m_ahead : (Nat → Int32)} {m_aside : (Nat → Int32)} {m_sure : (Nat → Int32)} {m_wrongs : (Nat → Int32)} {m_says : (Nat → Int32)} {m_evening : (Nat → Int32)} {m_images : (Nat → Int32)} {x1 : Int32} {x2 : Int32} (CF : CallFix p m c cX11_kinds 5 s args wsAll RX11) (hG : Gd D cI cB cT s) {z : (Int32 × Int32) ⊕ (Int32)} (hk : ∀ (v' : Int32 × Int32) (ls : Array Slot), z = Sum.inl v' → lv_has ls 5 [(0, .ref a_m), (1, .int (v'.1)), (2, .int (v'.2))] → W p l e rm_X11_kinds s m args below meth c s.heap [] 0 0 Q (F0 m 4 ls [])) (hx0 : ∀ (o' : Int32) (ls : Array Slot), z = Sum.inr o' → lv_has ls 5 [(1, .int (o'))] → W p l e rm_X11_kinds s m args below meth c s.heap [] 0 0 Q (F0 m 99 ls [])) {ls : Array Slot} (hP : va_P D vwCl (wd_m a_m a_m_refused a_m_codes a_m_noted a_m_marked a_m_masks a_m_text a_m_before a_m_ahead a_m_aside a_m_sure a_m_wrongs a_m_says a_m_evening a_m_images cI cB cT m_words m_kindNow m_secretNow m_guessed m_left m_wrong m_noteMany m_markMany m_typed m_readAt m_readNumber m_undoMany m_lastGuesses m_above m_below m_refused m_codes m_noted m_marked m_masks m_text m_before m_ahead m_aside m_sure m_wrongs m_says m_evening m_images) s.heap) (hl : lv_has ls 5 [(0, .ref a_m), (1, .int x1), (2, .int x2)]) (hf : B_X11_kinds_4 m_words m_markMany m_codes m_marked m_masks x1 x2 = some z) : W p l e rm_X11_kinds s m args below meth c s.heap [] 0 0 Q (F0 m 4 ls []) := by
  obtain ⟨hx, hb, hml, hown, hts⟩ := id CF
  unfold B_X11_kinds_4 at hf
  refine lv_iload_n hx hb dX11_kinds_4 rfl (lv_at hl 2 rfl) ?_
  refine lv_bipush (v := (6 : Int32)) hx hb dX11_kinds_5 (by decide) ?_
  refine lv_icmp_ge (tgt := 99) hx hb dX11_kinds_7 (by decide) (fun c1 => ?_) (fun c1 => ?_)
  · have hf := tk c1 hf
    exact hx0 _ _ (Option.some.inj hf).symm (lv_sub hl [1] rfl)
  · have hf := fk c1 hf
    refine lv_iconst (v := (1 : Int32)) hx hb dX11_kinds_10 (by decide) ?_
    refine lv_istore_n (lv' := [(3, .int (1 : Int32)), (0, .ref a_m), (1, .int x1), (2, .int x2)]) hx hb dX11_kinds_11 rfl hl (by decide) rfl (fun ls hl => ?_)
    refine lv_iconst (v := (0 : Int32)) hx hb dX11_kinds_12 (by decide) ?_
    refine lv_istore (lv' := [(4, .int (0 : Int32)), (3, .int (1 : Int32)), (0, .ref a_m), (1, .int x1), (2, .int x2)]) hx hb dX11_kinds_13 hl (by decide) rfl (fun ls hl => ?_)
    obtain ⟨o10, e11, hf⟩ := lp_bind hf
    refine L_X11_kinds_15_W CF hG ?_ KN _ _ _ hP (lv_sub hl [2, 3, 4, 1, 0] rfl) e11
    intro ls hl
    refine lv_iload_n hx hb dX11_kinds_79 rfl (lv_at hl 1 rfl) ?_
    refine lv_iload_n hx hb dX11_kinds_80 rfl (lv_at hl 3 rfl) ?_
    refine lv_if_eq (tgt := 90) hx hb dX11_kinds_81 (by decide) (fun c12 => ?_) (fun c12 => ?_)
    · have hf := tk c12 hf
      refine lv_iconst (v := (0 : Int32)) hx hb dX11_kinds_90 (by decide) ?_
      refine lv_ior hx hb dX11_kinds_91 ?_
      refine lv_istore_n (lv' := [(1, .int (x1 ||| (0 : Int32))), (0, .ref a_m), (2, .int x2), (3, .int o10)]) hx hb dX11_kinds_92 rfl hl (by decide) rfl (fun ls hl => ?_)
      refine lv_iinc (v := (x2 + (1 : Int32))) (lv' := [(2, .int (x2 + (1 : Int32))), (1, .int (x1 ||| (0 : Int32))), (0, .ref a_m), (3, .int o10)]) hx hb dX11_kinds_93 hl (k := 2) rfl (iinc_eq (by decide)) (by decide) rfl (fun ls hl => ?_)
      refine lv_goto (tgt := 4) hx hb dX11_kinds_96 (by decide) ?_
      exact hk _ _ (Option.some.inj hf).symm (lv_sub hl [2, 1, 0] rfl)
    · have hf := fk c12 hf
      refine lv_iconst (v := (1 : Int32)) hx hb dX11_kinds_84 (by decide) ?_
      refine lv_iload_n hx hb dX11_kinds_85 rfl (lv_at hl 2 rfl) ?_
      refine lv_ishl hx hb dX11_kinds_86 ?_
      refine lv_goto (tgt := 91) hx hb dX11_kinds_87 (by decide) ?_
      refine lv_ior hx hb dX11_kinds_91 ?_
      refine lv_istore_n (lv' := [(1, .int (x1 ||| ((1 : Int32) <<< (x2 &&& 31)))), (0, .ref a_m), (2, .int x2), (3, .int o10)]) hx hb dX11_kinds_92 rfl hl (by decide) rfl (fun ls hl => ?_)
      refine lv_iinc (v := (x2 + (1 : Int32))) (lv' := [(2, .int (x2 + (1 : Int32))), (1, .int (x1 ||| ((1 : Int32) <<< (x2 &&& 31)))), (0, .ref a_m), (3, .int o10)]) hx hb dX11_kinds_93 hl (k := 2) rfl (iinc_eq (by decide)) (by decide) rfl (fun ls hl => ?_)
      refine lv_goto (tgt := 4) hx hb dX11_kinds_96 (by decide) ?_
      exact hk _ _ (Option.some.inj hf).symm (lv_sub hl [2, 1, 0] rfl)
set_option maxHeartbeats 4000000 in
set_option maxRecDepth 100000 in
theorem L_X11_kinds_4_W {m_words : Int32} {m_kindNow : Int32} {m_secretNow : Int32} {m_guessed : Int32} {m_left : Int32} {m_wrong : Int32} {m_noteMany : Int32} {m_markMany : Int32} {m_typed : Int32} {m_readAt : Int32} {m_readNumber : Int32} {m_undoMany : Int32} {m_lastGuesses : Int32} {m_above : Int64} {m_below : Int64} {m_refused : (Nat → Int32)} {m_codes : (Nat → Int32)} {m_noted : (Nat → Int32)} {m_marked : (Nat → Int32)} {m_masks : (Nat → Int32)} {m_text : (Nat → Int32)} {m_before : (Nat → Int32)} {m_ahead : (Nat → Int32)} {m_aside : (Nat → Int32)} {m_sure : (Nat → Int32)} {m_wrongs : (Nat → Int32)} {m_says : (Nat → Int32)} {m_evening : (Nat → Int32)} {m_images : (Nat → Int32)} (CF : CallFix p m c cX11_kinds 5 s args wsAll RX11) (hG : Gd D cI cB cT s) {o : Int32} (hx0 : ∀ (ls : Array Slot), lv_has ls 5 [(1, .int o)] → W p l e rm_X11_kinds s m args below meth c s.heap [] 0 0 Q (F0 m 99 ls [])) : ∀ (n : Nat) (x1 : Int32) (x2 : Int32) (ls : Array Slot), va_P D vwCl (wd_m a_m a_m_refused a_m_codes a_m_noted a_m_marked a_m_masks a_m_text a_m_before a_m_ahead a_m_aside a_m_sure a_m_wrongs a_m_says a_m_evening a_m_images cI cB cT m_words m_kindNow m_secretNow m_guessed m_left m_wrong m_noteMany m_markMany m_typed m_readAt m_readNumber m_undoMany m_lastGuesses m_above m_below m_refused m_codes m_noted m_marked m_masks m_text m_before m_ahead m_aside m_sure m_wrongs m_says m_evening m_images) s.heap → lv_has ls 5 [(0, .ref a_m), (1, .int x1), (2, .int x2)] → lp (fun v => B_X11_kinds_4 m_words m_markMany m_codes m_marked m_masks v.1 v.2) n (x1, x2) = some o → W p l e rm_X11_kinds s m args below meth c s.heap [] 0 0 Q (F0 m 4 ls []) := by
  intro n
  induction n with
  | zero =>
    intro x1 x2 ls hP hl hf
    exact (lp_zero hf).elim
  | succ n ih =>
    intro x1 x2 ls hP hl hf
    obtain ⟨z, hz, hf⟩ := lp_succ hf
    refine B_X11_kinds_4_W CF hG ?_ ?_ hP hl hz
    · intro v' ls ez hl
      rcases hf with ⟨v2, ev, hf⟩ | ev
      · cases Sum.inl.inj (ez.symm.trans ev)
        exact ih v'.1 v'.2 ls hP hl hf
      · exact (lp_lr (ez.symm.trans ev)).elim
    · intro o' ls ez hl
      rcases hf with ⟨v2, ev, hf⟩ | ev
      · exact (lp_lr (ev.symm.trans ez)).elim
      · cases Sum.inr.inj (ez.symm.trans ev)
        exact hx0 ls  hl
set_option maxHeartbeats 4000000 in
set_option maxRecDepth 100000 in
theorem c_X11_kinds (l : Launch) (D : va_G) (cI cB cT : ClassId) (a_m a_m_refused a_m_codes a_m_noted a_m_marked a_m_masks a_m_text a_m_before a_m_ahead a_m_aside a_m_sure a_m_wrongs a_m_says a_m_evening a_m_images : Nat) (m_words : Int32) (m_kindNow : Int32) (m_secretNow : Int32) (m_guessed : Int32) (m_left : Int32) (m_wrong : Int32) (m_noteMany : Int32) (m_markMany : Int32) (m_typed : Int32) (m_readAt : Int32) (m_readNumber : Int32) (m_undoMany : Int32) (m_lastGuesses : Int32) (m_above : Int64) (m_below : Int64) (m_refused : (Nat → Int32)) (m_codes : (Nat → Int32)) (m_noted : (Nat → Int32)) (m_marked : (Nat → Int32)) (m_masks : (Nat → Int32)) (m_text : (Nat → Int32)) (m_before : (Nat → Int32)) (m_ahead : (Nat → Int32)) (m_aside : (Nat → Int32)) (m_sure : (Nat → Int32)) (m_wrongs : (Nat → Int32)) (m_says : (Nat → Int32)) (m_evening : (Nat → Int32)) (m_images : (Nat → Int32)) {z : Int32} (hf : f_X11_kinds m_words m_markMany m_codes m_marked m_masks = some z) :
    Met l yX11_kinds (Cond.code yX11_kinds cX11_kinds 5 (some .int) :: wsAll) rm_X11_kinds (Pro [.ref a_m] D cI cB cT (wd_m a_m a_m_refused a_m_codes a_m_noted a_m_marked a_m_masks a_m_text a_m_before a_m_ahead a_m_aside a_m_sure a_m_wrongs a_m_says a_m_evening a_m_images cI cB cT m_words m_kindNow m_secretNow m_guessed m_left m_wrong m_noteMany m_markMany m_typed m_readAt m_readNumber m_undoMany m_lastGuesses m_above m_below m_refused m_codes m_noted m_marked m_masks m_text m_before m_ahead m_aside m_sure m_wrongs m_says m_evening m_images)) (Qr (some (.int z))) 0 0 (fun _ => False) := by
  refine ro_intro RX11 (by decide +kernel) rfl (Nat.le_of_ble_eq_true rfl) ?_
  intro p e s m below meth c ls CF hr hlk hG hP hl
  have hl : lv_has ls 5 [(0, .ref a_m)] := hl
  obtain ⟨hx, hb, hml, hown, hts⟩ := id CF
  unfold f_X11_kinds at hf
  refine lv_iconst (v := (0 : Int32)) hx hb dX11_kinds_0 (by decide) ?_
  refine lv_istore_n (lv' := [(1, .int (0 : Int32)), (0, .ref a_m)]) hx hb dX11_kinds_1 rfl hl (by decide) rfl (fun ls hl => ?_)
  refine lv_iconst (v := (0 : Int32)) hx hb dX11_kinds_2 (by decide) ?_
  refine lv_istore_n (lv' := [(2, .int (0 : Int32)), (1, .int (0 : Int32)), (0, .ref a_m)]) hx hb dX11_kinds_3 rfl hl (by decide) rfl (fun ls hl => ?_)
  obtain ⟨o13, e14, hf⟩ := lp_bind hf
  refine L_X11_kinds_4_W CF hG ?_ KN _ _ _ hP (lv_sub hl [2, 1, 0] rfl) e14
  intro ls hl
  refine lv_iload_n hx hb dX11_kinds_99 rfl (lv_at hl 0 rfl) ?_
  obtain rfl := Option.some.inj hf
  exact ro_iret CF hr hlk dX11_kinds_100
end M_X11_kinds
section M_X11_mostAlike
variable {p : Program} {l : Launch} {e : Env} {s : State} {m : MethodId} {args : Array Value} {below : List Frame} {meth : Method} {c : Code} {Q : State → Prop} {A : Nat → Prop} {D : va_G} {cI cB cT : ClassId}
variable {a_m a_m_refused a_m_codes a_m_noted a_m_marked a_m_masks a_m_text a_m_before a_m_ahead a_m_aside a_m_sure a_m_wrongs a_m_says a_m_evening a_m_images : Nat}
def rm_X11_mostAlike : Room := { frames := 1, cells := 0, slots := 0, locals := 21 }
def B_X11_mostAlike_16 (m_says : (Nat → Int32)) (x1 : Int32) (x3 : Int32) (x4 : Int32) (x5 : Int32) : Option ((Int32 × Int32) ⊕ (Int32)) := (if (6 : Int32) ≤ x5 then some (Sum.inr x4) else ((f_X11_has x1 x3).bind fun o3 => (if o3 = 0 then some (Sum.inl ((x4 + (0 : Int32)), (x5 + (1 : Int32)))) else ((f_X11_has x1 x5).bind fun o6 => (if o6 = 0 then some (Sum.inl ((x4 + (0 : Int32)), (x5 + (1 : Int32)))) else (if oob x3 6 then none else (if oob x5 6 then none else (if (m_says (x3).toNatClampNeg) = (m_says (x5).toNatClampNeg) then some (Sum.inl ((x4 + (1 : Int32)), (x5 + (1 : Int32)))) else some (Sum.inl ((x4 + (0 : Int32)), (x5 + (1 : Int32))))))))))))
def B_X11_mostAlike_4 (m_says : (Nat → Int32)) (x1 : Int32) (x2 : Int32) (x3 : Int32) : Option ((Int32 × Int32) ⊕ (Int32)) := (if (6 : Int32) ≤ x3 then some (Sum.inr x2) else ((lp (fun v => B_X11_mostAlike_16 m_says x1 x3 v.1 v.2) KN ((0 : Int32), (0 : Int32))).bind fun o12 => (if o12 ≤ x2 then some (Sum.inl (x2, (x3 + (1 : Int32)))) else some (Sum.inl (o12, (x3 + (1 : Int32)))))))
def f_X11_mostAlike (m_says : (Nat → Int32)) (p1 : Int32) : Option (Int32) := ((lp (fun v => B_X11_mostAlike_4 m_says p1 v.1 v.2) KN ((0 : Int32), (0 : Int32))).bind fun o15 => some o15)
set_option maxHeartbeats 4000000 in
set_option maxRecDepth 100000 in
theorem B_X11_mostAlike_16_W {m_words : Int32} {m_kindNow : Int32} {m_secretNow : Int32} {m_guessed : Int32} {m_left : Int32} {m_wrong : Int32} {m_noteMany : Int32} {m_markMany : Int32} {m_typed : Int32} {m_readAt : Int32} {m_readNumber : Int32} {m_undoMany : Int32} {m_lastGuesses : Int32} {m_above : Int64} {m_below : Int64} {m_refused : (Nat → Int32)} {m_codes : (Nat → Int32)} {m_noted : (Nat → Int32)} {m_marked : (Nat → Int32)} {m_masks : (Nat → Int32)} {m_text : (Nat → Int32)} {m_before : (Nat → Int32)} {m_ahead : (Nat → Int32)} {m_aside : (Nat → Int32)} {m_sure : (Nat → Int32)} {m_wrongs : (Nat → Int32)} {m_says : (Nat → Int32)} {m_evening : (Nat → Int32)} {m_images : (Nat → Int32)} {x1 : Int32} {x2 : Int32} {x3 : Int32} {x4 : Int32} {x5 : Int32} (CF : CallFix p m c cX11_mostAlike 6 s args wsAll RX11) (hG : Gd D cI cB cT s) {z : (Int32 × Int32) ⊕ (Int32)} (hk : ∀ (v' : Int32 × Int32) (ls : Array Slot), z = Sum.inl v' → lv_has ls 6 [(0, .ref a_m), (1, .int x1), (2, .int x2), (3, .int x3), (4, .int (v'.1)), (5, .int (v'.2))] → W p l e rm_X11_mostAlike s m args below meth c s.heap [] 0 0 Q (F0 m 16 ls [])) (hx0 : ∀ (o' : Int32) (ls : Array Slot), z = Sum.inr o' → lv_has ls 6 [(0, .ref a_m), (1, .int x1), (2, .int x2), (3, .int x3), (4, .int (o'))] → W p l e rm_X11_mostAlike s m args below meth c s.heap [] 0 0 Q (F0 m 72 ls [])) {ls : Array Slot} (hP : va_P D vwCl (wd_m a_m a_m_refused a_m_codes a_m_noted a_m_marked a_m_masks a_m_text a_m_before a_m_ahead a_m_aside a_m_sure a_m_wrongs a_m_says a_m_evening a_m_images cI cB cT m_words m_kindNow m_secretNow m_guessed m_left m_wrong m_noteMany m_markMany m_typed m_readAt m_readNumber m_undoMany m_lastGuesses m_above m_below m_refused m_codes m_noted m_marked m_masks m_text m_before m_ahead m_aside m_sure m_wrongs m_says m_evening m_images) s.heap) (hl : lv_has ls 6 [(0, .ref a_m), (1, .int x1), (2, .int x2), (3, .int x3), (4, .int x4), (5, .int x5)]) (hf : B_X11_mostAlike_16 m_says x1 x3 x4 x5 = some z) : W p l e rm_X11_mostAlike s m args below meth c s.heap [] 0 0 Q (F0 m 16 ls []) := by
  obtain ⟨hx, hb, hml, hown, hts⟩ := id CF
  unfold B_X11_mostAlike_16 at hf
  refine lv_iload hx hb dX11_mostAlike_16 (lv_at hl 5 rfl) ?_
  refine lv_bipush (v := (6 : Int32)) hx hb dX11_mostAlike_18 (by decide) ?_
  refine lv_icmp_ge (tgt := 72) hx hb dX11_mostAlike_20 (by decide) (fun c2 => ?_) (fun c2 => ?_)
  · have hf := tk c2 hf
    exact hx0 _ _ (Option.some.inj hf).symm (lv_sub hl [0, 1, 2, 3, 4] rfl)
  · have hf := fk c2 hf
    refine lv_iload hx hb dX11_mostAlike_23 (lv_at hl 4 rfl) ?_
    refine lv_iload_n hx hb dX11_mostAlike_25 rfl (lv_at hl 1 rfl) ?_
    refine lv_iload_n hx hb dX11_mostAlike_26 rfl (lv_at hl 3 rfl) ?_
    obtain ⟨o3, e4, hf⟩ := lp_bind hf
    refine ro_Si (x := o3) (As := [.int x1, .int x3]) (rest := [.int x4]) CF (c_X11_has l D cI cB cT x1 x3 e4) ok_X11_has wm_1133 ⟨rfl, rfl, Nat.le_of_ble_eq_true rfl, Nat.le_of_ble_eq_true rfl⟩ hG wd_E_P rfl hl.1 rfl (Nat.le_of_ble_eq_true rfl) ⟨Nat.zero_le _, Nat.zero_le _⟩ dX11_mostAlike_27 ?_
    refine lv_if_eq (tgt := 62) hx hb dX11_mostAlike_30 (by decide) (fun c5 => ?_) (fun c5 => ?_)
    · have hf := tk c5 hf
      refine lv_iconst (v := (0 : Int32)) hx hb dX11_mostAlike_62 (by decide) ?_
      refine lv_iadd hx hb dX11_mostAlike_63 ?_
      refine lv_istore (lv' := [(4, .int (x4 + (0 : Int32))), (0, .ref a_m), (1, .int x1), (2, .int x2), (3, .int x3), (5, .int x5)]) hx hb dX11_mostAlike_64 hl (by decide) rfl (fun ls hl => ?_)
      refine lv_iinc (v := (x5 + (1 : Int32))) (lv' := [(5, .int (x5 + (1 : Int32))), (4, .int (x4 + (0 : Int32))), (0, .ref a_m), (1, .int x1), (2, .int x2), (3, .int x3)]) hx hb dX11_mostAlike_66 hl (k := 5) rfl (iinc_eq (by decide)) (by decide) rfl (fun ls hl => ?_)
      refine lv_goto (tgt := 16) hx hb dX11_mostAlike_69 (by decide) ?_
      exact hk _ _ (Option.some.inj hf).symm (lv_sub hl [2, 3, 4, 5, 1, 0] rfl)
    · have hf := fk c5 hf
      refine lv_iload_n hx hb dX11_mostAlike_33 rfl (lv_at hl 1 rfl) ?_
      refine lv_iload hx hb dX11_mostAlike_34 (lv_at hl 5 rfl) ?_
      obtain ⟨o6, e7, hf⟩ := lp_bind hf
      refine ro_Si (x := o6) (As := [.int x1, .int x5]) (rest := [.int x4]) CF (c_X11_has l D cI cB cT x1 x5 e7) ok_X11_has wm_1133 ⟨rfl, rfl, Nat.le_of_ble_eq_true rfl, Nat.le_of_ble_eq_true rfl⟩ hG wd_E_P rfl hl.1 rfl (Nat.le_of_ble_eq_true rfl) ⟨Nat.zero_le _, Nat.zero_le _⟩ dX11_mostAlike_36 ?_
      refine lv_if_eq (tgt := 62) hx hb dX11_mostAlike_39 (by decide) (fun c8 => ?_) (fun c8 => ?_)
      · have hf := tk c8 hf
        refine lv_iconst (v := (0 : Int32)) hx hb dX11_mostAlike_62 (by decide) ?_
        refine lv_iadd hx hb dX11_mostAlike_63 ?_
        refine lv_istore (lv' := [(4, .int (x4 + (0 : Int32))), (0, .ref a_m), (1, .int x1), (2, .int x2), (3, .int x3), (5, .int x5)]) hx hb dX11_mostAlike_64 hl (by decide) rfl (fun ls hl => ?_)
        refine lv_iinc (v := (x5 + (1 : Int32))) (lv' := [(5, .int (x5 + (1 : Int32))), (4, .int (x4 + (0 : Int32))), (0, .ref a_m), (1, .int x1), (2, .int x2), (3, .int x3)]) hx hb dX11_mostAlike_66 hl (k := 5) rfl (iinc_eq (by decide)) (by decide) rfl (fun ls hl => ?_)
        refine lv_goto (tgt := 16) hx hb dX11_mostAlike_69 (by decide) ?_
        exact hk _ _ (Option.some.inj hf).symm (lv_sub hl [2, 3, 4, 5, 1, 0] rfl)
      · have hf := fk c8 hf
        refine lv_aload_n hx hb dX11_mostAlike_42 rfl (lv_at hl 0 rfl) ?_
        refine va_get (D := D) (ci := 9) (v := .ref a_m_says) (C := RX11) (T := TX11) (N := 29) hx hb hts fin_X11 hown hG.1 hP 0 ce_m_0 vq_9 26 (by decide) (hts _ wm_948) (fun _ h9 => h9) rfl dX11_mostAlike_43 ?_
        refine lv_iload_n hx hb dX11_mostAlike_46 rfl (lv_at hl 3 rfl) ?_
        obtain ⟨n9, hf⟩ := nk hf
        refine va_iald (f := m_says) hx hb hG.1 hP 12 0 ce_m_12 rfl n9 dX11_mostAlike_47 ?_
        refine lv_aload_n hx hb dX11_mostAlike_48 rfl (lv_at hl 0 rfl) ?_
        refine va_get (D := D) (ci := 9) (v := .ref a_m_says) (C := RX11) (T := TX11) (N := 29) hx hb hts fin_X11 hown hG.1 hP 0 ce_m_0 vq_9 26 (by decide) (hts _ wm_948) (fun _ h9 => h9) rfl dX11_mostAlike_49 ?_
        refine lv_iload hx hb dX11_mostAlike_52 (lv_at hl 5 rfl) ?_
        obtain ⟨n10, hf⟩ := nk hf
        refine va_iald (f := m_says) hx hb hG.1 hP 12 0 ce_m_12 rfl n10 dX11_mostAlike_54 ?_
        refine lv_icmp_ne (tgt := 62) hx hb dX11_mostAlike_55 (by decide) (fun c11 => ?_) (fun c11 => ?_)
        · have hf := fk c11 hf
          refine lv_iconst (v := (0 : Int32)) hx hb dX11_mostAlike_62 (by decide) ?_
          refine lv_iadd hx hb dX11_mostAlike_63 ?_
          refine lv_istore (lv' := [(4, .int (x4 + (0 : Int32))), (0, .ref a_m), (1, .int x1), (2, .int x2), (3, .int x3), (5, .int x5)]) hx hb dX11_mostAlike_64 hl (by decide) rfl (fun ls hl => ?_)
          refine lv_iinc (v := (x5 + (1 : Int32))) (lv' := [(5, .int (x5 + (1 : Int32))), (4, .int (x4 + (0 : Int32))), (0, .ref a_m), (1, .int x1), (2, .int x2), (3, .int x3)]) hx hb dX11_mostAlike_66 hl (k := 5) rfl (iinc_eq (by decide)) (by decide) rfl (fun ls hl => ?_)
          refine lv_goto (tgt := 16) hx hb dX11_mostAlike_69 (by decide) ?_
          exact hk _ _ (Option.some.inj hf).symm (lv_sub hl [2, 3, 4, 5, 1, 0] rfl)
        · have hf := tk c11 hf
          refine lv_iconst (v := (1 : Int32)) hx hb dX11_mostAlike_58 (by decide) ?_
          refine lv_goto (tgt := 63) hx hb dX11_mostAlike_59 (by decide) ?_
          refine lv_iadd hx hb dX11_mostAlike_63 ?_
          refine lv_istore (lv' := [(4, .int (x4 + (1 : Int32))), (0, .ref a_m), (1, .int x1), (2, .int x2), (3, .int x3), (5, .int x5)]) hx hb dX11_mostAlike_64 hl (by decide) rfl (fun ls hl => ?_)
          refine lv_iinc (v := (x5 + (1 : Int32))) (lv' := [(5, .int (x5 + (1 : Int32))), (4, .int (x4 + (1 : Int32))), (0, .ref a_m), (1, .int x1), (2, .int x2), (3, .int x3)]) hx hb dX11_mostAlike_66 hl (k := 5) rfl (iinc_eq (by decide)) (by decide) rfl (fun ls hl => ?_)
          refine lv_goto (tgt := 16) hx hb dX11_mostAlike_69 (by decide) ?_
          exact hk _ _ (Option.some.inj hf).symm (lv_sub hl [2, 3, 4, 5, 1, 0] rfl)
set_option maxHeartbeats 4000000 in
set_option maxRecDepth 100000 in
theorem L_X11_mostAlike_16_W {m_words : Int32} {m_kindNow : Int32} {m_secretNow : Int32} {m_guessed : Int32} {m_left : Int32} {m_wrong : Int32} {m_noteMany : Int32} {m_markMany : Int32} {m_typed : Int32} {m_readAt : Int32} {m_readNumber : Int32} {m_undoMany : Int32} {m_lastGuesses : Int32} {m_above : Int64} {m_below : Int64} {m_refused : (Nat → Int32)} {m_codes : (Nat → Int32)} {m_noted : (Nat → Int32)} {m_marked : (Nat → Int32)} {m_masks : (Nat → Int32)} {m_text : (Nat → Int32)} {m_before : (Nat → Int32)} {m_ahead : (Nat → Int32)} {m_aside : (Nat → Int32)} {m_sure : (Nat → Int32)} {m_wrongs : (Nat → Int32)} {m_says : (Nat → Int32)} {m_evening : (Nat → Int32)} {m_images : (Nat → Int32)} {x1 : Int32} {x2 : Int32} {x3 : Int32} (CF : CallFix p m c cX11_mostAlike 6 s args wsAll RX11) (hG : Gd D cI cB cT s) {o : Int32} (hx0 : ∀ (ls : Array Slot), lv_has ls 6 [(0, .ref a_m), (1, .int x1), (2, .int x2), (3, .int x3), (4, .int o)] → W p l e rm_X11_mostAlike s m args below meth c s.heap [] 0 0 Q (F0 m 72 ls [])) : ∀ (n : Nat) (x4 : Int32) (x5 : Int32) (ls : Array Slot), va_P D vwCl (wd_m a_m a_m_refused a_m_codes a_m_noted a_m_marked a_m_masks a_m_text a_m_before a_m_ahead a_m_aside a_m_sure a_m_wrongs a_m_says a_m_evening a_m_images cI cB cT m_words m_kindNow m_secretNow m_guessed m_left m_wrong m_noteMany m_markMany m_typed m_readAt m_readNumber m_undoMany m_lastGuesses m_above m_below m_refused m_codes m_noted m_marked m_masks m_text m_before m_ahead m_aside m_sure m_wrongs m_says m_evening m_images) s.heap → lv_has ls 6 [(0, .ref a_m), (1, .int x1), (2, .int x2), (3, .int x3), (4, .int x4), (5, .int x5)] → lp (fun v => B_X11_mostAlike_16 m_says x1 x3 v.1 v.2) n (x4, x5) = some o → W p l e rm_X11_mostAlike s m args below meth c s.heap [] 0 0 Q (F0 m 16 ls []) := by
  intro n
  induction n with
  | zero =>
    intro x4 x5 ls hP hl hf
    exact (lp_zero hf).elim
  | succ n ih =>
    intro x4 x5 ls hP hl hf
    obtain ⟨z, hz, hf⟩ := lp_succ hf
    refine B_X11_mostAlike_16_W CF hG ?_ ?_ hP hl hz
    · intro v' ls ez hl
      rcases hf with ⟨v2, ev, hf⟩ | ev
      · cases Sum.inl.inj (ez.symm.trans ev)
        exact ih v'.1 v'.2 ls hP hl hf
      · exact (lp_lr (ez.symm.trans ev)).elim
    · intro o' ls ez hl
      rcases hf with ⟨v2, ev, hf⟩ | ev
      · exact (lp_lr (ev.symm.trans ez)).elim
      · cases Sum.inr.inj (ez.symm.trans ev)
        exact hx0 ls  hl
set_option maxHeartbeats 4000000 in
set_option maxRecDepth 100000 in
theorem B_X11_mostAlike_4_W {m_words : Int32} {m_kindNow : Int32} {m_secretNow : Int32} {m_guessed : Int32} {m_left : Int32} {m_wrong : Int32} {m_noteMany : Int32} {m_markMany : Int32} {m_typed : Int32} {m_readAt : Int32} {m_readNumber : Int32} {m_undoMany : Int32} {m_lastGuesses : Int32} {m_above : Int64} {m_below : Int64} {m_refused : (Nat → Int32)} {m_codes : (Nat → Int32)} {m_noted : (Nat → Int32)} {m_marked : (Nat → Int32)} {m_masks : (Nat → Int32)} {m_text : (Nat → Int32)} {m_before : (Nat → Int32)} {m_ahead : (Nat → Int32)} {m_aside : (Nat → Int32)} {m_sure : (Nat → Int32)} {m_wrongs : (Nat → Int32)} {m_says : (Nat → Int32)} {m_evening : (Nat → Int32)} {m_images : (Nat → Int32)} {x1 : Int32} {x2 : Int32} {x3 : Int32} (CF : CallFix p m c cX11_mostAlike 6 s args wsAll RX11) (hG : Gd D cI cB cT s) {z : (Int32 × Int32) ⊕ (Int32)} (hk : ∀ (v' : Int32 × Int32) (ls : Array Slot), z = Sum.inl v' → lv_has ls 6 [(0, .ref a_m), (1, .int x1), (2, .int (v'.1)), (3, .int (v'.2))] → W p l e rm_X11_mostAlike s m args below meth c s.heap [] 0 0 Q (F0 m 4 ls [])) (hx0 : ∀ (o' : Int32) (ls : Array Slot), z = Sum.inr o' → lv_has ls 6 [(2, .int (o'))] → W p l e rm_X11_mostAlike s m args below meth c s.heap [] 0 0 Q (F0 m 91 ls [])) {ls : Array Slot} (hP : va_P D vwCl (wd_m a_m a_m_refused a_m_codes a_m_noted a_m_marked a_m_masks a_m_text a_m_before a_m_ahead a_m_aside a_m_sure a_m_wrongs a_m_says a_m_evening a_m_images cI cB cT m_words m_kindNow m_secretNow m_guessed m_left m_wrong m_noteMany m_markMany m_typed m_readAt m_readNumber m_undoMany m_lastGuesses m_above m_below m_refused m_codes m_noted m_marked m_masks m_text m_before m_ahead m_aside m_sure m_wrongs m_says m_evening m_images) s.heap) (hl : lv_has ls 6 [(0, .ref a_m), (1, .int x1), (2, .int x2), (3, .int x3)]) (hf : B_X11_mostAlike_4 m_says x1 x2 x3 = some z) : W p l e rm_X11_mostAlike s m args below meth c s.heap [] 0 0 Q (F0 m 4 ls []) := by
  obtain ⟨hx, hb, hml, hown, hts⟩ := id CF
  unfold B_X11_mostAlike_4 at hf
  refine lv_iload_n hx hb dX11_mostAlike_4 rfl (lv_at hl 3 rfl) ?_
  refine lv_bipush (v := (6 : Int32)) hx hb dX11_mostAlike_5 (by decide) ?_
  refine lv_icmp_ge (tgt := 91) hx hb dX11_mostAlike_7 (by decide) (fun c1 => ?_) (fun c1 => ?_)
  · have hf := tk c1 hf
    exact hx0 _ _ (Option.some.inj hf).symm (lv_sub hl [2] rfl)
  · have hf := fk c1 hf
    refine lv_iconst (v := (0 : Int32)) hx hb dX11_mostAlike_10 (by decide) ?_
    refine lv_istore (lv' := [(4, .int (0 : Int32)), (0, .ref a_m), (1, .int x1), (2, .int x2), (3, .int x3)]) hx hb dX11_mostAlike_11 hl (by decide) rfl (fun ls hl => ?_)
    refine lv_iconst (v := (0 : Int32)) hx hb dX11_mostAlike_13 (by decide) ?_
    refine lv_istore (lv' := [(5, .int (0 : Int32)), (4, .int (0 : Int32)), (0, .ref a_m), (1, .int x1), (2, .int x2), (3, .int x3)]) hx hb dX11_mostAlike_14 hl (by decide) rfl (fun ls hl => ?_)
    obtain ⟨o12, e13, hf⟩ := lp_bind hf
    refine L_X11_mostAlike_16_W CF hG ?_ KN _ _ _ hP (lv_sub hl [2, 3, 4, 5, 1, 0] rfl) e13
    intro ls hl
    refine lv_iload hx hb dX11_mostAlike_72 (lv_at hl 4 rfl) ?_
    refine lv_iload_n hx hb dX11_mostAlike_74 rfl (lv_at hl 2 rfl) ?_
    refine lv_icmp_le (tgt := 83) hx hb dX11_mostAlike_75 (by decide) (fun c14 => ?_) (fun c14 => ?_)
    · have hf := tk c14 hf
      refine lv_iload_n hx hb dX11_mostAlike_83 rfl (lv_at hl 2 rfl) ?_
      refine lv_istore_n (lv' := [(2, .int x2), (0, .ref a_m), (1, .int x1), (3, .int x3), (4, .int o12)]) hx hb dX11_mostAlike_84 rfl hl (by decide) rfl (fun ls hl => ?_)
      refine lv_iinc (v := (x3 + (1 : Int32))) (lv' := [(3, .int (x3 + (1 : Int32))), (2, .int x2), (0, .ref a_m), (1, .int x1), (4, .int o12)]) hx hb dX11_mostAlike_85 hl (k := 3) rfl (iinc_eq (by decide)) (by decide) rfl (fun ls hl => ?_)
      refine lv_goto (tgt := 4) hx hb dX11_mostAlike_88 (by decide) ?_
      exact hk _ _ (Option.some.inj hf).symm (lv_sub hl [2, 3, 1, 0] rfl)
    · have hf := fk c14 hf
      refine lv_iload hx hb dX11_mostAlike_78 (lv_at hl 4 rfl) ?_
      refine lv_goto (tgt := 84) hx hb dX11_mostAlike_80 (by decide) ?_
      refine lv_istore_n (lv' := [(2, .int o12), (0, .ref a_m), (1, .int x1), (3, .int x3), (4, .int o12)]) hx hb dX11_mostAlike_84 rfl hl (by decide) rfl (fun ls hl => ?_)
      refine lv_iinc (v := (x3 + (1 : Int32))) (lv' := [(3, .int (x3 + (1 : Int32))), (2, .int o12), (0, .ref a_m), (1, .int x1), (4, .int o12)]) hx hb dX11_mostAlike_85 hl (k := 3) rfl (iinc_eq (by decide)) (by decide) rfl (fun ls hl => ?_)
      refine lv_goto (tgt := 4) hx hb dX11_mostAlike_88 (by decide) ?_
      exact hk _ _ (Option.some.inj hf).symm (lv_sub hl [2, 3, 1, 0] rfl)
set_option maxHeartbeats 4000000 in
set_option maxRecDepth 100000 in
theorem L_X11_mostAlike_4_W {m_words : Int32} {m_kindNow : Int32} {m_secretNow : Int32} {m_guessed : Int32} {m_left : Int32} {m_wrong : Int32} {m_noteMany : Int32} {m_markMany : Int32} {m_typed : Int32} {m_readAt : Int32} {m_readNumber : Int32} {m_undoMany : Int32} {m_lastGuesses : Int32} {m_above : Int64} {m_below : Int64} {m_refused : (Nat → Int32)} {m_codes : (Nat → Int32)} {m_noted : (Nat → Int32)} {m_marked : (Nat → Int32)} {m_masks : (Nat → Int32)} {m_text : (Nat → Int32)} {m_before : (Nat → Int32)} {m_ahead : (Nat → Int32)} {m_aside : (Nat → Int32)} {m_sure : (Nat → Int32)} {m_wrongs : (Nat → Int32)} {m_says : (Nat → Int32)} {m_evening : (Nat → Int32)} {m_images : (Nat → Int32)} {x1 : Int32} (CF : CallFix p m c cX11_mostAlike 6 s args wsAll RX11) (hG : Gd D cI cB cT s) {o : Int32} (hx0 : ∀ (ls : Array Slot), lv_has ls 6 [(2, .int o)] → W p l e rm_X11_mostAlike s m args below meth c s.heap [] 0 0 Q (F0 m 91 ls [])) : ∀ (n : Nat) (x2 : Int32) (x3 : Int32) (ls : Array Slot), va_P D vwCl (wd_m a_m a_m_refused a_m_codes a_m_noted a_m_marked a_m_masks a_m_text a_m_before a_m_ahead a_m_aside a_m_sure a_m_wrongs a_m_says a_m_evening a_m_images cI cB cT m_words m_kindNow m_secretNow m_guessed m_left m_wrong m_noteMany m_markMany m_typed m_readAt m_readNumber m_undoMany m_lastGuesses m_above m_below m_refused m_codes m_noted m_marked m_masks m_text m_before m_ahead m_aside m_sure m_wrongs m_says m_evening m_images) s.heap → lv_has ls 6 [(0, .ref a_m), (1, .int x1), (2, .int x2), (3, .int x3)] → lp (fun v => B_X11_mostAlike_4 m_says x1 v.1 v.2) n (x2, x3) = some o → W p l e rm_X11_mostAlike s m args below meth c s.heap [] 0 0 Q (F0 m 4 ls []) := by
  intro n
  induction n with
  | zero =>
    intro x2 x3 ls hP hl hf
    exact (lp_zero hf).elim
  | succ n ih =>
    intro x2 x3 ls hP hl hf
    obtain ⟨z, hz, hf⟩ := lp_succ hf
    refine B_X11_mostAlike_4_W CF hG ?_ ?_ hP hl hz
    · intro v' ls ez hl
      rcases hf with ⟨v2, ev, hf⟩ | ev
      · cases Sum.inl.inj (ez.symm.trans ev)
        exact ih v'.1 v'.2 ls hP hl hf
      · exact (lp_lr (ez.symm.trans ev)).elim
    · intro o' ls ez hl
      rcases hf with ⟨v2, ev, hf⟩ | ev
      · exact (lp_lr (ev.symm.trans ez)).elim
      · cases Sum.inr.inj (ez.symm.trans ev)
        exact hx0 ls  hl
set_option maxHeartbeats 4000000 in
set_option maxRecDepth 100000 in
theorem c_X11_mostAlike (l : Launch) (D : va_G) (cI cB cT : ClassId) (a_m a_m_refused a_m_codes a_m_noted a_m_marked a_m_masks a_m_text a_m_before a_m_ahead a_m_aside a_m_sure a_m_wrongs a_m_says a_m_evening a_m_images : Nat) (m_words : Int32) (m_kindNow : Int32) (m_secretNow : Int32) (m_guessed : Int32) (m_left : Int32) (m_wrong : Int32) (m_noteMany : Int32) (m_markMany : Int32) (m_typed : Int32) (m_readAt : Int32) (m_readNumber : Int32) (m_undoMany : Int32) (m_lastGuesses : Int32) (m_above : Int64) (m_below : Int64) (m_refused : (Nat → Int32)) (m_codes : (Nat → Int32)) (m_noted : (Nat → Int32)) (m_marked : (Nat → Int32)) (m_masks : (Nat → Int32)) (m_text : (Nat → Int32)) (m_before : (Nat → Int32)) (m_ahead : (Nat → Int32)) (m_aside : (Nat → Int32)) (m_sure : (Nat → Int32)) (m_wrongs : (Nat → Int32)) (m_says : (Nat → Int32)) (m_evening : (Nat → Int32)) (m_images : (Nat → Int32)) (p1 : Int32) {z : Int32} (hf : f_X11_mostAlike m_says p1 = some z) :
    Met l yX11_mostAlike (Cond.code yX11_mostAlike cX11_mostAlike 6 (some .int) :: wsAll) rm_X11_mostAlike (Pro [.ref a_m, .int p1] D cI cB cT (wd_m a_m a_m_refused a_m_codes a_m_noted a_m_marked a_m_masks a_m_text a_m_before a_m_ahead a_m_aside a_m_sure a_m_wrongs a_m_says a_m_evening a_m_images cI cB cT m_words m_kindNow m_secretNow m_guessed m_left m_wrong m_noteMany m_markMany m_typed m_readAt m_readNumber m_undoMany m_lastGuesses m_above m_below m_refused m_codes m_noted m_marked m_masks m_text m_before m_ahead m_aside m_sure m_wrongs m_says m_evening m_images)) (Qr (some (.int z))) 0 0 (fun _ => False) := by
  refine ro_intro RX11 (by decide +kernel) rfl (Nat.le_of_ble_eq_true rfl) ?_
  intro p e s m below meth c ls CF hr hlk hG hP hl
  have hl : lv_has ls 6 [(0, .ref a_m), (1, .int p1)] := hl
  obtain ⟨hx, hb, hml, hown, hts⟩ := id CF
  unfold f_X11_mostAlike at hf
  refine lv_iconst (v := (0 : Int32)) hx hb dX11_mostAlike_0 (by decide) ?_
  refine lv_istore_n (lv' := [(2, .int (0 : Int32)), (0, .ref a_m), (1, .int p1)]) hx hb dX11_mostAlike_1 rfl hl (by decide) rfl (fun ls hl => ?_)
  refine lv_iconst (v := (0 : Int32)) hx hb dX11_mostAlike_2 (by decide) ?_
  refine lv_istore_n (lv' := [(3, .int (0 : Int32)), (2, .int (0 : Int32)), (0, .ref a_m), (1, .int p1)]) hx hb dX11_mostAlike_3 rfl hl (by decide) rfl (fun ls hl => ?_)
  obtain ⟨o15, e16, hf⟩ := lp_bind hf
  refine L_X11_mostAlike_4_W CF hG ?_ KN _ _ _ hP (lv_sub hl [2, 3, 1, 0] rfl) e16
  intro ls hl
  refine lv_iload_n hx hb dX11_mostAlike_91 rfl (lv_at hl 0 rfl) ?_
  obtain rfl := Option.some.inj hf
  exact ro_iret CF hr hlk dX11_mostAlike_92
end M_X11_mostAlike
