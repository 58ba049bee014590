section M_X11_undo
variable {p : Program} {l : Launch} {e : Env} {s : State} {m : MethodId} {args : Array Value} {below : List Frame} {meth : Method} {c : Code} {Q : State → Prop} {A : Nat → Prop} {D : va_G} {cI cB cT : ClassId}
variable {a_m a_m_refused a_m_codes a_m_noted a_m_marked a_m_masks a_m_text a_m_before a_m_ahead a_m_aside a_m_sure a_m_wrongs a_m_says a_m_evening a_m_images : Nat}
def rm_X11_undo : Room := { frames := 1, cells := 0, slots := 0, locals := 22 }
def f_X11_undo (m_secretNow : Int32) (m_guessed : Int32) (m_left : Int32) (m_wrong : Int32) (m_undoMany : Int32) (m_refused : (Nat → Int32)) (m_ahead : (Nat → Int32)) : Option (Int32 × Int32 × Int32 × Int32 × Int32 × Int32 × (Nat → Int32)) := (if m_undoMany = 0 then ((f_X11_no m_refused).bind fun o4 => some (o4.1, m_secretNow, m_guessed, m_left, m_wrong, m_undoMany, o4.2)) else ((f_X11_takes_m_ahead m_ahead ((4 : Int32) * (m_undoMany - (1 : Int32)))).bind fun o2 => some (o2.2.2.2, o2.1, o2.2.1, o2.2.2.1, o2.2.2.2, (m_undoMany - (1 : Int32)), m_refused)))
set_option maxHeartbeats 4000000 in
set_option maxRecDepth 100000 in
theorem c_X11_undo (l : Launch) (D : va_G) (cI cB cT : ClassId) (sz : Nat) (a_m a_m_refused a_m_codes a_m_noted a_m_marked a_m_masks a_m_text a_m_before a_m_ahead a_m_aside a_m_sure a_m_wrongs a_m_says a_m_evening a_m_images : Nat) (m_words : Int32) (m_kindNow : Int32) (m_secretNow : Int32) (m_guessed : Int32) (m_left : Int32) (m_wrong : Int32) (m_noteMany : Int32) (m_markMany : Int32) (m_typed : Int32) (m_readAt : Int32) (m_readNumber : Int32) (m_undoMany : Int32) (m_lastGuesses : Int32) (m_above : Int64) (m_below : Int64) (m_refused : (Nat → Int32)) (m_codes : (Nat → Int32)) (m_noted : (Nat → Int32)) (m_marked : (Nat → Int32)) (m_masks : (Nat → Int32)) (m_text : (Nat → Int32)) (m_before : (Nat → Int32)) (m_ahead : (Nat → Int32)) (m_aside : (Nat → Int32)) (m_sure : (Nat → Int32)) (m_wrongs : (Nat → Int32)) (m_says : (Nat → Int32)) (m_evening : (Nat → Int32)) (m_images : (Nat → Int32)) {z : Int32 × Int32 × Int32 × Int32 × Int32 × Int32 × (Nat → Int32)} (hf : f_X11_undo m_secretNow m_guessed m_left m_wrong m_undoMany m_refused m_ahead = some z) :
    Met l yX11_undo (Cond.code yX11_undo cX11_undo 1 (some .int) :: wsAll) rm_X11_undo (Pwr [.ref a_m] D cI cB cT (wd_m a_m a_m_refused a_m_codes a_m_noted a_m_marked a_m_masks a_m_text a_m_before a_m_ahead a_m_aside a_m_sure a_m_wrongs a_m_says a_m_evening a_m_images cI cB cT m_words m_kindNow m_secretNow m_guessed m_left m_wrong m_noteMany m_markMany m_typed m_readAt m_readNumber m_undoMany m_lastGuesses m_above m_below m_refused m_codes m_noted m_marked m_masks m_text m_before m_ahead m_aside m_sure m_wrongs m_says m_evening m_images) sz) (Qw (some (.int z.1)) D (wd_m a_m a_m_refused a_m_codes a_m_noted a_m_marked a_m_masks a_m_text a_m_before a_m_ahead a_m_aside a_m_sure a_m_wrongs a_m_says a_m_evening a_m_images cI cB cT m_words m_kindNow z.2.1 z.2.2.1 z.2.2.2.1 z.2.2.2.2.1 m_noteMany m_markMany m_typed m_readAt m_readNumber z.2.2.2.2.2.1 m_lastGuesses m_above m_below z.2.2.2.2.2.2 m_codes m_noted m_marked m_masks m_text m_before m_ahead m_aside m_sure m_wrongs m_says m_evening m_images) (va_A (wd_m a_m a_m_refused a_m_codes a_m_noted a_m_marked a_m_masks a_m_text a_m_before a_m_ahead a_m_aside a_m_sure a_m_wrongs a_m_says a_m_evening a_m_images cI cB cT m_words m_kindNow m_secretNow m_guessed m_left m_wrong m_noteMany m_markMany m_typed m_readAt m_readNumber m_undoMany m_lastGuesses m_above m_below m_refused m_codes m_noted m_marked m_masks m_text m_before m_ahead m_aside m_sure m_wrongs m_says m_evening m_images) sz)) 0 0 (va_A (wd_m a_m a_m_refused a_m_codes a_m_noted a_m_marked a_m_masks a_m_text a_m_before a_m_ahead a_m_aside a_m_sure a_m_wrongs a_m_says a_m_evening a_m_images cI cB cT m_words m_kindNow m_secretNow m_guessed m_left m_wrong m_noteMany m_markMany m_typed m_readAt m_readNumber m_undoMany m_lastGuesses m_above m_below m_refused m_codes m_noted m_marked m_masks m_text m_before m_ahead m_aside m_sure m_wrongs m_says m_evening m_images) sz) := by
  refine wr_intro RX11 (by decide +kernel) rfl (Nat.le_of_ble_eq_true rfl) ?_
  intro p e s m below meth c ls A H locs CF hr hlk hG hP hD hS hA hl
  have hl : lv_has ls 1 [(0, .ref a_m)] := hl
  obtain ⟨hx, hb, hml, hown, hts⟩ := id CF
  unfold f_X11_undo at hf
  refine lv_aload_n hx hb dX11_undo_0 rfl (lv_at hl 0 rfl) ?_
  refine va_get (D := D) (ci := 9) (v := .int m_undoMany) (C := RX11) (T := TX11) (N := 29) hx hb hts fin_X11 hown hG.1 hP 0 ce_m_0 vq_9 19 (by decide) (hts _ wm_941) (fun _ h9 => h9) rfl dX11_undo_1 ?_
  refine lv_if_ne (tgt := 12) hx hb dX11_undo_4 (by decide) (fun c1 => ?_) (fun c1 => ?_)
  · have hf := fk c1 hf
    refine lv_aload_n hx hb dX11_undo_12 rfl (lv_at hl 0 rfl) ?_
    refine lv_dup hx hb dX11_undo_13 rfl ?_
    refine va_get (D := D) (ci := 9) (v := .int m_undoMany) (C := RX11) (T := TX11) (N := 29) hx hb hts fin_X11 hown hG.1 hP 0 ce_m_0 vq_9 19 (by decide) (hts _ wm_941) (fun _ h9 => h9) rfl dX11_undo_14 ?_
    refine lv_iconst (v := (1 : Int32)) hx hb dX11_undo_17 (by decide) ?_
    refine lv_isub hx hb dX11_undo_18 ?_
    refine va_put (D := D) (ci := 9) (v := .int (m_undoMany - (1 : Int32))) (ty := .int) (C := RX11) (T := TX11) (N := 29) hx hb hts fin_X11 tyX11 tyX11_ok nmX11 hown hG.1 hP hD hS 0 ce_m_0 vq_9 19 (by decide) (hts _ wm_941) (fun _ h9 => h9) rfl (tyX11_ok 19 (by decide)) rfl rfl (Nat.le_of_ble_eq_true rfl) dX11_undo_19 (fun H locs hP _ hS => ?_)
    have hP : va_P D vwCl (wd_m a_m a_m_refused a_m_codes a_m_noted a_m_marked a_m_masks a_m_text a_m_before a_m_ahead a_m_aside a_m_sure a_m_wrongs a_m_says a_m_evening a_m_images cI cB cT m_words m_kindNow m_secretNow m_guessed m_left m_wrong m_noteMany m_markMany m_typed m_readAt m_readNumber (m_undoMany - (1 : Int32)) m_lastGuesses m_above m_below m_refused m_codes m_noted m_marked m_masks m_text m_before m_ahead m_aside m_sure m_wrongs m_says m_evening m_images) H := va_P_eq se_m_m_undoMany hP
    have hD : va_D A (wd_m a_m a_m_refused a_m_codes a_m_noted a_m_marked a_m_masks a_m_text a_m_before a_m_ahead a_m_aside a_m_sure a_m_wrongs a_m_says a_m_evening a_m_images cI cB cT m_words m_kindNow m_secretNow m_guessed m_left m_wrong m_noteMany m_markMany m_typed m_readAt m_readNumber (m_undoMany - (1 : Int32)) m_lastGuesses m_above m_below m_refused m_codes m_noted m_marked m_masks m_text m_before m_ahead m_aside m_sure m_wrongs m_says m_evening m_images) := va_D_fst fs_m hD
    refine lv_aload_n hx hb dX11_undo_22 rfl (lv_at hl 0 rfl) ?_
    refine lv_aload_n hx hb dX11_undo_23 rfl (lv_at hl 0 rfl) ?_
    refine va_get (D := D) (ci := 9) (v := .ref a_m_ahead) (C := RX11) (T := TX11) (N := 29) hx hb hts fin_X11 hown hG.1 hP 0 ce_m_0 vq_9 18 (by decide) (hts _ wm_940) (fun _ h9 => h9) rfl dX11_undo_24 ?_
    refine lv_iconst (v := (4 : Int32)) hx hb dX11_undo_27 (by decide) ?_
    refine lv_aload_n hx hb dX11_undo_28 rfl (lv_at hl 0 rfl) ?_
    refine va_get (D := D) (ci := 9) (v := .int (m_undoMany - (1 : Int32))) (C := RX11) (T := TX11) (N := 29) hx hb hts fin_X11 hown hG.1 hP 0 ce_m_0 vq_9 19 (by decide) (hts _ wm_941) (fun _ h9 => h9) rfl dX11_undo_29 ?_
    refine lv_imul hx hb dX11_undo_32 ?_
    obtain ⟨o2, e3, hf⟩ := lp_bind hf
    refine wr_Wv (ws' := (wd_m a_m a_m_refused a_m_codes a_m_noted a_m_marked a_m_masks a_m_text a_m_before a_m_ahead a_m_aside a_m_sure a_m_wrongs a_m_says a_m_evening a_m_images cI cB cT m_words m_kindNow o2.1 o2.2.1 o2.2.2.1 o2.2.2.2 m_noteMany m_markMany m_typed m_readAt m_readNumber (m_undoMany - (1 : Int32)) m_lastGuesses m_above m_below m_refused m_codes m_noted m_marked m_masks m_text m_before m_ahead m_aside m_sure m_wrongs m_says m_evening m_images)) (As := [.ref a_m_ahead, .int ((4 : Int32) * (m_undoMany - (1 : Int32)))]) (rest := []) CF (c_X11_takes_m_ahead l D cI cB cT H.size a_m a_m_refused a_m_codes a_m_noted a_m_marked a_m_masks a_m_text a_m_before a_m_ahead a_m_aside a_m_sure a_m_wrongs a_m_says a_m_evening a_m_images m_words m_kindNow m_secretNow m_guessed m_left m_wrong m_noteMany m_markMany m_typed m_readAt m_readNumber (m_undoMany - (1 : Int32)) m_lastGuesses m_above m_below m_refused m_codes m_noted m_marked m_masks m_text m_before m_ahead m_aside m_sure m_wrongs m_says m_evening m_images ((4 : Int32) * (m_undoMany - (1 : Int32))) e3) ok_X11_takes wm_1183 ⟨rfl, rfl, Nat.le_of_ble_eq_true rfl, Nat.le_of_ble_eq_true rfl⟩ hG hP hD hS hA fs_m 0 9 vq_9 rfl ce_m_0 rfl hl.1 rfl (Nat.le_of_ble_eq_true rfl) ⟨Nat.zero_le _, Nat.zero_le _⟩ dX11_undo_33 (fun H locs hP hD hS => ?_)
    refine lv_aload_n hx hb dX11_undo_36 rfl (lv_at hl 0 rfl) ?_
    refine va_get (D := D) (ci := 9) (v := .int o2.2.2.2) (C := RX11) (T := TX11) (N := 29) hx hb hts fin_X11 hown hG.1 hP 0 ce_m_0 vq_9 6 (by decide) (hts _ wm_928) (fun _ h9 => h9) rfl dX11_undo_37 ?_
    obtain rfl := Option.some.inj hf
    exact wr_iret CF hr hlk hP hS dX11_undo_40
  · have hf := tk c1 hf
    refine lv_aload_n hx hb dX11_undo_7 rfl (lv_at hl 0 rfl) ?_
    obtain ⟨o4, e5, hf⟩ := lp_bind hf
    refine wr_Wi (x := o4.1) (ws' := (wd_m a_m a_m_refused a_m_codes a_m_noted a_m_marked a_m_masks a_m_text a_m_before a_m_ahead a_m_aside a_m_sure a_m_wrongs a_m_says a_m_evening a_m_images cI cB cT m_words m_kindNow m_secretNow m_guessed m_left m_wrong m_noteMany m_markMany m_typed m_readAt m_readNumber m_undoMany m_lastGuesses m_above m_below o4.2 m_codes m_noted m_marked m_masks m_text m_before m_ahead m_aside m_sure m_wrongs m_says m_evening m_images)) (As := []) (rest := []) CF (c_X11_no l D cI cB cT H.size a_m a_m_refused a_m_codes a_m_noted a_m_marked a_m_masks a_m_text a_m_before a_m_ahead a_m_aside a_m_sure a_m_wrongs a_m_says a_m_evening a_m_images m_words m_kindNow m_secretNow m_guessed m_left m_wrong m_noteMany m_markMany m_typed m_readAt m_readNumber m_undoMany m_lastGuesses m_above m_below m_refused m_codes m_noted m_marked m_masks m_text m_before m_ahead m_aside m_sure m_wrongs m_says m_evening m_images e5) ok_X11_no wm_1036 ⟨rfl, rfl, Nat.le_of_ble_eq_true rfl, Nat.le_of_ble_eq_true rfl⟩ hG hP hD hS hA fs_m 0 9 vq_9 rfl ce_m_0 rfl hl.1 rfl (Nat.le_of_ble_eq_true rfl) ⟨Nat.zero_le _, Nat.zero_le _⟩ dX11_undo_8 (fun H locs hP hD hS => ?_)
    obtain rfl := Option.some.inj hf
    exact wr_iret CF hr hlk hP hS dX11_undo_11
end M_X11_undo
section M_X11_of
variable {p : Program} {l : Launch} {e : Env} {s : State} {m : MethodId} {args : Array Value} {below : List Frame} {meth : Method} {c : Code} {Q : State → Prop} {A : Nat → Prop} {D : va_G} {cI cB cT : ClassId}
variable {a_m a_m_refused a_m_codes a_m_noted a_m_marked a_m_masks a_m_text a_m_before a_m_ahead a_m_aside a_m_sure a_m_wrongs a_m_says a_m_evening a_m_images : Nat}
def rm_X11_of : Room := { frames := 2, cells := 0, slots := 0, locals := 43 }
def f_X11_of (m_words : Int32) (m_left : Int32) (m_refused : (Nat → Int32)) (m_codes : (Nat → Int32)) (p1 : Int32) (p2 : Int32) : Option (Int32 × (Nat → Int32)) := ((f_X11_isWord m_words p1).bind fun o1 => (if o1 = 0 then ((f_X11_bad m_refused).bind fun o4 => some (o4.1, o4.2)) else ((f_X11_in p2 (0 : Int32) (1 : Int32)).bind fun o6 => (if o6 = 0 then ((f_X11_bad m_refused).bind fun o11 => some (o11.1, o11.2)) else (if p2 = 0 then (if oob p1 8 then none else some ((m_codes (p1).toNatClampNeg), m_refused)) else some (((m_left >>> (p1 &&& 31)) &&& (1 : Int32)), m_refused))))))
set_option maxHeartbeats 4000000 in
set_option maxRecDepth 100000 in
theorem c_X11_of (l : Launch) (D : va_G) (cI cB cT : ClassId) (sz : Nat) (a_m a_m_refused a_m_codes a_m_noted a_m_marked a_m_masks a_m_text a_m_before a_m_ahead a_m_aside a_m_sure a_m_wrongs a_m_says a_m_evening a_m_images : Nat) (m_words : Int32) (m_kindNow : Int32) (m_secretNow : Int32) (m_guessed : Int32) (m_left : Int32) (m_wrong : Int32) (m_noteMany : Int32) (m_markMany : Int32) (m_typed : Int32) (m_readAt : Int32) (m_readNumber : Int32) (m_undoMany : Int32) (m_lastGuesses : Int32) (m_above : Int64) (m_below : Int64) (m_refused : (Nat → Int32)) (m_codes : (Nat → Int32)) (m_noted : (Nat → Int32)) (m_marked : (Nat → Int32)) (m_masks : (Nat → Int32)) (m_text : (Nat → Int32)) (m_before : (Nat → Int32)) (m_ahead : (Nat → Int32)) (m_aside : (Nat → Int32)) (m_sure : (Nat → Int32)) (m_wrongs : (Nat → Int32)) (m_says : (Nat → Int32)) (m_evening : (Nat → Int32)) (m_images : (Nat → Int32)) (p1 : Int32) (p2 : Int32) {z : Int32 × (Nat → Int32)} (hf : f_X11_of m_words m_left m_refused m_codes p1 p2 = some z) :
    Met l yX11_of (Cond.code yX11_of cX11_of 3 (some .int) :: wsAll) rm_X11_of (Pwr [.ref a_m, .int p1, .int p2] D cI cB cT (wd_m a_m a_m_refused a_m_codes a_m_noted a_m_marked a_m_masks a_m_text a_m_before a_m_ahead a_m_aside a_m_sure a_m_wrongs a_m_says a_m_evening a_m_images cI cB cT m_words m_kindNow m_secretNow m_guessed m_left m_wrong m_noteMany m_markMany m_typed m_readAt m_readNumber m_undoMany m_lastGuesses m_above m_below m_refused m_codes m_noted m_marked m_masks m_text m_before m_ahead m_aside m_sure m_wrongs m_says m_evening m_images) sz) (Qw (some (.int z.1)) D (wd_m a_m a_m_refused a_m_codes a_m_noted a_m_marked a_m_masks a_m_text a_m_before a_m_ahead a_m_aside a_m_sure a_m_wrongs a_m_says a_m_evening a_m_images cI cB cT m_words m_kindNow m_secretNow m_guessed m_left m_wrong m_noteMany m_markMany m_typed m_readAt m_readNumber m_undoMany m_lastGuesses m_above m_below z.2 m_codes m_noted m_marked m_masks m_text m_before m_ahead m_aside m_sure m_wrongs m_says m_evening m_images) (va_A (wd_m a_m a_m_refused a_m_codes a_m_noted a_m_marked a_m_masks a_m_text a_m_before a_m_ahead a_m_aside a_m_sure a_m_wrongs a_m_says a_m_evening a_m_images cI cB cT m_words m_kindNow m_secretNow m_guessed m_left m_wrong m_noteMany m_markMany m_typed m_readAt m_readNumber m_undoMany m_lastGuesses m_above m_below m_refused m_codes m_noted m_marked m_masks m_text m_before m_ahead m_aside m_sure m_wrongs m_says m_evening m_images) sz)) 0 0 (va_A (wd_m a_m a_m_refused a_m_codes a_m_noted a_m_marked a_m_masks a_m_text a_m_before a_m_ahead a_m_aside a_m_sure a_m_wrongs a_m_says a_m_evening a_m_images cI cB cT m_words m_kindNow m_secretNow m_guessed m_left m_wrong m_noteMany m_markMany m_typed m_readAt m_readNumber m_undoMany m_lastGuesses m_above m_below m_refused m_codes m_noted m_marked m_masks m_text m_before m_ahead m_aside m_sure m_wrongs m_says m_evening m_images) sz) := by
  refine wr_intro RX11 (by decide +kernel) rfl (Nat.le_of_ble_eq_true rfl) ?_
  intro p e s m below meth c ls A H locs CF hr hlk hG hP hD hS hA hl
  have hl : lv_has ls 3 [(0, .ref a_m), (1, .int p1), (2, .int p2)] := hl
  obtain ⟨hx, hb, hml, hown, hts⟩ := id CF
  unfold f_X11_of at hf
  refine lv_aload_n hx hb dX11_of_0 rfl (lv_at hl 0 rfl) ?_
  refine lv_iload_n hx hb dX11_of_1 rfl (lv_at hl 1 rfl) ?_
  obtain ⟨o1, e2, hf⟩ := lp_bind hf
  refine ro_Vi (x := o1) (As := [.int p1]) (rest := []) CF (c_X11_isWord l D cI cB cT a_m a_m_refused a_m_codes a_m_noted a_m_marked a_m_masks a_m_text a_m_before a_m_ahead a_m_aside a_m_sure a_m_wrongs a_m_says a_m_evening a_m_images m_words m_kindNow m_secretNow m_guessed m_left m_wrong m_noteMany m_markMany m_typed m_readAt m_readNumber m_undoMany m_lastGuesses m_above m_below m_refused m_codes m_noted m_marked m_masks m_text m_before m_ahead m_aside m_sure m_wrongs m_says m_evening m_images p1 e2) ok_X11_isWord wm_1206 ⟨rfl, rfl, Nat.le_of_ble_eq_true rfl, Nat.le_of_ble_eq_true rfl⟩ hG hP 0 9 vq_9 rfl ce_m_0 rfl hl.1 rfl (Nat.le_of_ble_eq_true rfl) ⟨Nat.zero_le _, Nat.zero_le _⟩ dX11_of_2 ?_
  refine lv_if_eq (tgt := 17) hx hb dX11_of_5 (by decide) (fun c3 => ?_) (fun c3 => ?_)
  · have hf := tk c3 hf
    refine lv_aload_n hx hb dX11_of_17 rfl (lv_at hl 0 rfl) ?_
    obtain ⟨o4, e5, hf⟩ := lp_bind hf
    refine wr_Wi (x := o4.1) (ws' := (wd_m a_m a_m_refused a_m_codes a_m_noted a_m_marked a_m_masks a_m_text a_m_before a_m_ahead a_m_aside a_m_sure a_m_wrongs a_m_says a_m_evening a_m_images cI cB cT m_words m_kindNow m_secretNow m_guessed m_left m_wrong m_noteMany m_markMany m_typed m_readAt m_readNumber m_undoMany m_lastGuesses m_above m_below o4.2 m_codes m_noted m_marked m_masks m_text m_before m_ahead m_aside m_sure m_wrongs m_says m_evening m_images)) (As := []) (rest := []) CF (c_X11_bad l D cI cB cT H.size a_m a_m_refused a_m_codes a_m_noted a_m_marked a_m_masks a_m_text a_m_before a_m_ahead a_m_aside a_m_sure a_m_wrongs a_m_says a_m_evening a_m_images m_words m_kindNow m_secretNow m_guessed m_left m_wrong m_noteMany m_markMany m_typed m_readAt m_readNumber m_undoMany m_lastGuesses m_above m_below m_refused m_codes m_noted m_marked m_masks m_text m_before m_ahead m_aside m_sure m_wrongs m_says m_evening m_images e5) ok_X11_bad wm_1020 ⟨rfl, rfl, Nat.le_of_ble_eq_true rfl, Nat.le_of_ble_eq_true rfl⟩ hG hP hD hS hA fs_m 0 9 vq_9 rfl ce_m_0 rfl hl.1 rfl (Nat.le_of_ble_eq_true rfl) ⟨Nat.zero_le _, Nat.zero_le _⟩ dX11_of_18 (fun H locs hP hD hS => ?_)
    obtain rfl := Option.some.inj hf
    exact wr_iret CF hr hlk hP hS dX11_of_21
  · have hf := fk c3 hf
    refine lv_iload_n hx hb dX11_of_8 rfl (lv_at hl 2 rfl) ?_
    refine lv_iconst (v := (0 : Int32)) hx hb dX11_of_9 (by decide) ?_
    refine lv_iconst (v := (1 : Int32)) hx hb dX11_of_10 (by decide) ?_
    obtain ⟨o6, e7, hf⟩ := lp_bind hf
    refine ro_Si (x := o6) (As := [.int p2, .int (0 : Int32), .int (1 : Int32)]) (rest := []) CF (c_X11_in l D cI cB cT p2 (0 : Int32) (1 : Int32) e7) ok_X11_in wm_1017 ⟨rfl, rfl, Nat.le_of_ble_eq_true rfl, Nat.le_of_ble_eq_true rfl⟩ hG wd_E_P rfl hl.1 rfl (Nat.le_of_ble_eq_true rfl) ⟨Nat.zero_le _, Nat.zero_le _⟩ dX11_of_11 ?_
    refine lv_if_ne (tgt := 22) hx hb dX11_of_14 (by decide) (fun c8 => ?_) (fun c8 => ?_)
    · have hf := fk c8 hf
      refine lv_iload_n hx hb dX11_of_22 rfl (lv_at hl 2 rfl) ?_
      refine lv_if_ne (tgt := 35) hx hb dX11_of_23 (by decide) (fun c9 => ?_) (fun c9 => ?_)
      · have hf := fk c9 hf
        refine lv_aload_n hx hb dX11_of_35 rfl (lv_at hl 0 rfl) ?_
        refine va_get (D := D) (ci := 9) (v := .int m_left) (C := RX11) (T := TX11) (N := 29) hx hb hts fin_X11 hown hG.1 hP 0 ce_m_0 vq_9 5 (by decide) (hts _ wm_927) (fun _ h9 => h9) rfl dX11_of_36 ?_
        refine lv_iload_n hx hb dX11_of_39 rfl (lv_at hl 1 rfl) ?_
        refine lv_ishr hx hb dX11_of_40 ?_
        refine lv_iconst (v := (1 : Int32)) hx hb dX11_of_41 (by decide) ?_
        refine lv_iand hx hb dX11_of_42 ?_
        obtain rfl := Option.some.inj hf
        exact wr_iret CF hr hlk hP hS dX11_of_43
      · have hf := tk c9 hf
        refine lv_aload_n hx hb dX11_of_26 rfl (lv_at hl 0 rfl) ?_
        refine va_get (D := D) (ci := 9) (v := .ref a_m_codes) (C := RX11) (T := TX11) (N := 29) hx hb hts fin_X11 hown hG.1 hP 0 ce_m_0 vq_9 9 (by decide) (hts _ wm_931) (fun _ h9 => h9) rfl dX11_of_27 ?_
        refine lv_iload_n hx hb dX11_of_30 rfl (lv_at hl 1 rfl) ?_
        obtain ⟨n10, hf⟩ := nk hf
        refine va_iald (f := m_codes) hx hb hG.1 hP 2 0 ce_m_2 rfl n10 dX11_of_31 ?_
        refine lv_goto (tgt := 43) hx hb dX11_of_32 (by decide) ?_
        obtain rfl := Option.some.inj hf
        exact wr_iret CF hr hlk hP hS dX11_of_43
    · have hf := tk c8 hf
      refine lv_aload_n hx hb dX11_of_17 rfl (lv_at hl 0 rfl) ?_
      obtain ⟨o11, e12, hf⟩ := lp_bind hf
      refine wr_Wi (x := o11.1) (ws' := (wd_m a_m a_m_refused a_m_codes a_m_noted a_m_marked a_m_masks a_m_text a_m_before a_m_ahead a_m_aside a_m_sure a_m_wrongs a_m_says a_m_evening a_m_images cI cB cT m_words m_kindNow m_secretNow m_guessed m_left m_wrong m_noteMany m_markMany m_typed m_readAt m_readNumber m_undoMany m_lastGuesses m_above m_below o11.2 m_codes m_noted m_marked m_masks m_text m_before m_ahead m_aside m_sure m_wrongs m_says m_evening m_images)) (As := []) (rest := []) CF (c_X11_bad l D cI cB cT H.size a_m a_m_refused a_m_codes a_m_noted a_m_marked a_m_masks a_m_text a_m_before a_m_ahead a_m_aside a_m_sure a_m_wrongs a_m_says a_m_evening a_m_images m_words m_kindNow m_secretNow m_guessed m_left m_wrong m_noteMany m_markMany m_typed m_readAt m_readNumber m_undoMany m_lastGuesses m_above m_below m_refused m_codes m_noted m_marked m_masks m_text m_before m_ahead m_aside m_sure m_wrongs m_says m_evening m_images e12) ok_X11_bad wm_1020 ⟨rfl, rfl, Nat.le_of_ble_eq_true rfl, Nat.le_of_ble_eq_true rfl⟩ hG hP hD hS hA fs_m 0 9 vq_9 rfl ce_m_0 rfl hl.1 rfl (Nat.le_of_ble_eq_true rfl) ⟨Nat.zero_le _, Nat.zero_le _⟩ dX11_of_18 (fun H locs hP hD hS => ?_)
      obtain rfl := Option.some.inj hf
      exact wr_iret CF hr hlk hP hS dX11_of_21
end M_X11_of
section M_X11_mask
variable {p : Program} {l : Launch} {e : Env} {s : State} {m : MethodId} {args : Array Value} {below : List Frame} {meth : Method} {c : Code} {Q : State → Prop} {A : Nat → Prop} {D : va_G} {cI cB cT : ClassId}
variable {a_m a_m_refused a_m_codes a_m_noted a_m_marked a_m_masks a_m_text a_m_before a_m_ahead a_m_aside a_m_sure a_m_wrongs a_m_says a_m_evening a_m_images : Nat}
def rm_X11_mask : Room := { frames := 2, cells := 0, slots := 0, locals := 43 }
def f_X11_mask (m_words : Int32) (m_refused : (Nat → Int32)) (m_masks : (Nat → Int32)) (p1 : Int32) (p2 : Int32) : Option (Int32 × (Nat → Int32)) := ((f_X11_isWord m_words p1).bind fun o1 => (if o1 = 0 then ((f_X11_bad m_refused).bind fun o4 => some (o4.1, o4.2)) else ((f_X11_isLetterNumber p2).bind fun o6 => (if o6 = 0 then ((f_X11_bad m_refused).bind fun o9 => some (o9.1, o9.2)) else ((f_X11_maskOf m_masks p1 p2).bind fun o11 => some (o11, m_refused))))))
set_option maxHeartbeats 4000000 in
set_option maxRecDepth 100000 in
theorem c_X11_mask (l : Launch) (D : va_G) (cI cB cT : ClassId) (sz : Nat) (a_m a_m_refused a_m_codes a_m_noted a_m_marked a_m_masks a_m_text a_m_before a_m_ahead a_m_aside a_m_sure a_m_wrongs a_m_says a_m_evening a_m_images : Nat) (m_words : Int32) (m_kindNow : Int32) (m_secretNow : Int32) (m_guessed : Int32) (m_left : Int32) (m_wrong : Int32) (m_noteMany : Int32) (m_markMany : Int32) (m_typed : Int32) (m_readAt : Int32) (m_readNumber : Int32) (m_undoMany : Int32) (m_lastGuesses : Int32) (m_above : Int64) (m_below : Int64) (m_refused : (Nat → Int32)) (m_codes : (Nat → Int32)) (m_noted : (Nat → Int32)) (m_marked : (Nat → Int32)) (m_masks : (Nat → Int32)) (m_text : (Nat → Int32)) (m_before : (Nat → Int32)) (m_ahead : (Nat → Int32)) (m_aside : (Nat → Int32)) (m_sure : (Nat → Int32)) (m_wrongs : (Nat → Int32)) (m_says : (Nat → Int32)) (m_evening : (Nat → Int32)) (m_images : (Nat → Int32)) (p1 : Int32) (p2 : Int32) {z : Int32 × (Nat → Int32)} (hf : f_X11_mask m_words m_refused m_masks p1 p2 = some z) :
    Met l yX11_mask (Cond.code yX11_mask cX11_mask 3 (some .int) :: wsAll) rm_X11_mask (Pwr [.ref a_m, .int p1, .int p2] D cI cB cT (wd_m a_m a_m_refused a_m_codes a_m_noted a_m_marked a_m_masks a_m_text a_m_before a_m_ahead a_m_aside a_m_sure a_m_wrongs a_m_says a_m_evening a_m_images cI cB cT m_words m_kindNow m_secretNow m_guessed m_left m_wrong m_noteMany m_markMany m_typed m_readAt m_readNumber m_undoMany m_lastGuesses m_above m_below m_refused m_codes m_noted m_marked m_masks m_text m_before m_ahead m_aside m_sure m_wrongs m_says m_evening m_images) sz) (Qw (some (.int z.1)) D (wd_m a_m a_m_refused a_m_codes a_m_noted a_m_marked a_m_masks a_m_text a_m_before a_m_ahead a_m_aside a_m_sure a_m_wrongs a_m_says a_m_evening a_m_images cI cB cT m_words m_kindNow m_secretNow m_guessed m_left m_wrong m_noteMany m_markMany m_typed m_readAt m_readNumber m_undoMany m_lastGuesses m_above m_below z.2 m_codes m_noted m_marked m_masks m_text m_before m_ahead m_aside m_sure m_wrongs m_says m_evening m_images) (va_A (wd_m a_m a_m_refused a_m_codes a_m_noted a_m_marked a_m_masks a_m_text a_m_before a_m_ahead a_m_aside a_m_sure a_m_wrongs a_m_says a_m_evening a_m_images cI cB cT m_words m_kindNow m_secretNow m_guessed m_left m_wrong m_noteMany m_markMany m_typed m_readAt m_readNumber m_undoMany m_lastGuesses m_above m_below m_refused m_codes m_noted m_marked m_masks m_text m_before m_ahead m_aside m_sure m_wrongs m_says m_evening m_images) sz)) 0 0 (va_A (wd_m a_m a_m_refused a_m_codes a_m_noted a_m_marked a_m_masks a_m_text a_m_before a_m_ahead a_m_aside a_m_sure a_m_wrongs a_m_says a_m_evening a_m_images cI cB cT m_words m_kindNow m_secretNow m_guessed m_left m_wrong m_noteMany m_markMany m_typed m_readAt m_readNumber m_undoMany m_lastGuesses m_above m_below m_refused m_codes m_noted m_marked m_masks m_text m_before m_ahead m_aside m_sure m_wrongs m_says m_evening m_images) sz) := by
  refine wr_intro RX11 (by decide +kernel) rfl (Nat.le_of_ble_eq_true rfl) ?_
  intro p e s m below meth c ls A H locs CF hr hlk hG hP hD hS hA hl
  have hl : lv_has ls 3 [(0, .ref a_m), (1, .int p1), (2, .int p2)] := hl
  obtain ⟨hx, hb, hml, hown, hts⟩ := id CF
  unfold f_X11_mask at hf
  refine lv_aload_n hx hb dX11_mask_0 rfl (lv_at hl 0 rfl) ?_
  refine lv_iload_n hx hb dX11_mask_1 rfl (lv_at hl 1 rfl) ?_
  obtain ⟨o1, e2, hf⟩ := lp_bind hf
  refine ro_Vi (x := o1) (As := [.int p1]) (rest := []) CF (c_X11_isWord l D cI cB cT a_m a_m_refused a_m_codes a_m_noted a_m_marked a_m_masks a_m_text a_m_before a_m_ahead a_m_aside a_m_sure a_m_wrongs a_m_says a_m_evening a_m_images m_words m_kindNow m_secretNow m_guessed m_left m_wrong m_noteMany m_markMany m_typed m_readAt m_readNumber m_undoMany m_lastGuesses m_above m_below m_refused m_codes m_noted m_marked m_masks m_text m_before m_ahead m_aside m_sure m_wrongs m_says m_evening m_images p1 e2) ok_X11_isWord wm_1206 ⟨rfl, rfl, Nat.le_of_ble_eq_true rfl, Nat.le_of_ble_eq_true rfl⟩ hG hP 0 9 vq_9 rfl ce_m_0 rfl hl.1 rfl (Nat.le_of_ble_eq_true rfl) ⟨Nat.zero_le _, Nat.zero_le _⟩ dX11_mask_2 ?_
  refine lv_if_eq (tgt := 24) hx hb dX11_mask_5 (by decide) (fun c3 => ?_) (fun c3 => ?_)
  · have hf := tk c3 hf
    refine lv_aload_n hx hb dX11_mask_24 rfl (lv_at hl 0 rfl) ?_
    obtain ⟨o4, e5, hf⟩ := lp_bind hf
    refine wr_Wi (x := o4.1) (ws' := (wd_m a_m a_m_refused a_m_codes a_m_noted a_m_marked a_m_masks a_m_text a_m_before a_m_ahead a_m_aside a_m_sure a_m_wrongs a_m_says a_m_evening a_m_images cI cB cT m_words m_kindNow m_secretNow m_guessed m_left m_wrong m_noteMany m_markMany m_typed m_readAt m_readNumber m_undoMany m_lastGuesses m_above m_below o4.2 m_codes m_noted m_marked m_masks m_text m_before m_ahead m_aside m_sure m_wrongs m_says m_evening m_images)) (As := []) (rest := []) CF (c_X11_bad l D cI cB cT H.size a_m a_m_refused a_m_codes a_m_noted a_m_marked a_m_masks a_m_text a_m_before a_m_ahead a_m_aside a_m_sure a_m_wrongs a_m_says a_m_evening a_m_images m_words m_kindNow m_secretNow m_guessed m_left m_wrong m_noteMany m_markMany m_typed m_readAt m_readNumber m_undoMany m_lastGuesses m_above m_below m_refused m_codes m_noted m_marked m_masks m_text m_before m_ahead m_aside m_sure m_wrongs m_says m_evening m_images e5) ok_X11_bad wm_1020 ⟨rfl, rfl, Nat.le_of_ble_eq_true rfl, Nat.le_of_ble_eq_true rfl⟩ hG hP hD hS hA fs_m 0 9 vq_9 rfl ce_m_0 rfl hl.1 rfl (Nat.le_of_ble_eq_true rfl) ⟨Nat.zero_le _, Nat.zero_le _⟩ dX11_mask_25 (fun H locs hP hD hS => ?_)
    obtain rfl := Option.some.inj hf
    exact wr_iret CF hr hlk hP hS dX11_mask_28
  · have hf := fk c3 hf
    refine lv_iload_n hx hb dX11_mask_8 rfl (lv_at hl 2 rfl) ?_
    obtain ⟨o6, e7, hf⟩ := lp_bind hf
    refine ro_Si (x := o6) (As := [.int p2]) (rest := []) CF (c_X11_isLetterNumber l D cI cB cT p2 e7) ok_X11_isLetterNumber wm_1191 ⟨rfl, rfl, Nat.le_of_ble_eq_true rfl, Nat.le_of_ble_eq_true rfl⟩ hG wd_E_P rfl hl.1 rfl (Nat.le_of_ble_eq_true rfl) ⟨Nat.zero_le _, Nat.zero_le _⟩ dX11_mask_9 ?_
    refine lv_if_eq (tgt := 24) hx hb dX11_mask_12 (by decide) (fun c8 => ?_) (fun c8 => ?_)
    · have hf := tk c8 hf
      refine lv_aload_n hx hb dX11_mask_24 rfl (lv_at hl 0 rfl) ?_
      obtain ⟨o9, e10, hf⟩ := lp_bind hf
      refine wr_Wi (x := o9.1) (ws' := (wd_m a_m a_m_refused a_m_codes a_m_noted a_m_marked a_m_masks a_m_text a_m_before a_m_ahead a_m_aside a_m_sure a_m_wrongs a_m_says a_m_evening a_m_images cI cB cT m_words m_kindNow m_secretNow m_guessed m_left m_wrong m_noteMany m_markMany m_typed m_readAt m_readNumber m_undoMany m_lastGuesses m_above m_below o9.2 m_codes m_noted m_marked m_masks m_text m_before m_ahead m_aside m_sure m_wrongs m_says m_evening m_images)) (As := []) (rest := []) CF (c_X11_bad l D cI cB cT H.size a_m a_m_refused a_m_codes a_m_noted a_m_marked a_m_masks a_m_text a_m_before a_m_ahead a_m_aside a_m_sure a_m_wrongs a_m_says a_m_evening a_m_images m_words m_kindNow m_secretNow m_guessed m_left m_wrong m_noteMany m_markMany m_typed m_readAt m_readNumber m_undoMany m_lastGuesses m_above m_below m_refused m_codes m_noted m_marked m_masks m_text m_before m_ahead m_aside m_sure m_wrongs m_says m_evening m_images e10) ok_X11_bad wm_1020 ⟨rfl, rfl, Nat.le_of_ble_eq_true rfl, Nat.le_of_ble_eq_true rfl⟩ hG hP hD hS hA fs_m 0 9 vq_9 rfl ce_m_0 rfl hl.1 rfl (Nat.le_of_ble_eq_true rfl) ⟨Nat.zero_le _, Nat.zero_le _⟩ dX11_mask_25 (fun H locs hP hD hS => ?_)
      obtain rfl := Option.some.inj hf
      exact wr_iret CF hr hlk hP hS dX11_mask_28
    · have hf := fk c8 hf
      refine lv_aload_n hx hb dX11_mask_15 rfl (lv_at hl 0 rfl) ?_
      refine lv_iload_n hx hb dX11_mask_16 rfl (lv_at hl 1 rfl) ?_
      refine lv_iload_n hx hb dX11_mask_17 rfl (lv_at hl 2 rfl) ?_
      obtain ⟨o11, e12, hf⟩ := lp_bind hf
      refine ro_Vi (x := o11) (As := [.int p1, .int p2]) (rest := []) CF (c_X11_maskOf l D cI cB cT a_m a_m_refused a_m_codes a_m_noted a_m_marked a_m_masks a_m_text a_m_before a_m_ahead a_m_aside a_m_sure a_m_wrongs a_m_says a_m_evening a_m_images m_words m_kindNow m_secretNow m_guessed m_left m_wrong m_noteMany m_markMany m_typed m_readAt m_readNumber m_undoMany m_lastGuesses m_above m_below m_refused m_codes m_noted m_marked m_masks m_text m_before m_ahead m_aside m_sure m_wrongs m_says m_evening m_images p1 p2 e12) ok_X11_maskOf wm_1155 ⟨rfl, rfl, Nat.le_of_ble_eq_true rfl, Nat.le_of_ble_eq_true rfl⟩ hG hP 0 9 vq_9 rfl ce_m_0 rfl hl.1 rfl (Nat.le_of_ble_eq_true rfl) ⟨Nat.zero_le _, Nat.zero_le _⟩ dX11_mask_18 ?_
      refine lv_goto (tgt := 28) hx hb dX11_mask_21 (by decide) ?_
      obtain rfl := Option.some.inj hf
      exact wr_iret CF hr hlk hP hS dX11_mask_28
end M_X11_mask
section M_X11_answer
variable {p : Program} {l : Launch} {e : Env} {s : State} {m : MethodId} {args : Array Value} {below : List Frame} {meth : Method} {c : Code} {Q : State → Prop} {A : Nat → Prop} {D : va_G} {cI cB cT : ClassId}
variable {a_m a_m_refused a_m_codes a_m_noted a_m_marked a_m_masks a_m_text a_m_before a_m_ahead a_m_aside a_m_sure a_m_wrongs a_m_says a_m_evening a_m_images : Nat}
def rm_X11_answer : Room := { frames := 5, cells := 0, slots := 0, locals := 120 }
def f_X11_answer (m_words : Int32) (m_kindNow : Int32) (m_secretNow : Int32) (m_guessed : Int32) (m_left : Int32) (m_refused : (Nat → Int32)) (m_masks : (Nat → Int32)) (p1 : Int32) : Option (Int32 × (Nat → Int32)) := ((f_X11_isLetterNumber p1).bind fun o1 => (if o1 = 0 then ((f_X11_bad m_refused).bind fun o13 => some (o13.1, o13.2)) else ((f_X11_mayGuess m_guessed m_left p1).bind fun o4 => (if o4 = 0 then ((f_X11_no m_refused).bind fun o7 => some (o7.1, o7.2)) else ((f_X11_bits m_guessed).bind fun o9 => ((f_X11_answerBy m_words m_secretNow m_masks m_kindNow m_left o9 p1).bind fun o11 => some (o11, m_refused)))))))
set_option maxHeartbeats 4000000 in
set_option maxRecDepth 100000 in
theorem c_X11_answer (l : Launch) (D : va_G) (cI cB cT : ClassId) (sz : Nat) (a_m a_m_refused a_m_codes a_m_noted a_m_marked a_m_masks a_m_text a_m_before a_m_ahead a_m_aside a_m_sure a_m_wrongs a_m_says a_m_evening a_m_images : Nat) (m_words : Int32) (m_kindNow : Int32) (m_secretNow : Int32) (m_guessed : Int32) (m_left : Int32) (m_wrong : Int32) (m_noteMany : Int32) (m_markMany : Int32) (m_typed : Int32) (m_readAt : Int32) (m_readNumber : Int32) (m_undoMany : Int32) (m_lastGuesses : Int32) (m_above : Int64) (m_below : Int64) (m_refused : (Nat → Int32)) (m_codes : (Nat → Int32)) (m_noted : (Nat → Int32)) (m_marked : (Nat → Int32)) (m_masks : (Nat → Int32)) (m_text : (Nat → Int32)) (m_before : (Nat → Int32)) (m_ahead : (Nat → Int32)) (m_aside : (Nat → Int32)) (m_sure : (Nat → Int32)) (m_wrongs : (Nat → Int32)) (m_says : (Nat → Int32)) (m_evening : (Nat → Int32)) (m_images : (Nat → Int32)) (p1 : Int32) {z : Int32 × (Nat → Int32)} (hf : f_X11_answer m_words m_kindNow m_secretNow m_guessed m_left m_refused m_masks p1 = some z) :
    Met l yX11_answer (Cond.code yX11_answer cX11_answer 2 (some .int) :: wsAll) rm_X11_answer (Pwr [.ref a_m, .int p1] D cI cB cT (wd_m a_m a_m_refused a_m_codes a_m_noted a_m_marked a_m_masks a_m_text a_m_before a_m_ahead a_m_aside a_m_sure a_m_wrongs a_m_says a_m_evening a_m_images cI cB cT m_words m_kindNow m_secretNow m_guessed m_left m_wrong m_noteMany m_markMany m_typed m_readAt m_readNumber m_undoMany m_lastGuesses m_above m_below m_refused m_codes m_noted m_marked m_masks m_text m_before m_ahead m_aside m_sure m_wrongs m_says m_evening m_images) sz) (Qw (some (.int z.1)) D (wd_m a_m a_m_refused a_m_codes a_m_noted a_m_marked a_m_masks a_m_text a_m_before a_m_ahead a_m_aside a_m_sure a_m_wrongs a_m_says a_m_evening a_m_images cI cB cT m_words m_kindNow m_secretNow m_guessed m_left m_wrong m_noteMany m_markMany m_typed m_readAt m_readNumber m_undoMany m_lastGuesses m_above m_below z.2 m_codes m_noted m_marked m_masks m_text m_before m_ahead m_aside m_sure m_wrongs m_says m_evening m_images) (va_A (wd_m a_m a_m_refused a_m_codes a_m_noted a_m_marked a_m_masks a_m_text a_m_before a_m_ahead a_m_aside a_m_sure a_m_wrongs a_m_says a_m_evening a_m_images cI cB cT m_words m_kindNow m_secretNow m_guessed m_left m_wrong m_noteMany m_markMany m_typed m_readAt m_readNumber m_undoMany m_lastGuesses m_above m_below m_refused m_codes m_noted m_marked m_masks m_text m_before m_ahead m_aside m_sure m_wrongs m_says m_evening m_images) sz)) 0 0 (va_A (wd_m a_m a_m_refused a_m_codes a_m_noted a_m_marked a_m_masks a_m_text a_m_before a_m_ahead a_m_aside a_m_sure a_m_wrongs a_m_says a_m_evening a_m_images cI cB cT m_words m_kindNow m_secretNow m_guessed m_left m_wrong m_noteMany m_markMany m_typed m_readAt m_readNumber m_undoMany m_lastGuesses m_above m_below m_refused m_codes m_noted m_marked m_masks m_text m_before m_ahead m_aside m_sure m_wrongs m_says m_evening m_images) sz) := by
  refine wr_intro RX11 (by decide +kernel) rfl (Nat.le_of_ble_eq_true rfl) ?_
  intro p e s m below meth c ls A H locs CF hr hlk hG hP hD hS hA hl
  have hl : lv_has ls 2 [(0, .ref a_m), (1, .int p1)] := hl
  obtain ⟨hx, hb, hml, hown, hts⟩ := id CF
  unfold f_X11_answer at hf
  refine lv_iload_n hx hb dX11_answer_0 rfl (lv_at hl 1 rfl) ?_
  obtain ⟨o1, e2, hf⟩ := lp_bind hf
  refine ro_Si (x := o1) (As := [.int p1]) (rest := []) CF (c_X11_isLetterNumber l D cI cB cT p1 e2) ok_X11_isLetterNumber wm_1191 ⟨rfl, rfl, Nat.le_of_ble_eq_true rfl, Nat.le_of_ble_eq_true rfl⟩ hG wd_E_P rfl hl.1 rfl (Nat.le_of_ble_eq_true rfl) ⟨Nat.zero_le _, Nat.zero_le _⟩ dX11_answer_1 ?_
  refine lv_if_ne (tgt := 12) hx hb dX11_answer_4 (by decide) (fun c3 => ?_) (fun c3 => ?_)
  · have hf := fk c3 hf
    refine lv_aload_n hx hb dX11_answer_12 rfl (lv_at hl 0 rfl) ?_
    refine lv_iload_n hx hb dX11_answer_13 rfl (lv_at hl 1 rfl) ?_
    obtain ⟨o4, e5, hf⟩ := lp_bind hf
    refine ro_Vi (x := o4) (As := [.int p1]) (rest := []) CF (c_X11_mayGuess l D cI cB cT a_m a_m_refused a_m_codes a_m_noted a_m_marked a_m_masks a_m_text a_m_before a_m_ahead a_m_aside a_m_sure a_m_wrongs a_m_says a_m_evening a_m_images m_words m_kindNow m_secretNow m_guessed m_left m_wrong m_noteMany m_markMany m_typed m_readAt m_readNumber m_undoMany m_lastGuesses m_above m_below m_refused m_codes m_noted m_marked m_masks m_text m_before m_ahead m_aside m_sure m_wrongs m_says m_evening m_images p1 e5) ok_X11_mayGuess wm_1194 ⟨rfl, rfl, Nat.le_of_ble_eq_true rfl, Nat.le_of_ble_eq_true rfl⟩ hG hP 0 9 vq_9 rfl ce_m_0 rfl hl.1 rfl (Nat.le_of_ble_eq_true rfl) ⟨Nat.zero_le _, Nat.zero_le _⟩ dX11_answer_14 ?_
    refine lv_if_eq (tgt := 43) hx hb dX11_answer_17 (by decide) (fun c6 => ?_) (fun c6 => ?_)
    · have hf := tk c6 hf
      refine lv_aload_n hx hb dX11_answer_43 rfl (lv_at hl 0 rfl) ?_
      obtain ⟨o7, e8, hf⟩ := lp_bind hf
      refine wr_Wi (x := o7.1) (ws' := (wd_m a_m a_m_refused a_m_codes a_m_noted a_m_marked a_m_masks a_m_text a_m_before a_m_ahead a_m_aside a_m_sure a_m_wrongs a_m_says a_m_evening a_m_images cI cB cT m_words m_kindNow m_secretNow m_guessed m_left m_wrong m_noteMany m_markMany m_typed m_readAt m_readNumber m_undoMany m_lastGuesses m_above m_below o7.2 m_codes m_noted m_marked m_masks m_text m_before m_ahead m_aside m_sure m_wrongs m_says m_evening m_images)) (As := []) (rest := []) CF (c_X11_no l D cI cB cT H.size a_m a_m_refused a_m_codes a_m_noted a_m_marked a_m_masks a_m_text a_m_before a_m_ahead a_m_aside a_m_sure a_m_wrongs a_m_says a_m_evening a_m_images m_words m_kindNow m_secretNow m_guessed m_left m_wrong m_noteMany m_markMany m_typed m_readAt m_readNumber m_undoMany m_lastGuesses m_above m_below m_refused m_codes m_noted m_marked m_masks m_text m_before m_ahead m_aside m_sure m_wrongs m_says m_evening m_images e8) ok_X11_no wm_1036 ⟨rfl, rfl, Nat.le_of_ble_eq_true rfl, Nat.le_of_ble_eq_true rfl⟩ hG hP hD hS hA fs_m 0 9 vq_9 rfl ce_m_0 rfl hl.1 rfl (Nat.le_of_ble_eq_true rfl) ⟨Nat.zero_le _, Nat.zero_le _⟩ dX11_answer_44 (fun H locs hP hD hS => ?_)
      obtain rfl := Option.some.inj hf
      exact wr_iret CF hr hlk hP hS dX11_answer_47
    · have hf := fk c6 hf
      refine lv_aload_n hx hb dX11_answer_20 rfl (lv_at hl 0 rfl) ?_
      refine lv_aload_n hx hb dX11_answer_21 rfl (lv_at hl 0 rfl) ?_
      refine va_get (D := D) (ci := 9) (v := .int m_kindNow) (C := RX11) (T := TX11) (N := 29) hx hb hts fin_X11 hown hG.1 hP 0 ce_m_0 vq_9 2 (by decide) (hts _ wm_924) (fun _ h9 => h9) rfl dX11_answer_22 ?_
      refine lv_aload_n hx hb dX11_answer_25 rfl (lv_at hl 0 rfl) ?_
      refine va_get (D := D) (ci := 9) (v := .int m_left) (C := RX11) (T := TX11) (N := 29) hx hb hts fin_X11 hown hG.1 hP 0 ce_m_0 vq_9 5 (by decide) (hts _ wm_927) (fun _ h9 => h9) rfl dX11_answer_26 ?_
      refine lv_aload_n hx hb dX11_answer_29 rfl (lv_at hl 0 rfl) ?_
      refine va_get (D := D) (ci := 9) (v := .int m_guessed) (C := RX11) (T := TX11) (N := 29) hx hb hts fin_X11 hown hG.1 hP 0 ce_m_0 vq_9 4 (by decide) (hts _ wm_926) (fun _ h9 => h9) rfl dX11_answer_30 ?_
      obtain ⟨o9, e10, hf⟩ := lp_bind hf
      refine ro_Si (x := o9) (As := [.int m_guessed]) (rest := [.int m_left, .int m_kindNow, .ref a_m]) CF (c_X11_bits l D cI cB cT m_guessed e10) ok_X11_bits wm_1144 ⟨rfl, rfl, Nat.le_of_ble_eq_true rfl, Nat.le_of_ble_eq_true rfl⟩ hG wd_E_P rfl hl.1 rfl (Nat.le_of_ble_eq_true rfl) ⟨Nat.zero_le _, Nat.zero_le _⟩ dX11_answer_33 ?_
      refine lv_iload_n hx hb dX11_answer_36 rfl (lv_at hl 1 rfl) ?_
      obtain ⟨o11, e12, hf⟩ := lp_bind hf
      refine ro_Vi (x := o11) (As := [.int m_kindNow, .int m_left, .int o9, .int p1]) (rest := []) CF (c_X11_answerBy l D cI cB cT a_m a_m_refused a_m_codes a_m_noted a_m_marked a_m_masks a_m_text a_m_before a_m_ahead a_m_aside a_m_sure a_m_wrongs a_m_says a_m_evening a_m_images m_words m_kindNow m_secretNow m_guessed m_left m_wrong m_noteMany m_markMany m_typed m_readAt m_readNumber m_undoMany m_lastGuesses m_above m_below m_refused m_codes m_noted m_marked m_masks m_text m_before m_ahead m_aside m_sure m_wrongs m_says m_evening m_images m_kindNow m_left o9 p1 e12) ok_X11_answerBy wm_1147 ⟨rfl, rfl, Nat.le_of_ble_eq_true rfl, Nat.le_of_ble_eq_true rfl⟩ hG hP 0 9 vq_9 rfl ce_m_0 rfl hl.1 rfl (Nat.le_of_ble_eq_true rfl) ⟨Nat.zero_le _, Nat.zero_le _⟩ dX11_answer_37 ?_
      refine lv_goto (tgt := 47) hx hb dX11_answer_40 (by decide) ?_
      obtain rfl := Option.some.inj hf
      exact wr_iret CF hr hlk hP hS dX11_answer_47
  · have hf := tk c3 hf
    refine lv_aload_n hx hb dX11_answer_7 rfl (lv_at hl 0 rfl) ?_
    obtain ⟨o13, e14, hf⟩ := lp_bind hf
    refine wr_Wi (x := o13.1) (ws' := (wd_m a_m a_m_refused a_m_codes a_m_noted a_m_marked a_m_masks a_m_text a_m_before a_m_ahead a_m_aside a_m_sure a_m_wrongs a_m_says a_m_evening a_m_images cI cB cT m_words m_kindNow m_secretNow m_guessed m_left m_wrong m_noteMany m_markMany m_typed m_readAt m_readNumber m_undoMany m_lastGuesses m_above m_below o13.2 m_codes m_noted m_marked m_masks m_text m_before m_ahead m_aside m_sure m_wrongs m_says m_evening m_images)) (As := []) (rest := []) CF (c_X11_bad l D cI cB cT H.size a_m a_m_refused a_m_codes a_m_noted a_m_marked a_m_masks a_m_text a_m_before a_m_ahead a_m_aside a_m_sure a_m_wrongs a_m_says a_m_evening a_m_images m_words m_kindNow m_secretNow m_guessed m_left m_wrong m_noteMany m_markMany m_typed m_readAt m_readNumber m_undoMany m_lastGuesses m_above m_below m_refused m_codes m_noted m_marked m_masks m_text m_before m_ahead m_aside m_sure m_wrongs m_says m_evening m_images e14) ok_X11_bad wm_1020 ⟨rfl, rfl, Nat.le_of_ble_eq_true rfl, Nat.le_of_ble_eq_true rfl⟩ hG hP hD hS hA fs_m 0 9 vq_9 rfl ce_m_0 rfl hl.1 rfl (Nat.le_of_ble_eq_true rfl) ⟨Nat.zero_le _, Nat.zero_le _⟩ dX11_answer_8 (fun H locs hP hD hS => ?_)
    obtain rfl := Option.some.inj hf
    exact wr_iret CF hr hlk hP hS dX11_answer_11
end M_X11_answer
section M_X11_partsBy
variable {p : Program} {l : Launch} {e : Env} {s : State} {m : MethodId} {args : Array Value} {below : List Frame} {meth : Method} {c : Code} {Q : State → Prop} {A : Nat → Prop} {D : va_G} {cI cB cT : ClassId}
variable {a_m a_m_refused a_m_codes a_m_noted a_m_marked a_m_masks a_m_text a_m_before a_m_ahead a_m_aside a_m_sure a_m_wrongs a_m_says a_m_evening a_m_images : Nat}
def rm_X11_partsBy : Room := { frames := 2, cells := 0, slots := 0, locals := 47 }
def B_X11_partsBy_9 (m_words : Int32) (m_masks : (Nat → Int32)) (x1 : Int32) (x2 : Int32) (x4 : Int32) (x5 : Int32) (x6 : Int32) : Option ((Int32 × Int32 × Int32) ⊕ (Int32 × Int32)) := (if (16 : Int32) ≤ x6 then some (Sum.inr (x4, x5)) else ((f_X11_haveMask m_words m_masks x1 x2 x6).bind fun o2 => (if o2 ≤ 0 then (if o2 ≤ x5 then some (Sum.inl ((x4 + (0 : Int32)), x5, (x6 + (1 : Int32)))) else some (Sum.inl ((x4 + (0 : Int32)), o2, (x6 + (1 : Int32))))) else (if o2 ≤ x5 then some (Sum.inl ((x4 + (1 : Int32)), x5, (x6 + (1 : Int32)))) else some (Sum.inl ((x4 + (1 : Int32)), o2, (x6 + (1 : Int32))))))))
def f_X11_partsBy (m_words : Int32) (m_masks : (Nat → Int32)) (p1 : Int32) (p2 : Int32) (p3 : Int32) : Option (Int32) := ((lp (fun v => B_X11_partsBy_9 m_words m_masks p1 p2 v.1 v.2.1 v.2.2) KN ((0 : Int32), (0 : Int32), (0 : Int32))).bind fun o7 => (if p3 = 0 then some o7.1 else some o7.2))
set_option maxHeartbeats 4000000 in
set_option maxRecDepth 100000 in
theorem B_X11_partsBy_9_W {m_words : Int32} {m_kindNow : Int32} {m_secretNow : Int32} {m_guessed : Int32} {m_left : Int32} {m_wrong : Int32} {m_noteMany : Int32} {m_markMany : Int32} {m_typed : Int32} {m_readAt : Int32} {m_readNumber : Int32} {m_undoMany : Int32} {m_lastGuesses : Int32} {m_above : Int64} {m_below : Int64} {m_refused : (Nat → Int32)} {m_codes : (Nat → Int32)} {m_noted : (Nat → Int32)} {m_marked : (Nat → Int32)} {m_masks : (Nat → Int32)} {m_text : (Nat → Int32)} {m_before : (Nat → Int32)} {m_ahead : (Nat → Int32)} {m_aside : (Nat → Int32)} {m_sure : (Nat → Int32)} {m_wrongs : (Nat → Int32)} {m_says : (Nat → Int32)} {m_evening : (Nat → Int32)} {m_images : (Nat → Int32)} {x1 : Int32} {x2 : Int32} {x3 : Int32} {x4 : Int32} {x5 : Int32} {x6 : Int32} (CF : CallFix p m c cX11_partsBy 8 s args wsAll RX11) (hG : Gd D cI cB cT s) {z : (Int32 × Int32 × Int32) ⊕ (Int32 × Int32)} (hk : ∀ (v' : Int32 × Int32 × Int32) (ls : Array Slot), z = Sum.inl v' → lv_has ls 8 [(0, .ref a_m), (1, .int x1), (2, .int x2), (3, .int x3), (4, .int (v'.1)), (5, .int (v'.2.1)), (6, .int (v'.2.2))] → W p l e rm_X11_partsBy s m args below meth c s.heap [] 0 0 Q (F0 m 9 ls [])) (hx0 : ∀ (o' : Int32 × Int32) (ls : Array Slot), z = Sum.inr o' → lv_has ls 8 [(3, .int x3), (4, .int (o'.1)), (5, .int (o'.2))] → W p l e rm_X11_partsBy s m args below meth c s.heap [] 0 0 Q (F0 m 63 ls [])) {ls : Array Slot} (hP : va_P D vwCl (wd_m a_m a_m_refused a_m_codes a_m_noted a_m_marked a_m_masks a_m_text a_m_before a_m_ahead a_m_aside a_m_sure a_m_wrongs a_m_says a_m_evening a_m_images cI cB cT m_words m_kindNow m_secretNow m_guessed m_left m_wrong m_noteMany m_markMany m_typed m_readAt m_readNumber m_undoMany m_lastGuesses m_above m_below m_refused m_codes m_noted m_marked m_masks m_text m_before m_ahead m_aside m_sure m_wrongs m_says m_evening m_images) s.heap) (hl : lv_has ls 8 [(0, .ref a_m), (1, .int x1), (2, .int x2), (3, .int x3), (4, .int x4), (5, .int x5), (6, .int x6)]) (hf : B_X11_partsBy_9 m_words m_masks x1 x2 x4 x5 x6 = some z) : W p l e rm_X11_partsBy s m args below meth c s.heap [] 0 0 Q (F0 m 9 ls []) := by
  obtain ⟨hx, hb, hml, hown, hts⟩ := id CF
  unfold B_X11_partsBy_9 at hf
  refine lv_iload hx hb dX11_partsBy_9 (lv_at hl 6 rfl) ?_
  refine lv_bipush (v := (16 : Int32)) hx hb dX11_partsBy_11 (by decide) ?_
  refine lv_icmp_ge (tgt := 63) hx hb dX11_partsBy_13 (by decide) (fun c1 => ?_) (fun c1 => ?_)
  · have hf := tk c1 hf
    exact hx0 _ _ (Option.some.inj hf).symm (lv_sub hl [3, 4, 5] rfl)
  · have hf := fk c1 hf
    refine lv_aload_n hx hb dX11_partsBy_16 rfl (lv_at hl 0 rfl) ?_
    refine lv_iload_n hx hb dX11_partsBy_17 rfl (lv_at hl 1 rfl) ?_
    refine lv_iload_n hx hb dX11_partsBy_18 rfl (lv_at hl 2 rfl) ?_
    refine lv_iload hx hb dX11_partsBy_19 (lv_at hl 6 rfl) ?_
    obtain ⟨o2, e3, hf⟩ := lp_bind hf
    refine ro_Vi (x := o2) (As := [.int x1, .int x2, .int x6]) (rest := []) CF (c_X11_haveMask l D cI cB cT a_m a_m_refused a_m_codes a_m_noted a_m_marked a_m_masks a_m_text a_m_before a_m_ahead a_m_aside a_m_sure a_m_wrongs a_m_says a_m_evening a_m_images m_words m_kindNow m_secretNow m_guessed m_left m_wrong m_noteMany m_markMany m_typed m_readAt m_readNumber m_undoMany m_lastGuesses m_above m_below m_refused m_codes m_noted m_marked m_masks m_text m_before m_ahead m_aside m_sure m_wrongs m_says m_evening m_images x1 x2 x6 e3) ok_X11_haveMask wm_1163 ⟨rfl, rfl, Nat.le_of_ble_eq_true rfl, Nat.le_of_ble_eq_true rfl⟩ hG hP 0 9 vq_9 rfl ce_m_0 rfl hl.1 rfl (Nat.le_of_ble_eq_true rfl) ⟨Nat.zero_le _, Nat.zero_le _⟩ dX11_partsBy_21 ?_
    refine lv_istore (lv' := [(7, .int o2), (0, .ref a_m), (1, .int x1), (2, .int x2), (3, .int x3), (4, .int x4), (5, .int x5), (6, .int x6)]) hx hb dX11_partsBy_24 hl (by decide) rfl (fun ls hl => ?_)
    refine lv_iload hx hb dX11_partsBy_26 (lv_at hl 5 rfl) ?_
    refine lv_iload hx hb dX11_partsBy_28 (lv_at hl 0 rfl) ?_
    refine lv_if_le (tgt := 37) hx hb dX11_partsBy_30 (by decide) (fun c4 => ?_) (fun c4 => ?_)
    · have hf := tk c4 hf
      refine lv_iconst (v := (0 : Int32)) hx hb dX11_partsBy_37 (by decide) ?_
      refine lv_iadd hx hb dX11_partsBy_38 ?_
      refine lv_istore (lv' := [(4, .int (x4 + (0 : Int32))), (7, .int o2), (0, .ref a_m), (1, .int x1), (2, .int x2), (3, .int x3), (5, .int x5), (6, .int x6)]) hx hb dX11_partsBy_39 hl (by decide) rfl (fun ls hl => ?_)
      refine lv_iload hx hb dX11_partsBy_41 (lv_at hl 1 rfl) ?_
      refine lv_iload hx hb dX11_partsBy_43 (lv_at hl 6 rfl) ?_
      refine lv_icmp_le (tgt := 53) hx hb dX11_partsBy_45 (by decide) (fun c5 => ?_) (fun c5 => ?_)
      · have hf := tk c5 hf
        refine lv_iload hx hb dX11_partsBy_53 (lv_at hl 6 rfl) ?_
        refine lv_istore (lv' := [(5, .int x5), (4, .int (x4 + (0 : Int32))), (7, .int o2), (0, .ref a_m), (1, .int x1), (2, .int x2), (3, .int x3), (6, .int x6)]) hx hb dX11_partsBy_55 hl (by decide) rfl (fun ls hl => ?_)
        refine lv_iinc (v := (x6 + (1 : Int32))) (lv' := [(6, .int (x6 + (1 : Int32))), (5, .int x5), (4, .int (x4 + (0 : Int32))), (7, .int o2), (0, .ref a_m), (1, .int x1), (2, .int x2), (3, .int x3)]) hx hb dX11_partsBy_57 hl (k := 7) rfl (iinc_eq (by decide)) (by decide) rfl (fun ls hl => ?_)
        refine lv_goto (tgt := 9) hx hb dX11_partsBy_60 (by decide) ?_
        exact hk _ _ (Option.some.inj hf).symm (lv_sub hl [4, 5, 6, 7, 2, 1, 0] rfl)
      · have hf := fk c5 hf
        refine lv_iload hx hb dX11_partsBy_48 (lv_at hl 1 rfl) ?_
        refine lv_goto (tgt := 55) hx hb dX11_partsBy_50 (by decide) ?_
        refine lv_istore (lv' := [(5, .int o2), (4, .int (x4 + (0 : Int32))), (7, .int o2), (0, .ref a_m), (1, .int x1), (2, .int x2), (3, .int x3), (6, .int x6)]) hx hb dX11_partsBy_55 hl (by decide) rfl (fun ls hl => ?_)
        refine lv_iinc (v := (x6 + (1 : Int32))) (lv' := [(6, .int (x6 + (1 : Int32))), (5, .int o2), (4, .int (x4 + (0 : Int32))), (7, .int o2), (0, .ref a_m), (1, .int x1), (2, .int x2), (3, .int x3)]) hx hb dX11_partsBy_57 hl (k := 7) rfl (iinc_eq (by decide)) (by decide) rfl (fun ls hl => ?_)
        refine lv_goto (tgt := 9) hx hb dX11_partsBy_60 (by decide) ?_
        exact hk _ _ (Option.some.inj hf).symm (lv_sub hl [4, 5, 6, 7, 2, 1, 0] rfl)
    · have hf := fk c4 hf
      refine lv_iconst (v := (1 : Int32)) hx hb dX11_partsBy_33 (by decide) ?_
      refine lv_goto (tgt := 38) hx hb dX11_partsBy_34 (by decide) ?_
      refine lv_iadd hx hb dX11_partsBy_38 ?_
      refine lv_istore (lv' := [(4, .int (x4 + (1 : Int32))), (7, .int o2), (0, .ref a_m), (1, .int x1), (2, .int x2), (3, .int x3), (5, .int x5), (6, .int x6)]) hx hb dX11_partsBy_39 hl (by decide) rfl (fun ls hl => ?_)
      refine lv_iload hx hb dX11_partsBy_41 (lv_at hl 1 rfl) ?_
      refine lv_iload hx hb dX11_partsBy_43 (lv_at hl 6 rfl) ?_
      refine lv_icmp_le (tgt := 53) hx hb dX11_partsBy_45 (by decide) (fun c6 => ?_) (fun c6 => ?_)
      · have hf := tk c6 hf
        refine lv_iload hx hb dX11_partsBy_53 (lv_at hl 6 rfl) ?_
        refine lv_istore (lv' := [(5, .int x5), (4, .int (x4 + (1 : Int32))), (7, .int o2), (0, .ref a_m), (1, .int x1), (2, .int x2), (3, .int x3), (6, .int x6)]) hx hb dX11_partsBy_55 hl (by decide) rfl (fun ls hl => ?_)
        refine lv_iinc (v := (x6 + (1 : Int32))) (lv' := [(6, .int (x6 + (1 : Int32))), (5, .int x5), (4, .int (x4 + (1 : Int32))), (7, .int o2), (0, .ref a_m), (1, .int x1), (2, .int x2), (3, .int x3)]) hx hb dX11_partsBy_57 hl (k := 7) rfl (iinc_eq (by decide)) (by decide) rfl (fun ls hl => ?_)
        refine lv_goto (tgt := 9) hx hb dX11_partsBy_60 (by decide) ?_
        exact hk _ _ (Option.some.inj hf).symm (lv_sub hl [4, 5, 6, 7, 2, 1, 0] rfl)
      · have hf := fk c6 hf
        refine lv_iload hx hb dX11_partsBy_48 (lv_at hl 1 rfl) ?_
        refine lv_goto (tgt := 55) hx hb dX11_partsBy_50 (by decide) ?_
        refine lv_istore (lv' := [(5, .int o2), (4, .int (x4 + (1 : Int32))), (7, .int o2), (0, .ref a_m), (1, .int x1), (2, .int x2), (3, .int x3), (6, .int x6)]) hx hb dX11_partsBy_55 hl (by decide) rfl (fun ls hl => ?_)
        refine lv_iinc (v := (x6 + (1 : Int32))) (lv' := [(6, .int (x6 + (1 : Int32))), (5, .int o2), (4, .int (x4 + (1 : Int32))), (7, .int o2), (0, .ref a_m), (1, .int x1), (2, .int x2), (3, .int x3)]) hx hb dX11_partsBy_57 hl (k := 7) rfl (iinc_eq (by decide)) (by decide) rfl (fun ls hl => ?_)
        refine lv_goto (tgt := 9) hx hb dX11_partsBy_60 (by decide) ?_
        exact hk _ _ (Option.some.inj hf).symm (lv_sub hl [4, 5, 6, 7, 2, 1, 0] rfl)
set_option maxHeartbeats 4000000 in
set_option maxRecDepth 100000 in
theorem L_X11_partsBy_9_W {m_words : Int32} {m_kindNow : Int32} {m_secretNow : Int32} {m_guessed : Int32} {m_left : Int32} {m_wrong : Int32} {m_noteMany : Int32} {m_markMany : Int32} {m_typed : Int32} {m_readAt : Int32} {m_readNumber : Int32} {m_undoMany : Int32} {m_lastGuesses : Int32} {m_above : Int64} {m_below : Int64} {m_refused : (Nat → Int32)} {m_codes : (Nat → Int32)} {m_noted : (Nat → Int32)} {m_marked : (Nat → Int32)} {m_masks : (Nat → Int32)} {m_text : (Nat → Int32)} {m_before : (Nat → Int32)} {m_ahead : (Nat → Int32)} {m_aside : (Nat → Int32)} {m_sure : (Nat → Int32)} {m_wrongs : (Nat → Int32)} {m_says : (Nat → Int32)} {m_evening : (Nat → Int32)} {m_images : (Nat → Int32)} {x1 : Int32} {x2 : Int32} {x3 : Int32} (CF : CallFix p m c cX11_partsBy 8 s args wsAll RX11) (hG : Gd D cI cB cT s) {o : Int32 × Int32} (hx0 : ∀ (ls : Array Slot), lv_has ls 8 [(3, .int x3), (4, .int o.1), (5, .int o.2)] → W p l e rm_X11_partsBy s m args below meth c s.heap [] 0 0 Q (F0 m 63 ls [])) : ∀ (n : Nat) (x4 : Int32) (x5 : Int32) (x6 : Int32) (ls : Array Slot), va_P D vwCl (wd_m a_m a_m_refused a_m_codes a_m_noted a_m_marked a_m_masks a_m_text a_m_before a_m_ahead a_m_aside a_m_sure a_m_wrongs a_m_says a_m_evening a_m_images cI cB cT m_words m_kindNow m_secretNow m_guessed m_left m_wrong m_noteMany m_markMany m_typed m_readAt m_readNumber m_undoMany m_lastGuesses m_above m_below m_refused m_codes m_noted m_marked m_masks m_text m_before m_ahead m_aside m_sure m_wrongs m_says m_evening m_images) s.heap → lv_has ls 8 [(0, .ref a_m), (1, .int x1), (2, .int x2), (3, .int x3), (4, .int x4), (5, .int x5), (6, .int x6)] → lp (fun v => B_X11_partsBy_9 m_words m_masks x1 x2 v.1 v.2.1 v.2.2) n (x4, x5, x6) = some o → W p l e rm_X11_partsBy s m args below meth c s.heap [] 0 0 Q (F0 m 9 ls []) := by
  intro n
  induction n with
  | zero =>
    intro x4 x5 x6 ls hP hl hf
    exact (lp_zero hf).elim
  | succ n ih =>
    intro x4 x5 x6 ls hP hl hf
    obtain ⟨z, hz, hf⟩ := lp_succ hf
    refine B_X11_partsBy_9_W CF hG ?_ ?_ hP hl hz
    · intro v' ls ez hl
      rcases hf with ⟨v2, ev, hf⟩ | ev
      · cases Sum.inl.inj (ez.symm.trans ev)
        exact ih v'.1 v'.2.1 v'.2.2 ls hP hl hf
      · exact (lp_lr (ez.symm.trans ev)).elim
    · intro o' ls ez hl
      rcases hf with ⟨v2, ev, hf⟩ | ev
      · exact (lp_lr (ev.symm.trans ez)).elim
      · cases Sum.inr.inj (ez.symm.trans ev)
        exact hx0 ls  hl
set_option maxHeartbeats 4000000 in
set_option maxRecDepth 100000 in
theorem c_X11_partsBy (l : Launch) (D : va_G) (cI cB cT : ClassId) (a_m a_m_refused a_m_codes a_m_noted a_m_marked a_m_masks a_m_text a_m_before a_m_ahead a_m_aside a_m_sure a_m_wrongs a_m_says a_m_evening a_m_images : Nat) (m_words : Int32) (m_kindNow : Int32) (m_secretNow : Int32) (m_guessed : Int32) (m_left : Int32) (m_wrong : Int32) (m_noteMany : Int32) (m_markMany : Int32) (m_typed : Int32) (m_readAt : Int32) (m_readNumber : Int32) (m_undoMany : Int32) (m_lastGuesses : Int32) (m_above : Int64) (m_below : Int64) (m_refused : (Nat → Int32)) (m_codes : (Nat → Int32)) (m_noted : (Nat → Int32)) (m_marked : (Nat → Int32)) (m_masks : (Nat → Int32)) (m_text : (Nat → Int32)) (m_before : (Nat → Int32)) (m_ahead : (Nat → Int32)) (m_aside : (Nat → Int32)) (m_sure : (Nat → Int32)) (m_wrongs : (Nat → Int32)) (m_says : (Nat → Int32)) (m_evening : (Nat → Int32)) (m_images : (Nat → Int32)) (p1 : Int32) (p2 : Int32) (p3 : Int32) {z : Int32} (hf : f_X11_partsBy m_words m_masks p1 p2 p3 = some z) :
    Met l yX11_partsBy (Cond.code yX11_partsBy cX11_partsBy 8 (some .int) :: wsAll) rm_X11_partsBy (Pro [.ref a_m, .int p1, .int p2, .int p3] D cI cB cT (wd_m a_m a_m_refused a_m_codes a_m_noted a_m_marked a_m_masks a_m_text a_m_before a_m_ahead a_m_aside a_m_sure a_m_wrongs a_m_says a_m_evening a_m_images cI cB cT m_words m_kindNow m_secretNow m_guessed m_left m_wrong m_noteMany m_markMany m_typed m_readAt m_readNumber m_undoMany m_lastGuesses m_above m_below m_refused m_codes m_noted m_marked m_masks m_text m_before m_ahead m_aside m_sure m_wrongs m_says m_evening m_images)) (Qr (some (.int z))) 0 0 (fun _ => False) := by
  refine ro_intro RX11 (by decide +kernel) rfl (Nat.le_of_ble_eq_true rfl) ?_
  intro p e s m below meth c ls CF hr hlk hG hP hl
  have hl : lv_has ls 8 [(0, .ref a_m), (1, .int p1), (2, .int p2), (3, .int p3)] := hl
  obtain ⟨hx, hb, hml, hown, hts⟩ := id CF
  unfold f_X11_partsBy at hf
  refine lv_iconst (v := (0 : Int32)) hx hb dX11_partsBy_0 (by decide) ?_
  refine lv_istore (lv' := [(4, .int (0 : Int32)), (0, .ref a_m), (1, .int p1), (2, .int p2), (3, .int p3)]) hx hb dX11_partsBy_1 hl (by decide) rfl (fun ls hl => ?_)
  refine lv_iconst (v := (0 : Int32)) hx hb dX11_partsBy_3 (by decide) ?_
  refine lv_istore (lv' := [(5, .int (0 : Int32)), (4, .int (0 : Int32)), (0, .ref a_m), (1, .int p1), (2, .int p2), (3, .int p3)]) hx hb dX11_partsBy_4 hl (by decide) rfl (fun ls hl => ?_)
  refine lv_iconst (v := (0 : Int32)) hx hb dX11_partsBy_6 (by decide) ?_
  refine lv_istore (lv' := [(6, .int (0 : Int32)), (5, .int (0 : Int32)), (4, .int (0 : Int32)), (0, .ref a_m), (1, .int p1), (2, .int p2), (3, .int p3)]) hx hb dX11_partsBy_7 hl (by decide) rfl (fun ls hl => ?_)
  obtain ⟨o7, e8, hf⟩ := lp_bind hf
  refine L_X11_partsBy_9_W CF hG ?_ KN _ _ _ _ hP (lv_sub hl [3, 4, 5, 6, 2, 1, 0] rfl) e8
  intro ls hl
  refine lv_iload_n hx hb dX11_partsBy_63 rfl (lv_at hl 0 rfl) ?_
  refine lv_if_eq (tgt := 72) hx hb dX11_partsBy_64 (by decide) (fun c9 => ?_) (fun c9 => ?_)
  · have hf := tk c9 hf
    refine lv_iload hx hb dX11_partsBy_72 (lv_at hl 1 rfl) ?_
    obtain rfl := Option.some.inj hf
    exact ro_iret CF hr hlk dX11_partsBy_74
  · have hf := fk c9 hf
    refine lv_iload hx hb dX11_partsBy_67 (lv_at hl 2 rfl) ?_
    refine lv_goto (tgt := 74) hx hb dX11_partsBy_69 (by decide) ?_
    obtain rfl := Option.some.inj hf
    exact ro_iret CF hr hlk dX11_partsBy_74
end M_X11_partsBy
section M_X11_parts
variable {p : Program} {l : Launch} {e : Env} {s : State} {m : MethodId} {args : Array Value} {below : List Frame} {meth : Method} {c : Code} {Q : State → Prop} {A : Nat → Prop} {D : va_G} {cI cB cT : ClassId}
variable {a_m a_m_refused a_m_codes a_m_noted a_m_marked a_m_masks a_m_text a_m_before a_m_ahead a_m_aside a_m_sure a_m_wrongs a_m_says a_m_evening a_m_images : Nat}
def rm_X11_parts : Room := { frames := 3, cells := 0, slots := 0, locals := 74 }
def f_X11_parts (m_words : Int32) (m_left : Int32) (m_refused : (Nat → Int32)) (m_masks : (Nat → Int32)) (p1 : Int32) (p2 : Int32) : Option (Int32 × (Nat → Int32)) := ((f_X11_isLetterNumber p1).bind fun o1 => (if o1 = 0 then ((f_X11_bad m_refused).bind fun o4 => some (o4.1, o4.2)) else ((f_X11_in p2 (0 : Int32) (1 : Int32)).bind fun o6 => (if o6 = 0 then ((f_X11_bad m_refused).bind fun o9 => some (o9.1, o9.2)) else (if p2 = (1 : Int32) then ((f_X11_partsBy m_words m_masks m_left p1 (1 : Int32)).bind fun o14 => some (o14, m_refused)) else ((f_X11_partsBy m_words m_masks m_left p1 (0 : Int32)).bind fun o12 => some (o12, m_refused)))))))
set_option maxHeartbeats 4000000 in
set_option maxRecDepth 100000 in
theorem c_X11_parts (l : Launch) (D : va_G) (cI cB cT : ClassId) (sz : Nat) (a_m a_m_refused a_m_codes a_m_noted a_m_marked a_m_masks a_m_text a_m_before a_m_ahead a_m_aside a_m_sure a_m_wrongs a_m_says a_m_evening a_m_images : Nat) (m_words : Int32) (m_kindNow : Int32) (m_secretNow : Int32) (m_guessed : Int32) (m_left : Int32) (m_wrong : Int32) (m_noteMany : Int32) (m_markMany : Int32) (m_typed : Int32) (m_readAt : Int32) (m_readNumber : Int32) (m_undoMany : Int32) (m_lastGuesses : Int32) (m_above : Int64) (m_below : Int64) (m_refused : (Nat → Int32)) (m_codes : (Nat → Int32)) (m_noted : (Nat → Int32)) (m_marked : (Nat → Int32)) (m_masks : (Nat → Int32)) (m_text : (Nat → Int32)) (m_before : (Nat → Int32)) (m_ahead : (Nat → Int32)) (m_aside : (Nat → Int32)) (m_sure : (Nat → Int32)) (m_wrongs : (Nat → Int32)) (m_says : (Nat → Int32)) (m_evening : (Nat → Int32)) (m_images : (Nat → Int32)) (p1 : Int32) (p2 : Int32) {z : Int32 × (Nat → Int32)} (hf : f_X11_parts m_words m_left m_refused m_masks p1 p2 = some z) :
    Met l yX11_parts (Cond.code yX11_parts cX11_parts 3 (some .int) :: wsAll) rm_X11_parts (Pwr [.ref a_m, .int p1, .int p2] D cI cB cT (wd_m a_m a_m_refused a_m_codes a_m_noted a_m_marked a_m_masks a_m_text a_m_before a_m_ahead a_m_aside a_m_sure a_m_wrongs a_m_says a_m_evening a_m_images cI cB cT m_words m_kindNow m_secretNow m_guessed m_left m_wrong m_noteMany m_markMany m_typed m_readAt m_readNumber m_undoMany m_lastGuesses m_above m_below m_refused m_codes m_noted m_marked m_masks m_text m_before m_ahead m_aside m_sure m_wrongs m_says m_evening m_images) sz) (Qw (some (.int z.1)) D (wd_m a_m a_m_refused a_m_codes a_m_noted a_m_marked a_m_masks a_m_text a_m_before a_m_ahead a_m_aside a_m_sure a_m_wrongs a_m_says a_m_evening a_m_images cI cB cT m_words m_kindNow m_secretNow m_guessed m_left m_wrong m_noteMany m_markMany m_typed m_readAt m_readNumber m_undoMany m_lastGuesses m_above m_below z.2 m_codes m_noted m_marked m_masks m_text m_before m_ahead m_aside m_sure m_wrongs m_says m_evening m_images) (va_A (wd_m a_m a_m_refused a_m_codes a_m_noted a_m_marked a_m_masks a_m_text a_m_before a_m_ahead a_m_aside a_m_sure a_m_wrongs a_m_says a_m_evening a_m_images cI cB cT m_words m_kindNow m_secretNow m_guessed m_left m_wrong m_noteMany m_markMany m_typed m_readAt m_readNumber m_undoMany m_lastGuesses m_above m_below m_refused m_codes m_noted m_marked m_masks m_text m_before m_ahead m_aside m_sure m_wrongs m_says m_evening m_images) sz)) 0 0 (va_A (wd_m a_m a_m_refused a_m_codes a_m_noted a_m_marked a_m_masks a_m_text a_m_before a_m_ahead a_m_aside a_m_sure a_m_wrongs a_m_says a_m_evening a_m_images cI cB cT m_words m_kindNow m_secretNow m_guessed m_left m_wrong m_noteMany m_markMany m_typed m_readAt m_readNumber m_undoMany m_lastGuesses m_above m_below m_refused m_codes m_noted m_marked m_masks m_text m_before m_ahead m_aside m_sure m_wrongs m_says m_evening m_images) sz) := by
  refine wr_intro RX11 (by decide +kernel) rfl (Nat.le_of_ble_eq_true rfl) ?_
  intro p e s m below meth c ls A H locs CF hr hlk hG hP hD hS hA hl
  have hl : lv_has ls 3 [(0, .ref a_m), (1, .int p1), (2, .int p2)] := hl
  obtain ⟨hx, hb, hml, hown, hts⟩ := id CF
  unfold f_X11_parts at hf
  refine lv_iload_n hx hb dX11_parts_0 rfl (lv_at hl 1 rfl) ?_
  obtain ⟨o1, e2, hf⟩ := lp_bind hf
  refine ro_Si (x := o1) (As := [.int p1]) (rest := []) CF (c_X11_isLetterNumber l D cI cB cT p1 e2) ok_X11_isLetterNumber wm_1191 ⟨rfl, rfl, Nat.le_of_ble_eq_true rfl, Nat.le_of_ble_eq_true rfl⟩ hG wd_E_P rfl hl.1 rfl (Nat.le_of_ble_eq_true rfl) ⟨Nat.zero_le _, Nat.zero_le _⟩ dX11_parts_1 ?_
  refine lv_if_eq (tgt := 38) hx hb dX11_parts_4 (by decide) (fun c3 => ?_) (fun c3 => ?_)
  · have hf := tk c3 hf
    refine lv_aload_n hx hb dX11_parts_38 rfl (lv_at hl 0 rfl) ?_
    obtain ⟨o4, e5, hf⟩ := lp_bind hf
    refine wr_Wi (x := o4.1) (ws' := (wd_m a_m a_m_refused a_m_codes a_m_noted a_m_marked a_m_masks a_m_text a_m_before a_m_ahead a_m_aside a_m_sure a_m_wrongs a_m_says a_m_evening a_m_images cI cB cT m_words m_kindNow m_secretNow m_guessed m_left m_wrong m_noteMany m_markMany m_typed m_readAt m_readNumber m_undoMany m_lastGuesses m_above m_below o4.2 m_codes m_noted m_marked m_masks m_text m_before m_ahead m_aside m_sure m_wrongs m_says m_evening m_images)) (As := []) (rest := []) CF (c_X11_bad l D cI cB cT H.size a_m a_m_refused a_m_codes a_m_noted a_m_marked a_m_masks a_m_text a_m_before a_m_ahead a_m_aside a_m_sure a_m_wrongs a_m_says a_m_evening a_m_images m_words m_kindNow m_secretNow m_guessed m_left m_wrong m_noteMany m_markMany m_typed m_readAt m_readNumber m_undoMany m_lastGuesses m_above m_below m_refused m_codes m_noted m_marked m_masks m_text m_before m_ahead m_aside m_sure m_wrongs m_says m_evening m_images e5) ok_X11_bad wm_1020 ⟨rfl, rfl, Nat.le_of_ble_eq_true rfl, Nat.le_of_ble_eq_true rfl⟩ hG hP hD hS hA fs_m 0 9 vq_9 rfl ce_m_0 rfl hl.1 rfl (Nat.le_of_ble_eq_true rfl) ⟨Nat.zero_le _, Nat.zero_le _⟩ dX11_parts_39 (fun H locs hP hD hS => ?_)
    obtain rfl := Option.some.inj hf
    exact wr_iret CF hr hlk hP hS dX11_parts_42
  · have hf := fk c3 hf
    refine lv_iload_n hx hb dX11_parts_7 rfl (lv_at hl 2 rfl) ?_
    refine lv_iconst (v := (0 : Int32)) hx hb dX11_parts_8 (by decide) ?_
    refine lv_iconst (v := (1 : Int32)) hx hb dX11_parts_9 (by decide) ?_
    obtain ⟨o6, e7, hf⟩ := lp_bind hf
    refine ro_Si (x := o6) (As := [.int p2, .int (0 : Int32), .int (1 : Int32)]) (rest := []) CF (c_X11_in l D cI cB cT p2 (0 : Int32) (1 : Int32) e7) ok_X11_in wm_1017 ⟨rfl, rfl, Nat.le_of_ble_eq_true rfl, Nat.le_of_ble_eq_true rfl⟩ hG wd_E_P rfl hl.1 rfl (Nat.le_of_ble_eq_true rfl) ⟨Nat.zero_le _, Nat.zero_le _⟩ dX11_parts_10 ?_
    refine lv_if_eq (tgt := 38) hx hb dX11_parts_13 (by decide) (fun c8 => ?_) (fun c8 => ?_)
    · have hf := tk c8 hf
      refine lv_aload_n hx hb dX11_parts_38 rfl (lv_at hl 0 rfl) ?_
      obtain ⟨o9, e10, hf⟩ := lp_bind hf
      refine wr_Wi (x := o9.1) (ws' := (wd_m a_m a_m_refused a_m_codes a_m_noted a_m_marked a_m_masks a_m_text a_m_before a_m_ahead a_m_aside a_m_sure a_m_wrongs a_m_says a_m_evening a_m_images cI cB cT m_words m_kindNow m_secretNow m_guessed m_left m_wrong m_noteMany m_markMany m_typed m_readAt m_readNumber m_undoMany m_lastGuesses m_above m_below o9.2 m_codes m_noted m_marked m_masks m_text m_before m_ahead m_aside m_sure m_wrongs m_says m_evening m_images)) (As := []) (rest := []) CF (c_X11_bad l D cI cB cT H.size a_m a_m_refused a_m_codes a_m_noted a_m_marked a_m_masks a_m_text a_m_before a_m_ahead a_m_aside a_m_sure a_m_wrongs a_m_says a_m_evening a_m_images m_words m_kindNow m_secretNow m_guessed m_left m_wrong m_noteMany m_markMany m_typed m_readAt m_readNumber m_undoMany m_lastGuesses m_above m_below m_refused m_codes m_noted m_marked m_masks m_text m_before m_ahead m_aside m_sure m_wrongs m_says m_evening m_images e10) ok_X11_bad wm_1020 ⟨rfl, rfl, Nat.le_of_ble_eq_true rfl, Nat.le_of_ble_eq_true rfl⟩ hG hP hD hS hA fs_m 0 9 vq_9 rfl ce_m_0 rfl hl.1 rfl (Nat.le_of_ble_eq_true rfl) ⟨Nat.zero_le _, Nat.zero_le _⟩ dX11_parts_39 (fun H locs hP hD hS => ?_)
      obtain rfl := Option.some.inj hf
      exact wr_iret CF hr hlk hP hS dX11_parts_42
    · have hf := fk c8 hf
      refine lv_aload_n hx hb dX11_parts_16 rfl (lv_at hl 0 rfl) ?_
      refine lv_aload_n hx hb dX11_parts_17 rfl (lv_at hl 0 rfl) ?_
      refine va_get (D := D) (ci := 9) (v := .int m_left) (C := RX11) (T := TX11) (N := 29) hx hb hts fin_X11 hown hG.1 hP 0 ce_m_0 vq_9 5 (by decide) (hts _ wm_927) (fun _ h9 => h9) rfl dX11_parts_18 ?_
      refine lv_iload_n hx hb dX11_parts_21 rfl (lv_at hl 1 rfl) ?_
      refine lv_iload_n hx hb dX11_parts_22 rfl (lv_at hl 2 rfl) ?_
      refine lv_iconst (v := (1 : Int32)) hx hb dX11_parts_23 (by decide) ?_
      refine lv_icmp_ne (tgt := 31) hx hb dX11_parts_24 (by decide) (fun c11 => ?_) (fun c11 => ?_)
      · have hf := fk c11 hf
        refine lv_iconst (v := (0 : Int32)) hx hb dX11_parts_31 (by decide) ?_
        obtain ⟨o12, e13, hf⟩ := lp_bind hf
        refine ro_Vi (x := o12) (As := [.int m_left, .int p1, .int (0 : Int32)]) (rest := []) CF (c_X11_partsBy l D cI cB cT a_m a_m_refused a_m_codes a_m_noted a_m_marked a_m_masks a_m_text a_m_before a_m_ahead a_m_aside a_m_sure a_m_wrongs a_m_says a_m_evening a_m_images m_words m_kindNow m_secretNow m_guessed m_left m_wrong m_noteMany m_markMany m_typed m_readAt m_readNumber m_undoMany m_lastGuesses m_above m_below m_refused m_codes m_noted m_marked m_masks m_text m_before m_ahead m_aside m_sure m_wrongs m_says m_evening m_images m_left p1 (0 : Int32) e13) ok_X11_partsBy wm_1234 ⟨rfl, rfl, Nat.le_of_ble_eq_true rfl, Nat.le_of_ble_eq_true rfl⟩ hG hP 0 9 vq_9 rfl ce_m_0 rfl hl.1 rfl (Nat.le_of_ble_eq_true rfl) ⟨Nat.zero_le _, Nat.zero_le _⟩ dX11_parts_32 ?_
        refine lv_goto (tgt := 42) hx hb dX11_parts_35 (by decide) ?_
        obtain rfl := Option.some.inj hf
        exact wr_iret CF hr hlk hP hS dX11_parts_42
      · have hf := tk c11 hf
        refine lv_iconst (v := (1 : Int32)) hx hb dX11_parts_27 (by decide) ?_
        refine lv_goto (tgt := 32) hx hb dX11_parts_28 (by decide) ?_
        obtain ⟨o14, e15, hf⟩ := lp_bind hf
        refine ro_Vi (x := o14) (As := [.int m_left, .int p1, .int (1 : Int32)]) (rest := []) CF (c_X11_partsBy l D cI cB cT a_m a_m_refused a_m_codes a_m_noted a_m_marked a_m_masks a_m_text a_m_before a_m_ahead a_m_aside a_m_sure a_m_wrongs a_m_says a_m_evening a_m_images m_words m_kindNow m_secretNow m_guessed m_left m_wrong m_noteMany m_markMany m_typed m_readAt m_readNumber m_undoMany m_lastGuesses m_above m_below m_refused m_codes m_noted m_marked m_masks m_text m_before m_ahead m_aside m_sure m_wrongs m_says m_evening m_images m_left p1 (1 : Int32) e15) ok_X11_partsBy wm_1234 ⟨rfl, rfl, Nat.le_of_ble_eq_true rfl, Nat.le_of_ble_eq_true rfl⟩ hG hP 0 9 vq_9 rfl ce_m_0 rfl hl.1 rfl (Nat.le_of_ble_eq_true rfl) ⟨Nat.zero_le _, Nat.zero_le _⟩ dX11_parts_32 ?_
        refine lv_goto (tgt := 42) hx hb dX11_parts_35 (by decide) ?_
        obtain rfl := Option.some.inj hf
        exact wr_iret CF hr hlk hP hS dX11_parts_42
end M_X11_parts
section M_X11_best
variable {p : Program} {l : Launch} {e : Env} {s : State} {m : MethodId} {args : Array Value} {below : List Frame} {meth : Method} {c : Code} {Q : State → Prop} {A : Nat → Prop} {D : va_G} {cI cB cT : ClassId}
variable {a_m a_m_refused a_m_codes a_m_noted a_m_marked a_m_masks a_m_text a_m_before a_m_ahead a_m_aside a_m_sure a_m_wrongs a_m_says a_m_evening a_m_images : Nat}
def rm_X11_best : Room := { frames := 3, cells := 0, slots := 0, locals := 74 }
def J_X11_best_39 (x1 : Int32) (x2 : Int32) (x3 : Int32) (y0 : Int32) : Option ((Int32 × Int32 × Int32) ⊕ (Int32)) := (if x2 ≤ y0 then (if x2 ≤ y0 then some (Sum.inl (x1, x2, (x3 + (1 : Int32)))) else some (Sum.inl (x1, y0, (x3 + (1 : Int32))))) else (if x2 ≤ y0 then some (Sum.inl (x3, x2, (x3 + (1 : Int32)))) else some (Sum.inl (x3, y0, (x3 + (1 : Int32))))))
def B_X11_best_7 (m_words : Int32) (m_guessed : Int32) (m_left : Int32) (m_masks : (Nat → Int32)) (x1 : Int32) (x2 : Int32) (x3 : Int32) : Option ((Int32 × Int32 × Int32) ⊕ (Int32)) := (if (10 : Int32) ≤ x3 then some (Sum.inr x1) else ((f_X11_has m_guessed x3).bind fun o2 => (if o2 = 0 then ((f_X11_partsBy m_words m_masks m_left x3 (1 : Int32)).bind fun o5 => J_X11_best_39 x1 x2 x3 o5) else J_X11_best_39 x1 x2 x3 (1048576 : Int32))))
def f_X11_best (m_words : Int32) (m_guessed : Int32) (m_left : Int32) (m_masks : (Nat → Int32)) : Option (Int32) := ((lp (fun v => B_X11_best_7 m_words m_guessed m_left m_masks v.1 v.2.1 v.2.2) KN ((-1 : Int32), (1048576 : Int32), (0 : Int32))).bind fun o10 => some o10)
set_option maxHeartbeats 4000000 in
set_option maxRecDepth 100000 in
theorem J_X11_best_39_W {m_words : Int32} {m_kindNow : Int32} {m_secretNow : Int32} {m_guessed : Int32} {m_left : Int32} {m_wrong : Int32} {m_noteMany : Int32} {m_markMany : Int32} {m_typed : Int32} {m_readAt : Int32} {m_readNumber : Int32} {m_undoMany : Int32} {m_lastGuesses : Int32} {m_above : Int64} {m_below : Int64} {m_refused : (Nat → Int32)} {m_codes : (Nat → Int32)} {m_noted : (Nat → Int32)} {m_marked : (Nat → Int32)} {m_masks : (Nat → Int32)} {m_text : (Nat → Int32)} {m_before : (Nat → Int32)} {m_ahead : (Nat → Int32)} {m_aside : (Nat → Int32)} {m_sure : (Nat → Int32)} {m_wrongs : (Nat → Int32)} {m_says : (Nat → Int32)} {m_evening : (Nat → Int32)} {m_images : (Nat → Int32)} {x1 : Int32} {x2 : Int32} {x3 : Int32} {y0 : Int32} (CF : CallFix p m c cX11_best 5 s args wsAll RX11) (hG : Gd D cI cB cT s) {z : (Int32 × Int32 × Int32) ⊕ (Int32)} (hk : ∀ (v' : Int32 × Int32 × Int32) (ls : Array Slot), z = Sum.inl v' → lv_has ls 5 [(0, .ref a_m), (1, .int (v'.1)), (2, .int (v'.2.1)), (3, .int (v'.2.2))] → W p l e rm_X11_best s m args below meth c s.heap [] 0 0 Q (F0 m 7 ls [])) (hx0 : ∀ (o' : Int32) (ls : Array Slot), z = Sum.inr o' → lv_has ls 5 [(1, .int (o'))] → W p l e rm_X11_best s m args below meth c s.heap [] 0 0 Q (F0 m 72 ls [])) {ls : Array Slot} (hP : va_P D vwCl (wd_m a_m a_m_refused a_m_codes a_m_noted a_m_marked a_m_masks a_m_text a_m_before a_m_ahead a_m_aside a_m_sure a_m_wrongs a_m_says a_m_evening a_m_images cI cB cT m_words m_kindNow m_secretNow m_guessed m_left m_wrong m_noteMany m_markMany m_typed m_readAt m_readNumber m_undoMany m_lastGuesses m_above m_below m_refused m_codes m_noted m_marked m_masks m_text m_before m_ahead m_aside m_sure m_wrongs m_says m_evening m_images) s.heap) (hl : lv_has ls 5 [(0, .ref a_m), (1, .int x1), (2, .int x2), (3, .int x3)]) (hf : J_X11_best_39 x1 x2 x3 y0 = some z) : W p l e rm_X11_best s m args below meth c s.heap [] 0 0 Q (F0 m 39 ls [.int y0]) := by
  obtain ⟨hx, hb, hml, hown, hts⟩ := id CF
  unfold J_X11_best_39 at hf
  refine lv_istore (lv' := [(4, .int y0), (0, .ref a_m), (1, .int x1), (2, .int x2), (3, .int x3)]) hx hb dX11_best_39 hl (by decide) rfl (fun ls hl => ?_)
  refine lv_iload hx hb dX11_best_41 (lv_at hl 0 rfl) ?_
  refine lv_iload_n hx hb dX11_best_43 rfl (lv_at hl 3 rfl) ?_
  refine lv_icmp_ge (tgt := 51) hx hb dX11_best_44 (by decide) (fun c7 => ?_) (fun c7 => ?_)
  · have hf := tk c7 hf
    refine lv_iload_n hx hb dX11_best_51 rfl (lv_at hl 2 rfl) ?_
    refine lv_istore_n (lv' := [(1, .int x1), (4, .int y0), (0, .ref a_m), (2, .int x2), (3, .int x3)]) hx hb dX11_best_52 rfl hl (by decide) rfl (fun ls hl => ?_)
    refine lv_iload hx hb dX11_best_53 (lv_at hl 1 rfl) ?_
    refine lv_iload_n hx hb dX11_best_55 rfl (lv_at hl 3 rfl) ?_
    refine lv_icmp_ge (tgt := 64) hx hb dX11_best_56 (by decide) (fun c8 => ?_) (fun c8 => ?_)
    · have hf := tk c8 hf
      refine lv_iload_n hx hb dX11_best_64 rfl (lv_at hl 3 rfl) ?_
      refine lv_istore_n (lv' := [(2, .int x2), (1, .int x1), (4, .int y0), (0, .ref a_m), (3, .int x3)]) hx hb dX11_best_65 rfl hl (by decide) rfl (fun ls hl => ?_)
      refine lv_iinc (v := (x3 + (1 : Int32))) (lv' := [(3, .int (x3 + (1 : Int32))), (2, .int x2), (1, .int x1), (4, .int y0), (0, .ref a_m)]) hx hb dX11_best_66 hl (k := 4) rfl (iinc_eq (by decide)) (by decide) rfl (fun ls hl => ?_)
      refine lv_goto (tgt := 7) hx hb dX11_best_69 (by decide) ?_
      exact hk _ _ (Option.some.inj hf).symm (lv_sub hl [4, 2, 1, 0] rfl)
    · have hf := fk c8 hf
      refine lv_iload hx hb dX11_best_59 (lv_at hl 1 rfl) ?_
      refine lv_goto (tgt := 65) hx hb dX11_best_61 (by decide) ?_
      refine lv_istore_n (lv' := [(2, .int y0), (1, .int x1), (4, .int y0), (0, .ref a_m), (3, .int x3)]) hx hb dX11_best_65 rfl hl (by decide) rfl (fun ls hl => ?_)
      refine lv_iinc (v := (x3 + (1 : Int32))) (lv' := [(3, .int (x3 + (1 : Int32))), (2, .int y0), (1, .int x1), (4, .int y0), (0, .ref a_m)]) hx hb dX11_best_66 hl (k := 4) rfl (iinc_eq (by decide)) (by decide) rfl (fun ls hl => ?_)
      refine lv_goto (tgt := 7) hx hb dX11_best_69 (by decide) ?_
      exact hk _ _ (Option.some.inj hf).symm (lv_sub hl [4, 2, 1, 0] rfl)
  · have hf := fk c7 hf
    refine lv_iload_n hx hb dX11_best_47 rfl (lv_at hl 4 rfl) ?_
    refine lv_goto (tgt := 52) hx hb dX11_best_48 (by decide) ?_
    refine lv_istore_n (lv' := [(1, .int x3), (4, .int y0), (0, .ref a_m), (2, .int x2), (3, .int x3)]) hx hb dX11_best_52 rfl hl (by decide) rfl (fun ls hl => ?_)
    refine lv_iload hx hb dX11_best_53 (lv_at hl 1 rfl) ?_
    refine lv_iload_n hx hb dX11_best_55 rfl (lv_at hl 3 rfl) ?_
    refine lv_icmp_ge (tgt := 64) hx hb dX11_best_56 (by decide) (fun c9 => ?_) (fun c9 => ?_)
    · have hf := tk c9 hf
      refine lv_iload_n hx hb dX11_best_64 rfl (lv_at hl 3 rfl) ?_
      refine lv_istore_n (lv' := [(2, .int x2), (1, .int x3), (4, .int y0), (0, .ref a_m), (3, .int x3)]) hx hb dX11_best_65 rfl hl (by decide) rfl (fun ls hl => ?_)
      refine lv_iinc (v := (x3 + (1 : Int32))) (lv' := [(3, .int (x3 + (1 : Int32))), (2, .int x2), (1, .int x3), (4, .int y0), (0, .ref a_m)]) hx hb dX11_best_66 hl (k := 4) rfl (iinc_eq (by decide)) (by decide) rfl (fun ls hl => ?_)
      refine lv_goto (tgt := 7) hx hb dX11_best_69 (by decide) ?_
      exact hk _ _ (Option.some.inj hf).symm (lv_sub hl [4, 2, 1, 0] rfl)
    · have hf := fk c9 hf
      refine lv_iload hx hb dX11_best_59 (lv_at hl 1 rfl) ?_
      refine lv_goto (tgt := 65) hx hb dX11_best_61 (by decide) ?_
      refine lv_istore_n (lv' := [(2, .int y0), (1, .int x3), (4, .int y0), (0, .ref a_m), (3, .int x3)]) hx hb dX11_best_65 rfl hl (by decide) rfl (fun ls hl => ?_)
      refine lv_iinc (v := (x3 + (1 : Int32))) (lv' := [(3, .int (x3 + (1 : Int32))), (2, .int y0), (1, .int x3), (4, .int y0), (0, .ref a_m)]) hx hb dX11_best_66 hl (k := 4) rfl (iinc_eq (by decide)) (by decide) rfl (fun ls hl => ?_)
      refine lv_goto (tgt := 7) hx hb dX11_best_69 (by decide) ?_
      exact hk _ _ (Option.some.inj hf).symm (lv_sub hl [4, 2, 1, 0] rfl)
set_option maxHeartbeats 4000000 in
set_option maxRecDepth 100000 in
theorem B_X11_best_7_W {m_words : Int32} {m_kindNow : Int32} {m_secretNow : Int32} {m_guessed : Int32} {m_left : Int32} {m_wrong : Int32} {m_noteMany : Int32} {m_markMany : Int32} {m_typed : Int32} {m_readAt : Int32} {m_readNumber : Int32} {m_undoMany : Int32} {m_lastGuesses : Int32} {m_above : Int64} {m_below : Int64} {m_refused : (Nat → Int32)} {m_codes : (Nat → Int32)} {m_noted : (Nat → Int32)} {m_marked : (Nat → Int32)} {m_masks : (Nat → Int32)} {m_text : (Nat → Int32)} {m_before : (Nat → Int32)} {m_ahead : (Nat → Int32)} {m_aside : (Nat → Int32)} {m_sure : (Nat → Int32)} {m_wrongs : (Nat → Int32)} {m_says : (Nat → Int32)} {m_evening : (Nat → Int32)} {m_images : (Nat → Int32)} {x1 : Int32} {x2 : Int32} {x3 : Int32} (CF : CallFix p m c cX11_best 5 s args wsAll RX11) (hG : Gd D cI cB cT s) {z : (Int32 × Int32 × Int32) ⊕ (Int32)} (hk : ∀ (v' : Int32 × Int32 × Int32) (ls : Array Slot), z = Sum.inl v' → lv_has ls 5 [(0, .ref a_m), (1, .int (v'.1)), (2, .int (v'.2.1)), (3, .int (v'.2.2))] → W p l e rm_X11_best s m args below meth c s.heap [] 0 0 Q (F0 m 7 ls [])) (hx0 : ∀ (o' : Int32) (ls : Array Slot), z = Sum.inr o' → lv_has ls 5 [(1, .int (o'))] → W p l e rm_X11_best s m args below meth c s.heap [] 0 0 Q (F0 m 72 ls [])) {ls : Array Slot} (hP : va_P D vwCl (wd_m a_m a_m_refused a_m_codes a_m_noted a_m_marked a_m_masks a_m_text a_m_before a_m_ahead a_m_aside a_m_sure a_m_wrongs a_m_says a_m_evening a_m_images cI cB cT m_words m_kindNow m_secretNow m_guessed m_left m_wrong m_noteMany m_markMany m_typed m_readAt m_readNumber m_undoMany m_lastGuesses m_above m_below m_refused m_codes m_noted m_marked m_masks m_text m_before m_ahead m_aside m_sure m_wrongs m_says m_evening m_images) s.heap) (hl : lv_has ls 5 [(0, .ref a_m), (1, .int x1), (2, .int x2), (3, .int x3)]) (hf : B_X11_best_7 m_words m_guessed m_left m_masks x1 x2 x3 = some z) : W p l e rm_X11_best s m args below meth c s.heap [] 0 0 Q (F0 m 7 ls []) := by
  obtain ⟨hx, hb, hml, hown, hts⟩ := id CF
  unfold B_X11_best_7 at hf
  refine lv_iload_n hx hb dX11_best_7 rfl (lv_at hl 3 rfl) ?_
  refine lv_bipush (v := (10 : Int32)) hx hb dX11_best_8 (by decide) ?_
  refine lv_icmp_ge (tgt := 72) hx hb dX11_best_10 (by decide) (fun c1 => ?_) (fun c1 => ?_)
  · have hf := tk c1 hf
    exact hx0 _ _ (Option.some.inj hf).symm (lv_sub hl [1] rfl)
  · have hf := fk c1 hf
    refine lv_aload_n hx hb dX11_best_13 rfl (lv_at hl 0 rfl) ?_
    refine va_get (D := D) (ci := 9) (v := .int m_guessed) (C := RX11) (T := TX11) (N := 29) hx hb hts fin_X11 hown hG.1 hP 0 ce_m_0 vq_9 4 (by decide) (hts _ wm_926) (fun _ h9 => h9) rfl dX11_best_14 ?_
    refine lv_iload_n hx hb dX11_best_17 rfl (lv_at hl 3 rfl) ?_
    obtain ⟨o2, e3, hf⟩ := lp_bind hf
    refine ro_Si (x := o2) (As := [.int m_guessed, .int x3]) (rest := []) CF (c_X11_has l D cI cB cT m_guessed x3 e3) ok_X11_has wm_1133 ⟨rfl, rfl, Nat.le_of_ble_eq_true rfl, Nat.le_of_ble_eq_true rfl⟩ hG wd_E_P rfl hl.1 rfl (Nat.le_of_ble_eq_true rfl) ⟨Nat.zero_le _, Nat.zero_le _⟩ dX11_best_18 ?_
    refine lv_if_eq (tgt := 29) hx hb dX11_best_21 (by decide) (fun c4 => ?_) (fun c4 => ?_)
    · have hf := tk c4 hf
      refine lv_aload_n hx hb dX11_best_29 rfl (lv_at hl 0 rfl) ?_
      refine lv_aload_n hx hb dX11_best_30 rfl (lv_at hl 0 rfl) ?_
      refine va_get (D := D) (ci := 9) (v := .int m_left) (C := RX11) (T := TX11) (N := 29) hx hb hts fin_X11 hown hG.1 hP 0 ce_m_0 vq_9 5 (by decide) (hts _ wm_927) (fun _ h9 => h9) rfl dX11_best_31 ?_
      refine lv_iload_n hx hb dX11_best_34 rfl (lv_at hl 3 rfl) ?_
      refine lv_iconst (v := (1 : Int32)) hx hb dX11_best_35 (by decide) ?_
      obtain ⟨o5, e6, hf⟩ := lp_bind hf
      refine ro_Vi (x := o5) (As := [.int m_left, .int x3, .int (1 : Int32)]) (rest := []) CF (c_X11_partsBy l D cI cB cT a_m a_m_refused a_m_codes a_m_noted a_m_marked a_m_masks a_m_text a_m_before a_m_ahead a_m_aside a_m_sure a_m_wrongs a_m_says a_m_evening a_m_images m_words m_kindNow m_secretNow m_guessed m_left m_wrong m_noteMany m_markMany m_typed m_readAt m_readNumber m_undoMany m_lastGuesses m_above m_below m_refused m_codes m_noted m_marked m_masks m_text m_before m_ahead m_aside m_sure m_wrongs m_says m_evening m_images m_left x3 (1 : Int32) e6) ok_X11_partsBy wm_1234 ⟨rfl, rfl, Nat.le_of_ble_eq_true rfl, Nat.le_of_ble_eq_true rfl⟩ hG hP 0 9 vq_9 rfl ce_m_0 rfl hl.1 rfl (Nat.le_of_ble_eq_true rfl) ⟨Nat.zero_le _, Nat.zero_le _⟩ dX11_best_36 ?_
      exact J_X11_best_39_W CF hG hk hx0 hP (lv_sub hl [0, 1, 2, 3] rfl) hf
    · have hf := fk c4 hf
      refine lv_ldc (v := (1048576 : Int32)) hx hb hown (hts _ wm_1242) dX11_best_24 ?_
      refine lv_goto (tgt := 39) hx hb dX11_best_26 (by decide) ?_
      exact J_X11_best_39_W CF hG hk hx0 hP (lv_sub hl [0, 1, 2, 3] rfl) hf
set_option maxHeartbeats 4000000 in
set_option maxRecDepth 100000 in
theorem L_X11_best_7_W {m_words : Int32} {m_kindNow : Int32} {m_secretNow : Int32} {m_guessed : Int32} {m_left : Int32} {m_wrong : Int32} {m_noteMany : Int32} {m_markMany : Int32} {m_typed : Int32} {m_readAt : Int32} {m_readNumber : Int32} {m_undoMany : Int32} {m_lastGuesses : Int32} {m_above : Int64} {m_below : Int64} {m_refused : (Nat → Int32)} {m_codes : (Nat → Int32)} {m_noted : (Nat → Int32)} {m_marked : (Nat → Int32)} {m_masks : (Nat → Int32)} {m_text : (Nat → Int32)} {m_before : (Nat → Int32)} {m_ahead : (Nat → Int32)} {m_aside : (Nat → Int32)} {m_sure : (Nat → Int32)} {m_wrongs : (Nat → Int32)} {m_says : (Nat → Int32)} {m_evening : (Nat → Int32)} {m_images : (Nat → Int32)} (CF : CallFix p m c cX11_best 5 s args wsAll RX11) (hG : Gd D cI cB cT s) {o : Int32} (hx0 : ∀ (ls : Array Slot), lv_has ls 5 [(1, .int o)] → W p l e rm_X11_best s m args below meth c s.heap [] 0 0 Q (F0 m 72 ls [])) : ∀ (n : Nat) (x1 : Int32) (x2 : Int32) (x3 : Int32) (ls : Array Slot), va_P D vwCl (wd_m a_m a_m_refused a_m_codes a_m_noted a_m_marked a_m_masks a_m_text a_m_before a_m_ahead a_m_aside a_m_sure a_m_wrongs a_m_says a_m_evening a_m_images cI cB cT m_words m_kindNow m_secretNow m_guessed m_left m_wrong m_noteMany m_markMany m_typed m_readAt m_readNumber m_undoMany m_lastGuesses m_above m_below m_refused m_codes m_noted m_marked m_masks m_text m_before m_ahead m_aside m_sure m_wrongs m_says m_evening m_images) s.heap → lv_has ls 5 [(0, .ref a_m), (1, .int x1), (2, .int x2), (3, .int x3)] → lp (fun v => B_X11_best_7 m_words m_guessed m_left m_masks v.1 v.2.1 v.2.2) n (x1, x2, x3) = some o → W p l e rm_X11_best s m args below meth c s.heap [] 0 0 Q (F0 m 7 ls []) := by
  intro n
  induction n with
  | zero =>
    intro x1 x2 x3 ls hP hl hf
    exact (lp_zero hf).elim
  | succ n ih =>
    intro x1 x2 x3 ls hP hl hf
    obtain ⟨z, hz, hf⟩ := lp_succ hf
    refine B_X11_best_7_W CF hG ?_ ?_ hP hl hz
    · intro v' ls ez hl
      rcases hf with ⟨v2, ev, hf⟩ | ev
      · cases Sum.inl.inj (ez.symm.trans ev)
        exact ih v'.1 v'.2.1 v'.2.2 ls hP hl hf
      · exact (lp_lr (ez.symm.trans ev)).elim
    · intro o' ls ez hl
      rcases hf with ⟨v2, ev, hf⟩ | ev
      · exact (lp_lr (ev.symm.trans ez)).elim
      · cases Sum.inr.inj (ez.symm.trans ev)
        exact hx0 ls  hl
set_option maxHeartbeats 4000000 in
set_option maxRecDepth 100000 in
theorem c_X11_best (l : Launch) (D : va_G) (cI cB cT : ClassId) (a_m a_m_refused a_m_codes a_m_noted a_m_marked a_m_masks a_m_text a_m_before a_m_ahead a_m_aside a_m_sure a_m_wrongs a_m_says a_m_evening a_m_images : Nat) (m_words : Int32) (m_kindNow : Int32) (m_secretNow : Int32) (m_guessed : Int32) (m_left : Int32) (m_wrong : Int32) (m_noteMany : Int32) (m_markMany : Int32) (m_typed : Int32) (m_readAt : Int32) (m_readNumber : Int32) (m_undoMany : Int32) (m_lastGuesses : Int32) (m_above : Int64) (m_below : Int64) (m_refused : (Nat → Int32)) (m_codes : (Nat → Int32)) (m_noted : (Nat → Int32)) (m_marked : (Nat → Int32)) (m_masks : (Nat → Int32)) (m_text : (Nat → Int32)) (m_before : (Nat → Int32)) (m_ahead : (Nat → Int32)) (m_aside : (Nat → Int32)) (m_sure : (Nat → Int32)) (m_wrongs : (Nat → Int32)) (m_says : (Nat → Int32)) (m_evening : (Nat → Int32)) (m_images : (Nat → Int32)) {z : Int32} (hf : f_X11_best m_words m_guessed m_left m_masks = some z) :
    Met l yX11_best (Cond.code yX11_best cX11_best 5 (some .int) :: wsAll) rm_X11_best (Pro [.ref a_m] D cI cB cT (wd_m a_m a_m_refused a_m_codes a_m_noted a_m_marked a_m_masks a_m_text a_m_before a_m_ahead a_m_aside a_m_sure a_m_wrongs a_m_says a_m_evening a_m_images cI cB cT m_words m_kindNow m_secretNow m_guessed m_left m_wrong m_noteMany m_markMany m_typed m_readAt m_readNumber m_undoMany m_lastGuesses m_above m_below m_refused m_codes m_noted m_marked m_masks m_text m_before m_ahead m_aside m_sure m_wrongs m_says m_evening m_images)) (Qr (some (.int z))) 0 0 (fun _ => False) := by
  refine ro_intro RX11 (by decide +kernel) rfl (Nat.le_of_ble_eq_true rfl) ?_
  intro p e s m below meth c ls CF hr hlk hG hP hl
  have hl : lv_has ls 5 [(0, .ref a_m)] := hl
  obtain ⟨hx, hb, hml, hown, hts⟩ := id CF
  unfold f_X11_best at hf
  refine lv_iconst (v := (-1 : Int32)) hx hb dX11_best_0 (by decide) ?_
  refine lv_istore_n (lv' := [(1, .int (-1 : Int32)), (0, .ref a_m)]) hx hb dX11_best_1 rfl hl (by decide) rfl (fun ls hl => ?_)
  refine lv_ldc (v := (1048576 : Int32)) hx hb hown (hts _ wm_1242) dX11_best_2 ?_
  refine lv_istore_n (lv' := [(2, .int (1048576 : Int32)), (1, .int (-1 : Int32)), (0, .ref a_m)]) hx hb dX11_best_4 rfl hl (by decide) rfl (fun ls hl => ?_)
  refine lv_iconst (v := (0 : Int32)) hx hb dX11_best_5 (by decide) ?_
  refine lv_istore_n (lv' := [(3, .int (0 : Int32)), (2, .int (1048576 : Int32)), (1, .int (-1 : Int32)), (0, .ref a_m)]) hx hb dX11_best_6 rfl hl (by decide) rfl (fun ls hl => ?_)
  obtain ⟨o10, e11, hf⟩ := lp_bind hf
  refine L_X11_best_7_W CF hG ?_ KN _ _ _ _ hP (lv_sub hl [3, 2, 1, 0] rfl) e11
  intro ls hl
  refine lv_iload_n hx hb dX11_best_72 rfl (lv_at hl 0 rfl) ?_
  obtain rfl := Option.some.inj hf
  exact ro_iret CF hr hlk dX11_best_73
end M_X11_best
section M_X11_isOneAtMost
variable {p : Program} {l : Launch} {e : Env} {s : State} {m : MethodId} {args : Array Value} {below : List Frame} {meth : Method} {c : Code} {Q : State → Prop} {A : Nat → Prop} {D : va_G} {cI cB cT : ClassId}
def rm_X11_isOneAtMost : Room := { frames := 0, cells := 0, slots := 0, locals := 0 }
def f_X11_isOneAtMost (p1 : Int32) : Option (Int32) := (if (p1 &&& (p1 - (1 : Int32))) = 0 then some (1 : Int32) else some (0 : Int32))
set_option maxHeartbeats 4000000 in
set_option maxRecDepth 100000 in
theorem c_X11_isOneAtMost (l : Launch) (D : va_G) (cI cB cT : ClassId) (p1 : Int32) {z : Int32} (hf : f_X11_isOneAtMost p1 = some z) :
    Met l yX11_isOneAtMost (Cond.code yX11_isOneAtMost cX11_isOneAtMost 1 (some .boolean) :: wsAll) rm_X11_isOneAtMost (Pro [.int p1] D cI cB cT wd_E) (Qr (some (.int z))) 0 0 (fun _ => False) := by
  refine ro_intro RX11 (by decide +kernel) rfl (Nat.le_of_ble_eq_true rfl) ?_
  intro p e s m below meth c ls CF hr hlk hG hP hl
  have hl : lv_has ls 1 [(0, .int p1)] := hl
  obtain ⟨hx, hb, hml, hown, hts⟩ := id CF
  unfold f_X11_isOneAtMost at hf
  refine lv_iload_n hx hb dX11_isOneAtMost_0 rfl (lv_at hl 0 rfl) ?_
  refine lv_iload_n hx hb dX11_isOneAtMost_1 rfl (lv_at hl 0 rfl) ?_
  refine lv_iconst (v := (1 : Int32)) hx hb dX11_isOneAtMost_2 (by decide) ?_
  refine lv_isub hx hb dX11_isOneAtMost_3 ?_
  refine lv_iand hx hb dX11_isOneAtMost_4 ?_
  refine lv_if_ne (tgt := 12) hx hb dX11_isOneAtMost_5 (by decide) (fun c1 => ?_) (fun c1 => ?_)
  · have hf := fk c1 hf
    refine lv_iconst (v := (0 : Int32)) hx hb dX11_isOneAtMost_12 (by decide) ?_
    obtain rfl := Option.some.inj hf
    exact ro_zret CF hr hlk (Or.inl rfl) dX11_isOneAtMost_13
  · have hf := tk c1 hf
    refine lv_iconst (v := (1 : Int32)) hx hb dX11_isOneAtMost_8 (by decide) ?_
    refine lv_goto (tgt := 13) hx hb dX11_isOneAtMost_9 (by decide) ?_
    obtain rfl := Option.some.inj hf
    exact ro_zret CF hr hlk (Or.inr rfl) dX11_isOneAtMost_13
end M_X11_isOneAtMost
section M_X11_sureBy
variable {p : Program} {l : Launch} {e : Env} {s : State} {m : MethodId} {args : Array Value} {below : List Frame} {meth : Method} {c : Code} {Q : State → Prop} {A : Nat → Prop} {D : va_G} {cI cB cT : ClassId}
variable {a_m a_m_refused a_m_codes a_m_noted a_m_marked a_m_masks a_m_text a_m_before a_m_ahead a_m_aside a_m_sure a_m_wrongs a_m_says a_m_evening a_m_images : Nat}
def rm_X11_sureBy : Room := { frames := 2, cells := 0, slots := 0, locals := 47 }
def B_X11_sureBy_5 (m_words : Int32) (m_masks : (Nat → Int32)) (m_sure : (Nat → Int32)) (x1 : Int32) (x2 : Int32) (x3 : Int32) (x4 : Int32) : Option ((Int32 × Int32) ⊕ (Int32)) := (if (16 : Int32) ≤ x4 then some (Sum.inr x3) else ((f_X11_partOf m_words m_masks x1 x2 x4).bind fun o2 => (if o2 = 0 then (if (0 : Int32) ≤ x3 then some (Sum.inl (x3, (x4 + (1 : Int32)))) else some (Sum.inl ((0 : Int32), (x4 + (1 : Int32))))) else (if oob o2 256 then none else (if x4 = 0 then (if ((m_sure (o2).toNatClampNeg) + (1 : Int32)) ≤ x3 then some (Sum.inl (x3, (x4 + (1 : Int32)))) else some (Sum.inl (((m_sure (o2).toNatClampNeg) + (1 : Int32)), (x4 + (1 : Int32))))) else (if ((m_sure (o2).toNatClampNeg) + (0 : Int32)) ≤ x3 then some (Sum.inl (x3, (x4 + (1 : Int32)))) else some (Sum.inl (((m_sure (o2).toNatClampNeg) + (0 : Int32)), (x4 + (1 : Int32))))))))))
def f_X11_sureBy (m_words : Int32) (m_masks : (Nat → Int32)) (m_sure : (Nat → Int32)) (p1 : Int32) (p2 : Int32) : Option (Int32) := ((lp (fun v => B_X11_sureBy_5 m_words m_masks m_sure p1 p2 v.1 v.2) KN ((0 : Int32), (0 : Int32))).bind fun o10 => some o10)
set_option maxHeartbeats 4000000 in
set_option maxRecDepth 100000 in
theorem B_X11_sureBy_5_W {m_words : Int32} {m_kindNow : Int32} {m_secretNow : Int32} {m_guessed : Int32} {m_left : Int32} {m_wrong : Int32} {m_noteMany : Int32} {m_markMany : Int32} {m_typed : Int32} {m_readAt : Int32} {m_readNumber : Int32} {m_undoMany : Int32} {m_lastGuesses : Int32} {m_above : Int64} {m_below : Int64} {m_refused : (Nat → Int32)} {m_codes : (Nat → Int32)} {m_noted : (Nat → Int32)} {m_marked : (Nat → Int32)} {m_masks : (Nat → Int32)} {m_text : (Nat → Int32)} {m_before : (Nat → Int32)} {m_ahead : (Nat → Int32)} {m_aside : (Nat → Int32)} {m_sure : (Nat → Int32)} {m_wrongs : (Nat → Int32)} {m_says : (Nat → Int32)} {m_evening : (Nat → Int32)} {m_images : (Nat → Int32)} {x1 : Int32} {x2 : Int32} {x3 : Int32} {x4 : Int32} (CF : CallFix p m c cX11_sureBy 7 s args wsAll RX11) (hG : Gd D cI cB cT s) {z : (Int32 × Int32) ⊕ (Int32)} (hk : ∀ (v' : Int32 × Int32) (ls : Array Slot), z = Sum.inl v' → lv_has ls 7 [(0, .ref a_m), (1, .int x1), (2, .int x2), (3, .int (v'.1)), (4, .int (v'.2))] → W p l e rm_X11_sureBy s m args below meth c s.heap [] 0 0 Q (F0 m 5 ls [])) (hx0 : ∀ (o' : Int32) (ls : Array Slot), z = Sum.inr o' → lv_has ls 7 [(3, .int (o'))] → W p l e rm_X11_sureBy s m args below meth c s.heap [] 0 0 Q (F0 m 70 ls [])) {ls : Array Slot} (hP : va_P D vwCl (wd_m a_m a_m_refused a_m_codes a_m_noted a_m_marked a_m_masks a_m_text a_m_before a_m_ahead a_m_aside a_m_sure a_m_wrongs a_m_says a_m_evening a_m_images cI cB cT m_words m_kindNow m_secretNow m_guessed m_left m_wrong m_noteMany m_markMany m_typed m_readAt m_readNumber m_undoMany m_lastGuesses m_above m_below m_refused m_codes m_noted m_marked m_masks m_text m_before m_ahead m_aside m_sure m_wrongs m_says m_evening m_images) s.heap) (hl : lv_has ls 7 [(0, .ref a_m), (1, .int x1), (2, .int x2), (3, .int x3), (4, .int x4)]) (hf : B_X11_sureBy_5 m_words m_masks m_sure x1 x2 x3 x4 = some z) : W p l e rm_X11_sureBy s m args below meth c s.heap [] 0 0 Q (F0 m 5 ls []) := by
  obtain ⟨hx, hb, hml, hown, hts⟩ := id CF
  unfold B_X11_sureBy_5 at hf
  refine lv_iload hx hb dX11_sureBy_5 (lv_at hl 4 rfl) ?_
  refine lv_bipush (v := (16 : Int32)) hx hb dX11_sureBy_7 (by decide) ?_
  refine lv_icmp_ge (tgt := 70) hx hb dX11_sureBy_9 (by decide) (fun c1 => ?_) (fun c1 => ?_)
  · have hf := tk c1 hf
    exact hx0 _ _ (Option.some.inj hf).symm (lv_sub hl [3] rfl)
  · have hf := fk c1 hf
    refine lv_aload_n hx hb dX11_sureBy_12 rfl (lv_at hl 0 rfl) ?_
    refine lv_iload_n hx hb dX11_sureBy_13 rfl (lv_at hl 1 rfl) ?_
    refine lv_iload_n hx hb dX11_sureBy_14 rfl (lv_at hl 2 rfl) ?_
    refine lv_iload hx hb dX11_sureBy_15 (lv_at hl 4 rfl) ?_
    obtain ⟨o2, e3, hf⟩ := lp_bind hf
    refine ro_Vi (x := o2) (As := [.int x1, .int x2, .int x4]) (rest := []) CF (c_X11_partOf l D cI cB cT a_m a_m_refused a_m_codes a_m_noted a_m_marked a_m_masks a_m_text a_m_before a_m_ahead a_m_aside a_m_sure a_m_wrongs a_m_says a_m_evening a_m_images m_words m_kindNow m_secretNow m_guessed m_left m_wrong m_noteMany m_markMany m_typed m_readAt m_readNumber m_undoMany m_lastGuesses m_above m_below m_refused m_codes m_noted m_marked m_masks m_text m_before m_ahead m_aside m_sure m_wrongs m_says m_evening m_images x1 x2 x4 e3) ok_X11_partOf wm_1175 ⟨rfl, rfl, Nat.le_of_ble_eq_true rfl, Nat.le_of_ble_eq_true rfl⟩ hG hP 0 9 vq_9 rfl ce_m_0 rfl hl.1 rfl (Nat.le_of_ble_eq_true rfl) ⟨Nat.zero_le _, Nat.zero_le _⟩ dX11_sureBy_17 ?_
    refine lv_istore (lv' := [(5, .int o2), (0, .ref a_m), (1, .int x1), (2, .int x2), (3, .int x3), (4, .int x4)]) hx hb dX11_sureBy_20 hl (by decide) rfl (fun ls hl => ?_)
    refine lv_iload hx hb dX11_sureBy_22 (lv_at hl 0 rfl) ?_
    refine lv_if_ne (tgt := 31) hx hb dX11_sureBy_24 (by decide) (fun c4 => ?_) (fun c4 => ?_)
    · have hf := fk c4 hf
      refine lv_aload_n hx hb dX11_sureBy_31 rfl (lv_at hl 1 rfl) ?_
      refine va_get (D := D) (ci := 9) (v := .ref a_m_sure) (C := RX11) (T := TX11) (N := 29) hx hb hts fin_X11 hown hG.1 hP 0 ce_m_0 vq_9 21 (by decide) (hts _ wm_943) (fun _ h9 => h9) rfl dX11_sureBy_32 ?_
      refine lv_iload hx hb dX11_sureBy_35 (lv_at hl 0 rfl) ?_
      obtain ⟨n5, hf⟩ := nk hf
      refine va_iald (f := m_sure) hx hb hG.1 hP 10 0 ce_m_10 rfl n5 dX11_sureBy_37 ?_
      refine lv_iload hx hb dX11_sureBy_38 (lv_at hl 5 rfl) ?_
      refine lv_if_ne (tgt := 47) hx hb dX11_sureBy_40 (by decide) (fun c6 => ?_) (fun c6 => ?_)
      · have hf := fk c6 hf
        refine lv_iconst (v := (0 : Int32)) hx hb dX11_sureBy_47 (by decide) ?_
        refine lv_iadd hx hb dX11_sureBy_48 ?_
        refine lv_istore (lv' := [(6, .int ((m_sure (o2).toNatClampNeg) + (0 : Int32))), (5, .int o2), (0, .ref a_m), (1, .int x1), (2, .int x2), (3, .int x3), (4, .int x4)]) hx hb dX11_sureBy_49 hl (by decide) rfl (fun ls hl => ?_)
        refine lv_iload hx hb dX11_sureBy_51 (lv_at hl 0 rfl) ?_
        refine lv_iload_n hx hb dX11_sureBy_53 rfl (lv_at hl 5 rfl) ?_
        refine lv_icmp_le (tgt := 62) hx hb dX11_sureBy_54 (by decide) (fun c7 => ?_) (fun c7 => ?_)
        · have hf := tk c7 hf
          refine lv_iload_n hx hb dX11_sureBy_62 rfl (lv_at hl 5 rfl) ?_
          refine lv_istore_n (lv' := [(3, .int x3), (6, .int ((m_sure (o2).toNatClampNeg) + (0 : Int32))), (5, .int o2), (0, .ref a_m), (1, .int x1), (2, .int x2), (4, .int x4)]) hx hb dX11_sureBy_63 rfl hl (by decide) rfl (fun ls hl => ?_)
          refine lv_iinc (v := (x4 + (1 : Int32))) (lv' := [(4, .int (x4 + (1 : Int32))), (3, .int x3), (6, .int ((m_sure (o2).toNatClampNeg) + (0 : Int32))), (5, .int o2), (0, .ref a_m), (1, .int x1), (2, .int x2)]) hx hb dX11_sureBy_64 hl (k := 6) rfl (iinc_eq (by decide)) (by decide) rfl (fun ls hl => ?_)
          refine lv_goto (tgt := 5) hx hb dX11_sureBy_67 (by decide) ?_
          exact hk _ _ (Option.some.inj hf).symm (lv_sub hl [4, 5, 6, 1, 0] rfl)
        · have hf := fk c7 hf
          refine lv_iload hx hb dX11_sureBy_57 (lv_at hl 0 rfl) ?_
          refine lv_goto (tgt := 63) hx hb dX11_sureBy_59 (by decide) ?_
          refine lv_istore_n (lv' := [(3, .int ((m_sure (o2).toNatClampNeg) + (0 : Int32))), (6, .int ((m_sure (o2).toNatClampNeg) + (0 : Int32))), (5, .int o2), (0, .ref a_m), (1, .int x1), (2, .int x2), (4, .int x4)]) hx hb dX11_sureBy_63 rfl hl (by decide) rfl (fun ls hl => ?_)
          refine lv_iinc (v := (x4 + (1 : Int32))) (lv' := [(4, .int (x4 + (1 : Int32))), (3, .int ((m_sure (o2).toNatClampNeg) + (0 : Int32))), (6, .int ((m_sure (o2).toNatClampNeg) + (0 : Int32))), (5, .int o2), (0, .ref a_m), (1, .int x1), (2, .int x2)]) hx hb dX11_sureBy_64 hl (k := 6) rfl (iinc_eq (by decide)) (by decide) rfl (fun ls hl => ?_)
          refine lv_goto (tgt := 5) hx hb dX11_sureBy_67 (by decide) ?_
          exact hk _ _ (Option.some.inj hf).symm (lv_sub hl [4, 5, 6, 1, 0] rfl)
      · have hf := tk c6 hf
        refine lv_iconst (v := (1 : Int32)) hx hb dX11_sureBy_43 (by decide) ?_
        refine lv_goto (tgt := 48) hx hb dX11_sureBy_44 (by decide) ?_
        refine lv_iadd hx hb dX11_sureBy_48 ?_
        refine lv_istore (lv' := [(6, .int ((m_sure (o2).toNatClampNeg) + (1 : Int32))), (5, .int o2), (0, .ref a_m), (1, .int x1), (2, .int x2), (3, .int x3), (4, .int x4)]) hx hb dX11_sureBy_49 hl (by decide) rfl (fun ls hl => ?_)
        refine lv_iload hx hb dX11_sureBy_51 (lv_at hl 0 rfl) ?_
        refine lv_iload_n hx hb dX11_sureBy_53 rfl (lv_at hl 5 rfl) ?_
        refine lv_icmp_le (tgt := 62) hx hb dX11_sureBy_54 (by decide) (fun c8 => ?_) (fun c8 => ?_)
        · have hf := tk c8 hf
          refine lv_iload_n hx hb dX11_sureBy_62 rfl (lv_at hl 5 rfl) ?_
          refine lv_istore_n (lv' := [(3, .int x3), (6, .int ((m_sure (o2).toNatClampNeg) + (1 : Int32))), (5, .int o2), (0, .ref a_m), (1, .int x1), (2, .int x2), (4, .int x4)]) hx hb dX11_sureBy_63 rfl hl (by decide) rfl (fun ls hl => ?_)
          refine lv_iinc (v := (x4 + (1 : Int32))) (lv' := [(4, .int (x4 + (1 : Int32))), (3, .int x3), (6, .int ((m_sure (o2).toNatClampNeg) + (1 : Int32))), (5, .int o2), (0, .ref a_m), (1, .int x1), (2, .int x2)]) hx hb dX11_sureBy_64 hl (k := 6) rfl (iinc_eq (by decide)) (by decide) rfl (fun ls hl => ?_)
          refine lv_goto (tgt := 5) hx hb dX11_sureBy_67 (by decide) ?_
          exact hk _ _ (Option.some.inj hf).symm (lv_sub hl [4, 5, 6, 1, 0] rfl)
        · have hf := fk c8 hf
          refine lv_iload hx hb dX11_sureBy_57 (lv_at hl 0 rfl) ?_
          refine lv_goto (tgt := 63) hx hb dX11_sureBy_59 (by decide) ?_
          refine lv_istore_n (lv' := [(3, .int ((m_sure (o2).toNatClampNeg) + (1 : Int32))), (6, .int ((m_sure (o2).toNatClampNeg) + (1 : Int32))), (5, .int o2), (0, .ref a_m), (1, .int x1), (2, .int x2), (4, .int x4)]) hx hb dX11_sureBy_63 rfl hl (by decide) rfl (fun ls hl => ?_)
          refine lv_iinc (v := (x4 + (1 : Int32))) (lv' := [(4, .int (x4 + (1 : Int32))), (3, .int ((m_sure (o2).toNatClampNeg) + (1 : Int32))), (6, .int ((m_sure (o2).toNatClampNeg) + (1 : Int32))), (5, .int o2), (0, .ref a_m), (1, .int x1), (2, .int x2)]) hx hb dX11_sureBy_64 hl (k := 6) rfl (iinc_eq (by decide)) (by decide) rfl (fun ls hl => ?_)
          refine lv_goto (tgt := 5) hx hb dX11_sureBy_67 (by decide) ?_
          exact hk _ _ (Option.some.inj hf).symm (lv_sub hl [4, 5, 6, 1, 0] rfl)
    · have hf := tk c4 hf
      refine lv_iconst (v := (0 : Int32)) hx hb dX11_sureBy_27 (by decide) ?_
      refine lv_goto (tgt := 49) hx hb dX11_sureBy_28 (by decide) ?_
      refine lv_istore (lv' := [(6, .int (0 : Int32)), (5, .int o2), (0, .ref a_m), (1, .int x1), (2, .int x2), (3, .int x3), (4, .int x4)]) hx hb dX11_sureBy_49 hl (by decide) rfl (fun ls hl => ?_)
      refine lv_iload hx hb dX11_sureBy_51 (lv_at hl 0 rfl) ?_
      refine lv_iload_n hx hb dX11_sureBy_53 rfl (lv_at hl 5 rfl) ?_
      refine lv_icmp_le (tgt := 62) hx hb dX11_sureBy_54 (by decide) (fun c9 => ?_) (fun c9 => ?_)
      · have hf := tk c9 hf
        refine lv_iload_n hx hb dX11_sureBy_62 rfl (lv_at hl 5 rfl) ?_
        refine lv_istore_n (lv' := [(3, .int x3), (6, .int (0 : Int32)), (5, .int o2), (0, .ref a_m), (1, .int x1), (2, .int x2), (4, .int x4)]) hx hb dX11_sureBy_63 rfl hl (by decide) rfl (fun ls hl => ?_)
        refine lv_iinc (v := (x4 + (1 : Int32))) (lv' := [(4, .int (x4 + (1 : Int32))), (3, .int x3), (6, .int (0 : Int32)), (5, .int o2), (0, .ref a_m), (1, .int x1), (2, .int x2)]) hx hb dX11_sureBy_64 hl (k := 6) rfl (iinc_eq (by decide)) (by decide) rfl (fun ls hl => ?_)
        refine lv_goto (tgt := 5) hx hb dX11_sureBy_67 (by decide) ?_
        exact hk _ _ (Option.some.inj hf).symm (lv_sub hl [4, 5, 6, 1, 0] rfl)
      · have hf := fk c9 hf
        refine lv_iload hx hb dX11_sureBy_57 (lv_at hl 0 rfl) ?_
        refine lv_goto (tgt := 63) hx hb dX11_sureBy_59 (by decide) ?_
        refine lv_istore_n (lv' := [(3, .int (0 : Int32)), (6, .int (0 : Int32)), (5, .int o2), (0, .ref a_m), (1, .int x1), (2, .int x2), (4, .int x4)]) hx hb dX11_sureBy_63 rfl hl (by decide) rfl (fun ls hl => ?_)
        refine lv_iinc (v := (x4 + (1 : Int32))) (lv' := [(4, .int (x4 + (1 : Int32))), (3, .int (0 : Int32)), (6, .int (0 : Int32)), (5, .int o2), (0, .ref a_m), (1, .int x1), (2, .int x2)]) hx hb dX11_sureBy_64 hl (k := 6) rfl (iinc_eq (by decide)) (by decide) rfl (fun ls hl => ?_)
        refine lv_goto (tgt := 5) hx hb dX11_sureBy_67 (by decide) ?_
        exact hk _ _ (Option.some.inj hf).symm (lv_sub hl [4, 5, 6, 1, 0] rfl)
set_option maxHeartbeats 4000000 in
set_option maxRecDepth 100000 in
theorem L_X11_sureBy_5_W {m_words : Int32} {m_kindNow : Int32} {m_secretNow : Int32} {m_guessed : Int32} {m_left : Int32} {m_wrong : Int32} {m_noteMany : Int32} {m_markMany : Int32} {m_typed : Int32} {m_readAt : Int32} {m_readNumber : Int32} {m_undoMany : Int32} {m_lastGuesses : Int32} {m_above : Int64} {m_below : Int64} {m_refused : (Nat → Int32)} {m_codes : (Nat → Int32)} {m_noted : (Nat → Int32)} {m_marked : (Nat → Int32)} {m_masks : (Nat → Int32)} {m_text : (Nat → Int32)} {m_before : (Nat → Int32)} {m_ahead : (Nat → Int32)} {m_aside : (Nat → Int32)} {m_sure : (Nat → Int32)} {m_wrongs : (Nat → Int32)} {m_says : (Nat → Int32)} {m_evening : (Nat → Int32)} {m_images : (Nat → Int32)} {x1 : Int32} {x2 : Int32} (CF : CallFix p m c cX11_sureBy 7 s args wsAll RX11) (hG : Gd D cI cB cT s) {o : Int32} (hx0 : ∀ (ls : Array Slot), lv_has ls 7 [(3, .int o)] → W p l e rm_X11_sureBy s m args below meth c s.heap [] 0 0 Q (F0 m 70 ls [])) : ∀ (n : Nat) (x3 : Int32) (x4 : Int32) (ls : Array Slot), va_P D vwCl (wd_m a_m a_m_refused a_m_codes a_m_noted a_m_marked a_m_masks a_m_text a_m_before a_m_ahead a_m_aside a_m_sure a_m_wrongs a_m_says a_m_evening a_m_images cI cB cT m_words m_kindNow m_secretNow m_guessed m_left m_wrong m_noteMany m_markMany m_typed m_readAt m_readNumber m_undoMany m_lastGuesses m_above m_below m_refused m_codes m_noted m_marked m_masks m_text m_before m_ahead m_aside m_sure m_wrongs m_says m_evening m_images) s.heap → lv_has ls 7 [(0, .ref a_m), (1, .int x1), (2, .int x2), (3, .int x3), (4, .int x4)] → lp (fun v => B_X11_sureBy_5 m_words m_masks m_sure x1 x2 v.1 v.2) n (x3, x4) = some o → W p l e rm_X11_sureBy s m args below meth c s.heap [] 0 0 Q (F0 m 5 ls []) := by
  intro n
  induction n with
  | zero =>
    intro x3 x4 ls hP hl hf
    exact (lp_zero hf).elim
  | succ n ih =>
    intro x3 x4 ls hP hl hf
    obtain ⟨z, hz, hf⟩ := lp_succ hf
    refine B_X11_sureBy_5_W CF hG ?_ ?_ hP hl hz
    · intro v' ls ez hl
      rcases hf with ⟨v2, ev, hf⟩ | ev
      · cases Sum.inl.inj (ez.symm.trans ev)
        exact ih v'.1 v'.2 ls hP hl hf
      · exact (lp_lr (ez.symm.trans ev)).elim
    · intro o' ls ez hl
      rcases hf with ⟨v2, ev, hf⟩ | ev
      · exact (lp_lr (ev.symm.trans ez)).elim
      · cases Sum.inr.inj (ez.symm.trans ev)
        exact hx0 ls  hl
set_option maxHeartbeats 4000000 in
set_option maxRecDepth 100000 in
theorem c_X11_sureBy (l : Launch) (D : va_G) (cI cB cT : ClassId) (a_m a_m_refused a_m_codes a_m_noted a_m_marked a_m_masks a_m_text a_m_before a_m_ahead a_m_aside a_m_sure a_m_wrongs a_m_says a_m_evening a_m_images : Nat) (m_words : Int32) (m_kindNow : Int32) (m_secretNow : Int32) (m_guessed : Int32) (m_left : Int32) (m_wrong : Int32) (m_noteMany : Int32) (m_markMany : Int32) (m_typed : Int32) (m_readAt : Int32) (m_readNumber : Int32) (m_undoMany : Int32) (m_lastGuesses : Int32) (m_above : Int64) (m_below : Int64) (m_refused : (Nat → Int32)) (m_codes : (Nat → Int32)) (m_noted : (Nat → Int32)) (m_marked : (Nat → Int32)) (m_masks : (Nat → Int32)) (m_text : (Nat → Int32)) (m_before : (Nat → Int32)) (m_ahead : (Nat → Int32)) (m_aside : (Nat → Int32)) (m_sure : (Nat → Int32)) (m_wrongs : (Nat → Int32)) (m_says : (Nat → Int32)) (m_evening : (Nat → Int32)) (m_images : (Nat → Int32)) (p1 : Int32) (p2 : Int32) {z : Int32} (hf : f_X11_sureBy m_words m_masks m_sure p1 p2 = some z) :
    Met l yX11_sureBy (Cond.code yX11_sureBy cX11_sureBy 7 (some .int) :: wsAll) rm_X11_sureBy (Pro [.ref a_m, .int p1, .int p2] D cI cB cT (wd_m a_m a_m_refused a_m_codes a_m_noted a_m_marked a_m_masks a_m_text a_m_before a_m_ahead a_m_aside a_m_sure a_m_wrongs a_m_says a_m_evening a_m_images cI cB cT m_words m_kindNow m_secretNow m_guessed m_left m_wrong m_noteMany m_markMany m_typed m_readAt m_readNumber m_undoMany m_lastGuesses m_above m_below m_refused m_codes m_noted m_marked m_masks m_text m_before m_ahead m_aside m_sure m_wrongs m_says m_evening m_images)) (Qr (some (.int z))) 0 0 (fun _ => False) := by
  refine ro_intro RX11 (by decide +kernel) rfl (Nat.le_of_ble_eq_true rfl) ?_
  intro p e s m below meth c ls CF hr hlk hG hP hl
  have hl : lv_has ls 7 [(0, .ref a_m), (1, .int p1), (2, .int p2)] := hl
  obtain ⟨hx, hb, hml, hown, hts⟩ := id CF
  unfold f_X11_sureBy at hf
  refine lv_iconst (v := (0 : Int32)) hx hb dX11_sureBy_0 (by decide) ?_
  refine lv_istore_n (lv' := [(3, .int (0 : Int32)), (0, .ref a_m), (1, .int p1), (2, .int p2)]) hx hb dX11_sureBy_1 rfl hl (by decide) rfl (fun ls hl => ?_)
  refine lv_iconst (v := (0 : Int32)) hx hb dX11_sureBy_2 (by decide) ?_
  refine lv_istore (lv' := [(4, .int (0 : Int32)), (3, .int (0 : Int32)), (0, .ref a_m), (1, .int p1), (2, .int p2)]) hx hb dX11_sureBy_3 hl (by decide) rfl (fun ls hl => ?_)
  obtain ⟨o10, e11, hf⟩ := lp_bind hf
  refine L_X11_sureBy_5_W CF hG ?_ KN _ _ _ hP (lv_sub hl [2, 3, 4, 1, 0] rfl) e11
  intro ls hl
  refine lv_iload_n hx hb dX11_sureBy_70 rfl (lv_at hl 0 rfl) ?_
  obtain rfl := Option.some.inj hf
  exact ro_iret CF hr hlk dX11_sureBy_71
end M_X11_sureBy
