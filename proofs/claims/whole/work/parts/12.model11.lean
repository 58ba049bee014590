section M_X11_playsAside
variable {p : Program} {l : Launch} {e : Env} {s : State} {m : MethodId} {args : Array Value} {below : List Frame} {meth : Method} {c : Code} {Q : State → Prop} {A : Nat → Prop} {D : va_G} {cI cB cT : ClassId}
variable {a_m a_m_refused a_m_codes a_m_noted a_m_marked a_m_masks a_m_text a_m_before a_m_ahead a_m_aside a_m_sure a_m_wrongs a_m_says a_m_evening a_m_images : Nat}
def rm_X11_playsAside : Room := { frames := 7, cells := 0, slots := 0, locals := 166 }
def f_X11_playsAside (m_words : Int32) (m_secretNow : Int32) (m_guessed : Int32) (m_left : Int32) (m_wrong : Int32) (m_codes : (Nat → Int32)) (m_masks : (Nat → Int32)) (m_aside : (Nat → Int32)) (p1 : Int32) (p2 : Int32) : Option (Int32 × Int32 × Int32 × Int32 × Int32 × Int32 × (Nat → Int32)) := ((f_X11_lays_m_aside m_secretNow m_guessed m_left m_wrong m_aside (0 : Int32)).bind fun o1 => ((f_X11_plays m_words m_secretNow m_guessed m_left m_wrong m_codes m_masks p1 p2).bind fun o3 => ((f_X11_takes_m_aside o1 (0 : Int32)).bind fun o5 => some (o3.1, o5.1, o5.2.1, o5.2.2.1, o5.2.2.2, o3.2.2.2.2, o1))))
set_option maxHeartbeats 4000000 in
set_option maxRecDepth 100000 in
theorem c_X11_playsAside (l : Launch) (D : va_G) (cI cB cT : ClassId) (sz : Nat) (a_m a_m_refused a_m_codes a_m_noted a_m_marked a_m_masks a_m_text a_m_before a_m_ahead a_m_aside a_m_sure a_m_wrongs a_m_says a_m_evening a_m_images : Nat) (m_words : Int32) (m_kindNow : Int32) (m_secretNow : Int32) (m_guessed : Int32) (m_left : Int32) (m_wrong : Int32) (m_noteMany : Int32) (m_markMany : Int32) (m_typed : Int32) (m_readAt : Int32) (m_readNumber : Int32) (m_undoMany : Int32) (m_lastGuesses : Int32) (m_above : Int64) (m_below : Int64) (m_refused : (Nat → Int32)) (m_codes : (Nat → Int32)) (m_noted : (Nat → Int32)) (m_marked : (Nat → Int32)) (m_masks : (Nat → Int32)) (m_text : (Nat → Int32)) (m_before : (Nat → Int32)) (m_ahead : (Nat → Int32)) (m_aside : (Nat → Int32)) (m_sure : (Nat → Int32)) (m_wrongs : (Nat → Int32)) (m_says : (Nat → Int32)) (m_evening : (Nat → Int32)) (m_images : (Nat → Int32)) (p1 : Int32) (p2 : Int32) {z : Int32 × Int32 × Int32 × Int32 × Int32 × Int32 × (Nat → Int32)} (hf : f_X11_playsAside m_words m_secretNow m_guessed m_left m_wrong m_codes m_masks m_aside p1 p2 = some z) :
    Met l yX11_playsAside (Cond.code yX11_playsAside cX11_playsAside 4 (some .int) :: wsAll) rm_X11_playsAside (Pwr [.ref a_m, .int p1, .int p2] D cI cB cT (wd_m a_m a_m_refused a_m_codes a_m_noted a_m_marked a_m_masks a_m_text a_m_before a_m_ahead a_m_aside a_m_sure a_m_wrongs a_m_says a_m_evening a_m_images cI cB cT m_words m_kindNow m_secretNow m_guessed m_left m_wrong m_noteMany m_markMany m_typed m_readAt m_readNumber m_undoMany m_lastGuesses m_above m_below m_refused m_codes m_noted m_marked m_masks m_text m_before m_ahead m_aside m_sure m_wrongs m_says m_evening m_images) sz) (Qw (some (.int z.1)) D (wd_m a_m a_m_refused a_m_codes a_m_noted a_m_marked a_m_masks a_m_text a_m_before a_m_ahead a_m_aside a_m_sure a_m_wrongs a_m_says a_m_evening a_m_images cI cB cT m_words m_kindNow z.2.1 z.2.2.1 z.2.2.2.1 z.2.2.2.2.1 m_noteMany m_markMany m_typed m_readAt m_readNumber m_undoMany z.2.2.2.2.2.1 m_above m_below m_refused m_codes m_noted m_marked m_masks m_text m_before m_ahead z.2.2.2.2.2.2 m_sure m_wrongs m_says m_evening m_images) (va_A (wd_m a_m a_m_refused a_m_codes a_m_noted a_m_marked a_m_masks a_m_text a_m_before a_m_ahead a_m_aside a_m_sure a_m_wrongs a_m_says a_m_evening a_m_images cI cB cT m_words m_kindNow m_secretNow m_guessed m_left m_wrong m_noteMany m_markMany m_typed m_readAt m_readNumber m_undoMany m_lastGuesses m_above m_below m_refused m_codes m_noted m_marked m_masks m_text m_before m_ahead m_aside m_sure m_wrongs m_says m_evening m_images) sz)) 0 0 (va_A (wd_m a_m a_m_refused a_m_codes a_m_noted a_m_marked a_m_masks a_m_text a_m_before a_m_ahead a_m_aside a_m_sure a_m_wrongs a_m_says a_m_evening a_m_images cI cB cT m_words m_kindNow m_secretNow m_guessed m_left m_wrong m_noteMany m_markMany m_typed m_readAt m_readNumber m_undoMany m_lastGuesses m_above m_below m_refused m_codes m_noted m_marked m_masks m_text m_before m_ahead m_aside m_sure m_wrongs m_says m_evening m_images) sz) := by
  refine wr_intro RX11 (by decide +kernel) rfl (Nat.le_of_ble_eq_true rfl) ?_
  intro p e s m below meth c ls A H locs CF hr hlk hG hP hD hS hA hl
  have hl : lv_has ls 4 [(0, .ref a_m), (1, .int p1), (2, .int p2)] := hl
  obtain ⟨hx, hb, hml, hown, hts⟩ := id CF
  unfold f_X11_playsAside at hf
  refine lv_aload_n hx hb dX11_playsAside_0 rfl (lv_at hl 0 rfl) ?_
  refine lv_aload_n hx hb dX11_playsAside_1 rfl (lv_at hl 0 rfl) ?_
  refine va_get (D := D) (ci := 9) (v := .ref a_m_aside) (C := RX11) (T := TX11) (N := 29) hx hb hts fin_X11 hown hG.1 hP 0 ce_m_0 vq_9 20 (by decide) (hts _ wm_942) (fun _ h9 => h9) rfl dX11_playsAside_2 ?_
  refine lv_iconst (v := (0 : Int32)) hx hb dX11_playsAside_5 (by decide) ?_
  obtain ⟨o1, e2, hf⟩ := lp_bind hf
  refine wr_Wv (ws' := (wd_m a_m a_m_refused a_m_codes a_m_noted a_m_marked a_m_masks a_m_text a_m_before a_m_ahead a_m_aside a_m_sure a_m_wrongs a_m_says a_m_evening a_m_images cI cB cT m_words m_kindNow m_secretNow m_guessed m_left m_wrong m_noteMany m_markMany m_typed m_readAt m_readNumber m_undoMany m_lastGuesses m_above m_below m_refused m_codes m_noted m_marked m_masks m_text m_before m_ahead o1 m_sure m_wrongs m_says m_evening m_images)) (As := [.ref a_m_aside, .int (0 : Int32)]) (rest := []) CF (c_X11_lays_m_aside l D cI cB cT H.size a_m a_m_refused a_m_codes a_m_noted a_m_marked a_m_masks a_m_text a_m_before a_m_ahead a_m_aside a_m_sure a_m_wrongs a_m_says a_m_evening a_m_images m_words m_kindNow m_secretNow m_guessed m_left m_wrong m_noteMany m_markMany m_typed m_readAt m_readNumber m_undoMany m_lastGuesses m_above m_below m_refused m_codes m_noted m_marked m_masks m_text m_before m_ahead m_aside m_sure m_wrongs m_says m_evening m_images (0 : Int32) e2) ok_X11_lays wm_1071 ⟨rfl, rfl, Nat.le_of_ble_eq_true rfl, Nat.le_of_ble_eq_true rfl⟩ hG hP hD hS hA fs_m 0 9 vq_9 rfl ce_m_0 rfl hl.1 rfl (Nat.le_of_ble_eq_true rfl) ⟨Nat.zero_le _, Nat.zero_le _⟩ dX11_playsAside_6 (fun H locs hP hD hS => ?_)
  refine lv_aload_n hx hb dX11_playsAside_9 rfl (lv_at hl 0 rfl) ?_
  refine lv_iload_n hx hb dX11_playsAside_10 rfl (lv_at hl 1 rfl) ?_
  refine lv_iload_n hx hb dX11_playsAside_11 rfl (lv_at hl 2 rfl) ?_
  obtain ⟨o3, e4, hf⟩ := lp_bind hf
  refine wr_Wi (x := o3.1) (ws' := (wd_m a_m a_m_refused a_m_codes a_m_noted a_m_marked a_m_masks a_m_text a_m_before a_m_ahead a_m_aside a_m_sure a_m_wrongs a_m_says a_m_evening a_m_images cI cB cT m_words m_kindNow m_secretNow o3.2.1 o3.2.2.1 o3.2.2.2.1 m_noteMany m_markMany m_typed m_readAt m_readNumber m_undoMany o3.2.2.2.2 m_above m_below m_refused m_codes m_noted m_marked m_masks m_text m_before m_ahead o1 m_sure m_wrongs m_says m_evening m_images)) (As := [.int p1, .int p2]) (rest := []) CF (c_X11_plays l D cI cB cT H.size a_m a_m_refused a_m_codes a_m_noted a_m_marked a_m_masks a_m_text a_m_before a_m_ahead a_m_aside a_m_sure a_m_wrongs a_m_says a_m_evening a_m_images m_words m_kindNow m_secretNow m_guessed m_left m_wrong m_noteMany m_markMany m_typed m_readAt m_readNumber m_undoMany m_lastGuesses m_above m_below m_refused m_codes m_noted m_marked m_masks m_text m_before m_ahead o1 m_sure m_wrongs m_says m_evening m_images p1 p2 e4) ok_X11_plays wm_1301 ⟨rfl, rfl, Nat.le_of_ble_eq_true rfl, Nat.le_of_ble_eq_true rfl⟩ hG hP hD hS hA fs_m 0 9 vq_9 rfl ce_m_0 rfl hl.1 rfl (Nat.le_of_ble_eq_true rfl) ⟨Nat.zero_le _, Nat.zero_le _⟩ dX11_playsAside_12 (fun H locs hP hD hS => ?_)
  refine lv_istore_n (lv' := [(3, .int o3.1), (0, .ref a_m), (1, .int p1), (2, .int p2)]) hx hb dX11_playsAside_15 rfl hl (by decide) rfl (fun ls hl => ?_)
  refine lv_aload_n hx hb dX11_playsAside_16 rfl (lv_at hl 1 rfl) ?_
  refine lv_aload_n hx hb dX11_playsAside_17 rfl (lv_at hl 1 rfl) ?_
  refine va_get (D := D) (ci := 9) (v := .ref a_m_aside) (C := RX11) (T := TX11) (N := 29) hx hb hts fin_X11 hown hG.1 hP 0 ce_m_0 vq_9 20 (by decide) (hts _ wm_942) (fun _ h9 => h9) rfl dX11_playsAside_18 ?_
  refine lv_iconst (v := (0 : Int32)) hx hb dX11_playsAside_21 (by decide) ?_
  obtain ⟨o5, e6, hf⟩ := lp_bind hf
  refine wr_Wv (ws' := (wd_m a_m a_m_refused a_m_codes a_m_noted a_m_marked a_m_masks a_m_text a_m_before a_m_ahead a_m_aside a_m_sure a_m_wrongs a_m_says a_m_evening a_m_images cI cB cT m_words m_kindNow o5.1 o5.2.1 o5.2.2.1 o5.2.2.2 m_noteMany m_markMany m_typed m_readAt m_readNumber m_undoMany o3.2.2.2.2 m_above m_below m_refused m_codes m_noted m_marked m_masks m_text m_before m_ahead o1 m_sure m_wrongs m_says m_evening m_images)) (As := [.ref a_m_aside, .int (0 : Int32)]) (rest := []) CF (c_X11_takes_m_aside l D cI cB cT H.size a_m a_m_refused a_m_codes a_m_noted a_m_marked a_m_masks a_m_text a_m_before a_m_ahead a_m_aside a_m_sure a_m_wrongs a_m_says a_m_evening a_m_images m_words m_kindNow m_secretNow o3.2.1 o3.2.2.1 o3.2.2.2.1 m_noteMany m_markMany m_typed m_readAt m_readNumber m_undoMany o3.2.2.2.2 m_above m_below m_refused m_codes m_noted m_marked m_masks m_text m_before m_ahead o1 m_sure m_wrongs m_says m_evening m_images (0 : Int32) e6) ok_X11_takes wm_1183 ⟨rfl, rfl, Nat.le_of_ble_eq_true rfl, Nat.le_of_ble_eq_true rfl⟩ hG hP hD hS hA fs_m 0 9 vq_9 rfl ce_m_0 rfl hl.1 rfl (Nat.le_of_ble_eq_true rfl) ⟨Nat.zero_le _, Nat.zero_le _⟩ dX11_playsAside_22 (fun H locs hP hD hS => ?_)
  refine lv_iload_n hx hb dX11_playsAside_25 rfl (lv_at hl 0 rfl) ?_
  obtain rfl := Option.some.inj hf
  exact wr_iret CF hr hlk hP hS dX11_playsAside_26
end M_X11_playsAside
section M_X11_ends_
variable {p : Program} {l : Launch} {e : Env} {s : State} {m : MethodId} {args : Array Value} {below : List Frame} {meth : Method} {c : Code} {Q : State → Prop} {A : Nat → Prop} {D : va_G} {cI cB cT : ClassId}
variable {a_m a_m_refused a_m_codes a_m_noted a_m_marked a_m_masks a_m_text a_m_before a_m_ahead a_m_aside a_m_sure a_m_wrongs a_m_says a_m_evening a_m_images : Nat}
def rm_X11_ends_ : Room := { frames := 8, cells := 0, slots := 0, locals := 189 }
def f_X11_ends_ (m_words : Int32) (m_kindNow : Int32) (m_secretNow : Int32) (m_guessed : Int32) (m_left : Int32) (m_wrong : Int32) (m_lastGuesses : Int32) (m_refused : (Nat → Int32)) (m_codes : (Nat → Int32)) (m_masks : (Nat → Int32)) (m_aside : (Nat → Int32)) (p1 : Int32) (p2 : Int32) : Option (Int32 × Int32 × Int32 × Int32 × Int32 × Int32 × (Nat → Int32) × (Nat → Int32)) := ((f_X11_isKind p1).bind fun o1 => (if o1 = 0 then ((f_X11_bad m_refused).bind fun o4 => some (o4.1, m_secretNow, m_guessed, m_left, m_wrong, m_lastGuesses, o4.2, m_aside)) else ((f_X11_in p2 (0 : Int32) (1 : Int32)).bind fun o6 => (if o6 = 0 then ((f_X11_bad m_refused).bind fun o12 => some (o12.1, m_secretNow, m_guessed, m_left, m_wrong, m_lastGuesses, o12.2, m_aside)) else ((f_X11_playsAside m_words m_secretNow m_guessed m_left m_wrong m_codes m_masks m_aside p1 m_kindNow).bind fun o9 => (if p2 = 0 then some (o9.1, o9.2.1, o9.2.2.1, o9.2.2.2.1, o9.2.2.2.2.1, o9.2.2.2.2.2.1, m_refused, o9.2.2.2.2.2.2) else some (o9.2.2.2.2.2.1, o9.2.1, o9.2.2.1, o9.2.2.2.1, o9.2.2.2.2.1, o9.2.2.2.2.2.1, m_refused, o9.2.2.2.2.2.2)))))))
set_option maxHeartbeats 4000000 in
set_option maxRecDepth 100000 in
theorem c_X11_ends_ (l : Launch) (D : va_G) (cI cB cT : ClassId) (sz : Nat) (a_m a_m_refused a_m_codes a_m_noted a_m_marked a_m_masks a_m_text a_m_before a_m_ahead a_m_aside a_m_sure a_m_wrongs a_m_says a_m_evening a_m_images : Nat) (m_words : Int32) (m_kindNow : Int32) (m_secretNow : Int32) (m_guessed : Int32) (m_left : Int32) (m_wrong : Int32) (m_noteMany : Int32) (m_markMany : Int32) (m_typed : Int32) (m_readAt : Int32) (m_readNumber : Int32) (m_undoMany : Int32) (m_lastGuesses : Int32) (m_above : Int64) (m_below : Int64) (m_refused : (Nat → Int32)) (m_codes : (Nat → Int32)) (m_noted : (Nat → Int32)) (m_marked : (Nat → Int32)) (m_masks : (Nat → Int32)) (m_text : (Nat → Int32)) (m_before : (Nat → Int32)) (m_ahead : (Nat → Int32)) (m_aside : (Nat → Int32)) (m_sure : (Nat → Int32)) (m_wrongs : (Nat → Int32)) (m_says : (Nat → Int32)) (m_evening : (Nat → Int32)) (m_images : (Nat → Int32)) (p1 : Int32) (p2 : Int32) {z : Int32 × Int32 × Int32 × Int32 × Int32 × Int32 × (Nat → Int32) × (Nat → Int32)} (hf : f_X11_ends_ m_words m_kindNow m_secretNow m_guessed m_left m_wrong m_lastGuesses m_refused m_codes m_masks m_aside p1 p2 = some z) :
    Met l yX11_ends_ (Cond.code yX11_ends_ cX11_ends_ 4 (some .int) :: wsAll) rm_X11_ends_ (Pwr [.ref a_m, .int p1, .int p2] D cI cB cT (wd_m a_m a_m_refused a_m_codes a_m_noted a_m_marked a_m_masks a_m_text a_m_before a_m_ahead a_m_aside a_m_sure a_m_wrongs a_m_says a_m_evening a_m_images cI cB cT m_words m_kindNow m_secretNow m_guessed m_left m_wrong m_noteMany m_markMany m_typed m_readAt m_readNumber m_undoMany m_lastGuesses m_above m_below m_refused m_codes m_noted m_marked m_masks m_text m_before m_ahead m_aside m_sure m_wrongs m_says m_evening m_images) sz) (Qw (some (.int z.1)) D (wd_m a_m a_m_refused a_m_codes a_m_noted a_m_marked a_m_masks a_m_text a_m_before a_m_ahead a_m_aside a_m_sure a_m_wrongs a_m_says a_m_evening a_m_images cI cB cT m_words m_kindNow z.2.1 z.2.2.1 z.2.2.2.1 z.2.2.2.2.1 m_noteMany m_markMany m_typed m_readAt m_readNumber m_undoMany z.2.2.2.2.2.1 m_above m_below z.2.2.2.2.2.2.1 m_codes m_noted m_marked m_masks m_text m_before m_ahead z.2.2.2.2.2.2.2 m_sure m_wrongs m_says m_evening m_images) (va_A (wd_m a_m a_m_refused a_m_codes a_m_noted a_m_marked a_m_masks a_m_text a_m_before a_m_ahead a_m_aside a_m_sure a_m_wrongs a_m_says a_m_evening a_m_images cI cB cT m_words m_kindNow m_secretNow m_guessed m_left m_wrong m_noteMany m_markMany m_typed m_readAt m_readNumber m_undoMany m_lastGuesses m_above m_below m_refused m_codes m_noted m_marked m_masks m_text m_before m_ahead m_aside m_sure m_wrongs m_says m_evening m_images) sz)) 0 0 (va_A (wd_m a_m a_m_refused a_m_codes a_m_noted a_m_marked a_m_masks a_m_text a_m_before a_m_ahead a_m_aside a_m_sure a_m_wrongs a_m_says a_m_evening a_m_images cI cB cT m_words m_kindNow m_secretNow m_guessed m_left m_wrong m_noteMany m_markMany m_typed m_readAt m_readNumber m_undoMany m_lastGuesses m_above m_below m_refused m_codes m_noted m_marked m_masks m_text m_before m_ahead m_aside m_sure m_wrongs m_says m_evening m_images) sz) := by
  refine wr_intro RX11 (by decide +kernel) rfl (Nat.le_of_ble_eq_true rfl) ?_
  intro p e s m below meth c ls A H locs CF hr hlk hG hP hD hS hA hl
  have hl : lv_has ls 4 [(0, .ref a_m), (1, .int p1), (2, .int p2)] := hl
  obtain ⟨hx, hb, hml, hown, hts⟩ := id CF
  unfold f_X11_ends_ at hf
  refine lv_iload_n hx hb dX11_ends__0 rfl (lv_at hl 1 rfl) ?_
  obtain ⟨o1, e2, hf⟩ := lp_bind hf
  refine ro_Si (x := o1) (As := [.int p1]) (rest := []) CF (c_X11_isKind l D cI cB cT p1 e2) ok_X11_isKind wm_1014 ⟨rfl, rfl, Nat.le_of_ble_eq_true rfl, Nat.le_of_ble_eq_true rfl⟩ hG wd_E_P rfl hl.1 rfl (Nat.le_of_ble_eq_true rfl) ⟨Nat.zero_le _, Nat.zero_le _⟩ dX11_ends__1 ?_
  refine lv_if_eq (tgt := 16) hx hb dX11_ends__4 (by decide) (fun c3 => ?_) (fun c3 => ?_)
  · have hf := tk c3 hf
    refine lv_aload_n hx hb dX11_ends__16 rfl (lv_at hl 0 rfl) ?_
    obtain ⟨o4, e5, hf⟩ := lp_bind hf
    refine wr_Wi (x := o4.1) (ws' := (wd_m a_m a_m_refused a_m_codes a_m_noted a_m_marked a_m_masks a_m_text a_m_before a_m_ahead a_m_aside a_m_sure a_m_wrongs a_m_says a_m_evening a_m_images cI cB cT m_words m_kindNow m_secretNow m_guessed m_left m_wrong m_noteMany m_markMany m_typed m_readAt m_readNumber m_undoMany m_lastGuesses m_above m_below o4.2 m_codes m_noted m_marked m_masks m_text m_before m_ahead m_aside m_sure m_wrongs m_says m_evening m_images)) (As := []) (rest := []) CF (c_X11_bad l D cI cB cT H.size a_m a_m_refused a_m_codes a_m_noted a_m_marked a_m_masks a_m_text a_m_before a_m_ahead a_m_aside a_m_sure a_m_wrongs a_m_says a_m_evening a_m_images m_words m_kindNow m_secretNow m_guessed m_left m_wrong m_noteMany m_markMany m_typed m_readAt m_readNumber m_undoMany m_lastGuesses m_above m_below m_refused m_codes m_noted m_marked m_masks m_text m_before m_ahead m_aside m_sure m_wrongs m_says m_evening m_images e5) ok_X11_bad wm_1020 ⟨rfl, rfl, Nat.le_of_ble_eq_true rfl, Nat.le_of_ble_eq_true rfl⟩ hG hP hD hS hA fs_m 0 9 vq_9 rfl ce_m_0 rfl hl.1 rfl (Nat.le_of_ble_eq_true rfl) ⟨Nat.zero_le _, Nat.zero_le _⟩ dX11_ends__17 (fun H locs hP hD hS => ?_)
    obtain rfl := Option.some.inj hf
    exact wr_iret CF hr hlk hP hS dX11_ends__20
  · have hf := fk c3 hf
    refine lv_iload_n hx hb dX11_ends__7 rfl (lv_at hl 2 rfl) ?_
    refine lv_iconst (v := (0 : Int32)) hx hb dX11_ends__8 (by decide) ?_
    refine lv_iconst (v := (1 : Int32)) hx hb dX11_ends__9 (by decide) ?_
    obtain ⟨o6, e7, hf⟩ := lp_bind hf
    refine ro_Si (x := o6) (As := [.int p2, .int (0 : Int32), .int (1 : Int32)]) (rest := []) CF (c_X11_in l D cI cB cT p2 (0 : Int32) (1 : Int32) e7) ok_X11_in wm_1017 ⟨rfl, rfl, Nat.le_of_ble_eq_true rfl, Nat.le_of_ble_eq_true rfl⟩ hG wd_E_P rfl hl.1 rfl (Nat.le_of_ble_eq_true rfl) ⟨Nat.zero_le _, Nat.zero_le _⟩ dX11_ends__10 ?_
    refine lv_if_ne (tgt := 21) hx hb dX11_ends__13 (by decide) (fun c8 => ?_) (fun c8 => ?_)
    · have hf := fk c8 hf
      refine lv_aload_n hx hb dX11_ends__21 rfl (lv_at hl 0 rfl) ?_
      refine lv_iload_n hx hb dX11_ends__22 rfl (lv_at hl 1 rfl) ?_
      refine lv_aload_n hx hb dX11_ends__23 rfl (lv_at hl 0 rfl) ?_
      refine va_get (D := D) (ci := 9) (v := .int m_kindNow) (C := RX11) (T := TX11) (N := 29) hx hb hts fin_X11 hown hG.1 hP 0 ce_m_0 vq_9 2 (by decide) (hts _ wm_924) (fun _ h9 => h9) rfl dX11_ends__24 ?_
      obtain ⟨o9, e10, hf⟩ := lp_bind hf
      refine wr_Wi (x := o9.1) (ws' := (wd_m a_m a_m_refused a_m_codes a_m_noted a_m_marked a_m_masks a_m_text a_m_before a_m_ahead a_m_aside a_m_sure a_m_wrongs a_m_says a_m_evening a_m_images cI cB cT m_words m_kindNow o9.2.1 o9.2.2.1 o9.2.2.2.1 o9.2.2.2.2.1 m_noteMany m_markMany m_typed m_readAt m_readNumber m_undoMany o9.2.2.2.2.2.1 m_above m_below m_refused m_codes m_noted m_marked m_masks m_text m_before m_ahead o9.2.2.2.2.2.2 m_sure m_wrongs m_says m_evening m_images)) (As := [.int p1, .int m_kindNow]) (rest := []) CF (c_X11_playsAside l D cI cB cT H.size a_m a_m_refused a_m_codes a_m_noted a_m_marked a_m_masks a_m_text a_m_before a_m_ahead a_m_aside a_m_sure a_m_wrongs a_m_says a_m_evening a_m_images m_words m_kindNow m_secretNow m_guessed m_left m_wrong m_noteMany m_markMany m_typed m_readAt m_readNumber m_undoMany m_lastGuesses m_above m_below m_refused m_codes m_noted m_marked m_masks m_text m_before m_ahead m_aside m_sure m_wrongs m_says m_evening m_images p1 m_kindNow e10) ok_X11_playsAside wm_1297 ⟨rfl, rfl, Nat.le_of_ble_eq_true rfl, Nat.le_of_ble_eq_true rfl⟩ hG hP hD hS hA fs_m 0 9 vq_9 rfl ce_m_0 rfl hl.1 rfl (Nat.le_of_ble_eq_true rfl) ⟨Nat.zero_le _, Nat.zero_le _⟩ dX11_ends__27 (fun H locs hP hD hS => ?_)
      refine lv_istore_n (lv' := [(3, .int o9.1), (0, .ref a_m), (1, .int p1), (2, .int p2)]) hx hb dX11_ends__30 rfl hl (by decide) rfl (fun ls hl => ?_)
      refine lv_iload_n hx hb dX11_ends__31 rfl (lv_at hl 3 rfl) ?_
      refine lv_if_ne (tgt := 39) hx hb dX11_ends__32 (by decide) (fun c11 => ?_) (fun c11 => ?_)
      · have hf := fk c11 hf
        refine lv_aload_n hx hb dX11_ends__39 rfl (lv_at hl 1 rfl) ?_
        refine va_get (D := D) (ci := 9) (v := .int o9.2.2.2.2.2.1) (C := RX11) (T := TX11) (N := 29) hx hb hts fin_X11 hown hG.1 hP 0 ce_m_0 vq_9 22 (by decide) (hts _ wm_944) (fun _ h9 => h9) rfl dX11_ends__40 ?_
        obtain rfl := Option.some.inj hf
        exact wr_iret CF hr hlk hP hS dX11_ends__43
      · have hf := tk c11 hf
        refine lv_iload_n hx hb dX11_ends__35 rfl (lv_at hl 0 rfl) ?_
        refine lv_goto (tgt := 43) hx hb dX11_ends__36 (by decide) ?_
        obtain rfl := Option.some.inj hf
        exact wr_iret CF hr hlk hP hS dX11_ends__43
    · have hf := tk c8 hf
      refine lv_aload_n hx hb dX11_ends__16 rfl (lv_at hl 0 rfl) ?_
      obtain ⟨o12, e13, hf⟩ := lp_bind hf
      refine wr_Wi (x := o12.1) (ws' := (wd_m a_m a_m_refused a_m_codes a_m_noted a_m_marked a_m_masks a_m_text a_m_before a_m_ahead a_m_aside a_m_sure a_m_wrongs a_m_says a_m_evening a_m_images cI cB cT m_words m_kindNow m_secretNow m_guessed m_left m_wrong m_noteMany m_markMany m_typed m_readAt m_readNumber m_undoMany m_lastGuesses m_above m_below o12.2 m_codes m_noted m_marked m_masks m_text m_before m_ahead m_aside m_sure m_wrongs m_says m_evening m_images)) (As := []) (rest := []) CF (c_X11_bad l D cI cB cT H.size a_m a_m_refused a_m_codes a_m_noted a_m_marked a_m_masks a_m_text a_m_before a_m_ahead a_m_aside a_m_sure a_m_wrongs a_m_says a_m_evening a_m_images m_words m_kindNow m_secretNow m_guessed m_left m_wrong m_noteMany m_markMany m_typed m_readAt m_readNumber m_undoMany m_lastGuesses m_above m_below m_refused m_codes m_noted m_marked m_masks m_text m_before m_ahead m_aside m_sure m_wrongs m_says m_evening m_images e13) ok_X11_bad wm_1020 ⟨rfl, rfl, Nat.le_of_ble_eq_true rfl, Nat.le_of_ble_eq_true rfl⟩ hG hP hD hS hA fs_m 0 9 vq_9 rfl ce_m_0 rfl hl.1 rfl (Nat.le_of_ble_eq_true rfl) ⟨Nat.zero_le _, Nat.zero_le _⟩ dX11_ends__17 (fun H locs hP hD hS => ?_)
      obtain rfl := Option.some.inj hf
      exact wr_iret CF hr hlk hP hS dX11_ends__20
end M_X11_ends_
section M_X11_tells
variable {p : Program} {l : Launch} {e : Env} {s : State} {m : MethodId} {args : Array Value} {below : List Frame} {meth : Method} {c : Code} {Q : State → Prop} {A : Nat → Prop} {D : va_G} {cI cB cT : ClassId}
variable {a_m a_m_refused a_m_codes a_m_noted a_m_marked a_m_masks a_m_text a_m_before a_m_ahead a_m_aside a_m_sure a_m_wrongs a_m_says a_m_evening a_m_images : Nat}
def rm_X11_tells : Room := { frames := 0, cells := 0, slots := 0, locals := 0 }
def B_X11_tells_6 (x5 : Int64) (x7 : Int64) : Option ((Int64 × Int64) ⊕ (Int64)) := (if (lg_cmp x7 (0 : Int64)) = 0 then some (Sum.inr x5) else (if x7 = 0 then none else some (Sum.inl (x7, (x5 - x5 / x7 * x7)))))
def f_X11_tells (p1 : Int64) (p2 : Int64) : Option (Int32 × Int64 × Int64) := ((lp (fun v => B_X11_tells_6 v.1 v.2) KN (p1, p2)).bind fun o3 => (if o3 = 0 then none else (if o3 = 0 then none else some ((1 : Int32), (p1 / o3), (p2 / o3)))))
set_option maxHeartbeats 4000000 in
set_option maxRecDepth 100000 in
theorem B_X11_tells_6_W {m_words : Int32} {m_kindNow : Int32} {m_secretNow : Int32} {m_guessed : Int32} {m_left : Int32} {m_wrong : Int32} {m_noteMany : Int32} {m_markMany : Int32} {m_typed : Int32} {m_readAt : Int32} {m_readNumber : Int32} {m_undoMany : Int32} {m_lastGuesses : Int32} {m_above : Int64} {m_below : Int64} {m_refused : (Nat → Int32)} {m_codes : (Nat → Int32)} {m_noted : (Nat → Int32)} {m_marked : (Nat → Int32)} {m_masks : (Nat → Int32)} {m_text : (Nat → Int32)} {m_before : (Nat → Int32)} {m_ahead : (Nat → Int32)} {m_aside : (Nat → Int32)} {m_sure : (Nat → Int32)} {m_wrongs : (Nat → Int32)} {m_says : (Nat → Int32)} {m_evening : (Nat → Int32)} {m_images : (Nat → Int32)} {x1 : Int64} {x3 : Int64} {x5 : Int64} {x7 : Int64} (CF : CallFix p m c cX11_tells 11 s args wsAll RX11) (hG : Gd D cI cB cT s) (hA : ∀ q : Nat, s.heap.size ≤ q → A q) {z : (Int64 × Int64) ⊕ (Int64)} {H : Heap} {locs : List Loc} (hk : ∀ (v' : Int64 × Int64) (H : Heap) (locs : List Loc) (ls : Array Slot), z = Sum.inl v' → va_P D vwCl (wd_m a_m a_m_refused a_m_codes a_m_noted a_m_marked a_m_masks a_m_text a_m_before a_m_ahead a_m_aside a_m_sure a_m_wrongs a_m_says a_m_evening a_m_images cI cB cT m_words m_kindNow m_secretNow m_guessed m_left m_wrong m_noteMany m_markMany m_typed m_readAt m_readNumber m_undoMany m_lastGuesses m_above m_below m_refused m_codes m_noted m_marked m_masks m_text m_before m_ahead m_aside m_sure m_wrongs m_says m_evening m_images) H → va_D A (wd_m a_m a_m_refused a_m_codes a_m_noted a_m_marked a_m_masks a_m_text a_m_before a_m_ahead a_m_aside a_m_sure a_m_wrongs a_m_says a_m_evening a_m_images cI cB cT m_words m_kindNow m_secretNow m_guessed m_left m_wrong m_noteMany m_markMany m_typed m_readAt m_readNumber m_undoMany m_lastGuesses m_above m_below m_refused m_codes m_noted m_marked m_masks m_text m_before m_ahead m_aside m_sure m_wrongs m_says m_evening m_images) → va_S A s.heap H locs → lv_has ls 11 [(0, .ref a_m), (1, .long x1), (3, .long x3), (5, .long (v'.1)), (7, .long (v'.2))] → W p l e rm_X11_tells s m args below meth c H locs 0 0 Q (F0 m 6 ls [])) (hx0 : ∀ (o' : Int64) (H : Heap) (locs : List Loc) (ls : Array Slot), z = Sum.inr o' → va_P D vwCl (wd_m a_m a_m_refused a_m_codes a_m_noted a_m_marked a_m_masks a_m_text a_m_before a_m_ahead a_m_aside a_m_sure a_m_wrongs a_m_says a_m_evening a_m_images cI cB cT m_words m_kindNow m_secretNow m_guessed m_left m_wrong m_noteMany m_markMany m_typed m_readAt m_readNumber m_undoMany m_lastGuesses m_above m_below m_refused m_codes m_noted m_marked m_masks m_text m_before m_ahead m_aside m_sure m_wrongs m_says m_evening m_images) H → va_D A (wd_m a_m a_m_refused a_m_codes a_m_noted a_m_marked a_m_masks a_m_text a_m_before a_m_ahead a_m_aside a_m_sure a_m_wrongs a_m_says a_m_evening a_m_images cI cB cT m_words m_kindNow m_secretNow m_guessed m_left m_wrong m_noteMany m_markMany m_typed m_readAt m_readNumber m_undoMany m_lastGuesses m_above m_below m_refused m_codes m_noted m_marked m_masks m_text m_before m_ahead m_aside m_sure m_wrongs m_says m_evening m_images) → va_S A s.heap H locs → lv_has ls 11 [(0, .ref a_m), (1, .long x1), (3, .long x3), (5, .long (o'))] → W p l e rm_X11_tells s m args below meth c H locs 0 0 Q (F0 m 31 ls [])) {ls : Array Slot} (hP : va_P D vwCl (wd_m a_m a_m_refused a_m_codes a_m_noted a_m_marked a_m_masks a_m_text a_m_before a_m_ahead a_m_aside a_m_sure a_m_wrongs a_m_says a_m_evening a_m_images cI cB cT m_words m_kindNow m_secretNow m_guessed m_left m_wrong m_noteMany m_markMany m_typed m_readAt m_readNumber m_undoMany m_lastGuesses m_above m_below m_refused m_codes m_noted m_marked m_masks m_text m_before m_ahead m_aside m_sure m_wrongs m_says m_evening m_images) H) (hD : va_D A (wd_m a_m a_m_refused a_m_codes a_m_noted a_m_marked a_m_masks a_m_text a_m_before a_m_ahead a_m_aside a_m_sure a_m_wrongs a_m_says a_m_evening a_m_images cI cB cT m_words m_kindNow m_secretNow m_guessed m_left m_wrong m_noteMany m_markMany m_typed m_readAt m_readNumber m_undoMany m_lastGuesses m_above m_below m_refused m_codes m_noted m_marked m_masks m_text m_before m_ahead m_aside m_sure m_wrongs m_says m_evening m_images)) (hS : va_S A s.heap H locs) (hl : lv_has ls 11 [(0, .ref a_m), (1, .long x1), (3, .long x3), (5, .long x5), (7, .long x7)]) (hf : B_X11_tells_6 x5 x7 = some z) : W p l e rm_X11_tells s m args below meth c H locs 0 0 Q (F0 m 6 ls []) := by
  obtain ⟨hx, hb, hml, hown, hts⟩ := id CF
  unfold B_X11_tells_6 at hf
  refine lv_lload hx hb dX11_tells_6 (lv_at hl 4 rfl) ?_
  refine lv_lconst (v := (0 : Int64)) hx hb dX11_tells_8 (by decide) ?_
  refine W.lcmp hx hb dX11_tells_9 ?_
  refine lv_if_eq (tgt := 31) hx hb dX11_tells_10 (by decide) (fun c1 => ?_) (fun c1 => ?_)
  · have hf := tk c1 hf
    exact hx0 _ _ _ _ (Option.some.inj hf).symm hP hD hS (lv_sub hl [0, 1, 2, 3] rfl)
  · have hf := fk c1 hf
    refine lv_lload hx hb dX11_tells_13 (lv_at hl 3 rfl) ?_
    refine lv_lload hx hb dX11_tells_15 (lv_at hl 4 rfl) ?_
    obtain ⟨n2, hf⟩ := nk hf
    refine lv_lrem hx hb dX11_tells_17 n2 ?_
    refine lv_lstore (lv' := [(9, .long (x5 - x5 / x7 * x7)), (0, .ref a_m), (1, .long x1), (3, .long x3), (5, .long x5), (7, .long x7)]) hx hb dX11_tells_18 hl (by decide) rfl (fun ls hl => ?_)
    refine lv_lload hx hb dX11_tells_20 (lv_at hl 5 rfl) ?_
    refine lv_lstore (lv' := [(5, .long x7), (9, .long (x5 - x5 / x7 * x7)), (0, .ref a_m), (1, .long x1), (3, .long x3), (7, .long x7)]) hx hb dX11_tells_22 hl (by decide) rfl (fun ls hl => ?_)
    refine lv_lload hx hb dX11_tells_24 (lv_at hl 1 rfl) ?_
    refine lv_lstore (lv' := [(7, .long (x5 - x5 / x7 * x7)), (5, .long x7), (9, .long (x5 - x5 / x7 * x7)), (0, .ref a_m), (1, .long x1), (3, .long x3)]) hx hb dX11_tells_26 hl (by decide) rfl (fun ls hl => ?_)
    refine lv_goto (tgt := 6) hx hb dX11_tells_28 (by decide) ?_
    exact hk _ _ _ _ (Option.some.inj hf).symm hP hD hS (lv_sub hl [3, 4, 5, 1, 0] rfl)
set_option maxHeartbeats 4000000 in
set_option maxRecDepth 100000 in
theorem L_X11_tells_6_W {m_words : Int32} {m_kindNow : Int32} {m_secretNow : Int32} {m_guessed : Int32} {m_left : Int32} {m_wrong : Int32} {m_noteMany : Int32} {m_markMany : Int32} {m_typed : Int32} {m_readAt : Int32} {m_readNumber : Int32} {m_undoMany : Int32} {m_lastGuesses : Int32} {m_above : Int64} {m_below : Int64} {m_refused : (Nat → Int32)} {m_codes : (Nat → Int32)} {m_noted : (Nat → Int32)} {m_marked : (Nat → Int32)} {m_masks : (Nat → Int32)} {m_text : (Nat → Int32)} {m_before : (Nat → Int32)} {m_ahead : (Nat → Int32)} {m_aside : (Nat → Int32)} {m_sure : (Nat → Int32)} {m_wrongs : (Nat → Int32)} {m_says : (Nat → Int32)} {m_evening : (Nat → Int32)} {m_images : (Nat → Int32)} {x1 : Int64} {x3 : Int64} (CF : CallFix p m c cX11_tells 11 s args wsAll RX11) (hG : Gd D cI cB cT s) (hA : ∀ q : Nat, s.heap.size ≤ q → A q) {o : Int64} (hx0 : ∀ (H : Heap) (locs : List Loc) (ls : Array Slot), va_P D vwCl (wd_m a_m a_m_refused a_m_codes a_m_noted a_m_marked a_m_masks a_m_text a_m_before a_m_ahead a_m_aside a_m_sure a_m_wrongs a_m_says a_m_evening a_m_images cI cB cT m_words m_kindNow m_secretNow m_guessed m_left m_wrong m_noteMany m_markMany m_typed m_readAt m_readNumber m_undoMany m_lastGuesses m_above m_below m_refused m_codes m_noted m_marked m_masks m_text m_before m_ahead m_aside m_sure m_wrongs m_says m_evening m_images) H → va_D A (wd_m a_m a_m_refused a_m_codes a_m_noted a_m_marked a_m_masks a_m_text a_m_before a_m_ahead a_m_aside a_m_sure a_m_wrongs a_m_says a_m_evening a_m_images cI cB cT m_words m_kindNow m_secretNow m_guessed m_left m_wrong m_noteMany m_markMany m_typed m_readAt m_readNumber m_undoMany m_lastGuesses m_above m_below m_refused m_codes m_noted m_marked m_masks m_text m_before m_ahead m_aside m_sure m_wrongs m_says m_evening m_images) → va_S A s.heap H locs → lv_has ls 11 [(0, .ref a_m), (1, .long x1), (3, .long x3), (5, .long o)] → W p l e rm_X11_tells s m args below meth c H locs 0 0 Q (F0 m 31 ls [])) : ∀ (n : Nat) (x5 : Int64) (x7 : Int64) (H : Heap) (locs : List Loc) (ls : Array Slot), va_P D vwCl (wd_m a_m a_m_refused a_m_codes a_m_noted a_m_marked a_m_masks a_m_text a_m_before a_m_ahead a_m_aside a_m_sure a_m_wrongs a_m_says a_m_evening a_m_images cI cB cT m_words m_kindNow m_secretNow m_guessed m_left m_wrong m_noteMany m_markMany m_typed m_readAt m_readNumber m_undoMany m_lastGuesses m_above m_below m_refused m_codes m_noted m_marked m_masks m_text m_before m_ahead m_aside m_sure m_wrongs m_says m_evening m_images) H → va_D A (wd_m a_m a_m_refused a_m_codes a_m_noted a_m_marked a_m_masks a_m_text a_m_before a_m_ahead a_m_aside a_m_sure a_m_wrongs a_m_says a_m_evening a_m_images cI cB cT m_words m_kindNow m_secretNow m_guessed m_left m_wrong m_noteMany m_markMany m_typed m_readAt m_readNumber m_undoMany m_lastGuesses m_above m_below m_refused m_codes m_noted m_marked m_masks m_text m_before m_ahead m_aside m_sure m_wrongs m_says m_evening m_images) → va_S A s.heap H locs → lv_has ls 11 [(0, .ref a_m), (1, .long x1), (3, .long x3), (5, .long x5), (7, .long x7)] → lp (fun v => B_X11_tells_6 v.1 v.2) n (x5, x7) = some o → W p l e rm_X11_tells s m args below meth c H locs 0 0 Q (F0 m 6 ls []) := by
  intro n
  induction n with
  | zero =>
    intro x5 x7 H locs ls hP hD hS hl hf
    exact (lp_zero hf).elim
  | succ n ih =>
    intro x5 x7 H locs ls hP hD hS hl hf
    obtain ⟨z, hz, hf⟩ := lp_succ hf
    refine B_X11_tells_6_W CF hG hA ?_ ?_ hP hD hS hl hz
    · intro v' H locs ls ez hP hD hS hl
      rcases hf with ⟨v2, ev, hf⟩ | ev
      · cases Sum.inl.inj (ez.symm.trans ev)
        exact ih v'.1 v'.2 H locs ls hP hD hS hl hf
      · exact (lp_lr (ez.symm.trans ev)).elim
    · intro o' H locs ls ez hP hD hS hl
      rcases hf with ⟨v2, ev, hf⟩ | ev
      · exact (lp_lr (ev.symm.trans ez)).elim
      · cases Sum.inr.inj (ez.symm.trans ev)
        exact hx0 H locs ls hP hD hS hl
set_option maxHeartbeats 4000000 in
set_option maxRecDepth 100000 in
theorem c_X11_tells (l : Launch) (D : va_G) (cI cB cT : ClassId) (sz : Nat) (a_m a_m_refused a_m_codes a_m_noted a_m_marked a_m_masks a_m_text a_m_before a_m_ahead a_m_aside a_m_sure a_m_wrongs a_m_says a_m_evening a_m_images : Nat) (m_words : Int32) (m_kindNow : Int32) (m_secretNow : Int32) (m_guessed : Int32) (m_left : Int32) (m_wrong : Int32) (m_noteMany : Int32) (m_markMany : Int32) (m_typed : Int32) (m_readAt : Int32) (m_readNumber : Int32) (m_undoMany : Int32) (m_lastGuesses : Int32) (m_above : Int64) (m_below : Int64) (m_refused : (Nat → Int32)) (m_codes : (Nat → Int32)) (m_noted : (Nat → Int32)) (m_marked : (Nat → Int32)) (m_masks : (Nat → Int32)) (m_text : (Nat → Int32)) (m_before : (Nat → Int32)) (m_ahead : (Nat → Int32)) (m_aside : (Nat → Int32)) (m_sure : (Nat → Int32)) (m_wrongs : (Nat → Int32)) (m_says : (Nat → Int32)) (m_evening : (Nat → Int32)) (m_images : (Nat → Int32)) (p1 : Int64) (p2 : Int64) {z : Int32 × Int64 × Int64} (hf : f_X11_tells p1 p2 = some z) :
    Met l yX11_tells (Cond.code yX11_tells cX11_tells 11 (some .int) :: wsAll) rm_X11_tells (Pwr [.ref a_m, .long p1, .long p2] D cI cB cT (wd_m a_m a_m_refused a_m_codes a_m_noted a_m_marked a_m_masks a_m_text a_m_before a_m_ahead a_m_aside a_m_sure a_m_wrongs a_m_says a_m_evening a_m_images cI cB cT m_words m_kindNow m_secretNow m_guessed m_left m_wrong m_noteMany m_markMany m_typed m_readAt m_readNumber m_undoMany m_lastGuesses m_above m_below m_refused m_codes m_noted m_marked m_masks m_text m_before m_ahead m_aside m_sure m_wrongs m_says m_evening m_images) sz) (Qw (some (.int z.1)) D (wd_m a_m a_m_refused a_m_codes a_m_noted a_m_marked a_m_masks a_m_text a_m_before a_m_ahead a_m_aside a_m_sure a_m_wrongs a_m_says a_m_evening a_m_images cI cB cT m_words m_kindNow m_secretNow m_guessed m_left m_wrong m_noteMany m_markMany m_typed m_readAt m_readNumber m_undoMany m_lastGuesses z.2.1 z.2.2 m_refused m_codes m_noted m_marked m_masks m_text m_before m_ahead m_aside m_sure m_wrongs m_says m_evening m_images) (va_A (wd_m a_m a_m_refused a_m_codes a_m_noted a_m_marked a_m_masks a_m_text a_m_before a_m_ahead a_m_aside a_m_sure a_m_wrongs a_m_says a_m_evening a_m_images cI cB cT m_words m_kindNow m_secretNow m_guessed m_left m_wrong m_noteMany m_markMany m_typed m_readAt m_readNumber m_undoMany m_lastGuesses m_above m_below m_refused m_codes m_noted m_marked m_masks m_text m_before m_ahead m_aside m_sure m_wrongs m_says m_evening m_images) sz)) 0 0 (va_A (wd_m a_m a_m_refused a_m_codes a_m_noted a_m_marked a_m_masks a_m_text a_m_before a_m_ahead a_m_aside a_m_sure a_m_wrongs a_m_says a_m_evening a_m_images cI cB cT m_words m_kindNow m_secretNow m_guessed m_left m_wrong m_noteMany m_markMany m_typed m_readAt m_readNumber m_undoMany m_lastGuesses m_above m_below m_refused m_codes m_noted m_marked m_masks m_text m_before m_ahead m_aside m_sure m_wrongs m_says m_evening m_images) sz) := by
  refine wr_intro RX11 (by decide +kernel) rfl (Nat.le_of_ble_eq_true rfl) ?_
  intro p e s m below meth c ls A H locs CF hr hlk hG hP hD hS hA hl
  have hl : lv_has ls 11 [(0, .ref a_m), (1, .long p1), (3, .long p2)] := hl
  obtain ⟨hx, hb, hml, hown, hts⟩ := id CF
  unfold f_X11_tells at hf
  refine lv_lload_n hx hb dX11_tells_0 rfl (lv_at hl 1 rfl) ?_
  refine lv_lstore (lv' := [(5, .long p1), (0, .ref a_m), (1, .long p1), (3, .long p2)]) hx hb dX11_tells_1 hl (by decide) rfl (fun ls hl => ?_)
  refine lv_lload_n hx hb dX11_tells_3 rfl (lv_at hl 3 rfl) ?_
  refine lv_lstore (lv' := [(7, .long p2), (5, .long p1), (0, .ref a_m), (1, .long p1), (3, .long p2)]) hx hb dX11_tells_4 hl (by decide) rfl (fun ls hl => ?_)
  obtain ⟨o3, e4, hf⟩ := lp_bind hf
  refine L_X11_tells_6_W CF hG hA ?_ KN _ _ _ _ _ hP hD hS (lv_sub hl [2, 3, 4, 1, 0] rfl) e4
  intro H locs ls hP hD hS hl
  refine lv_aload_n hx hb dX11_tells_31 rfl (lv_at hl 0 rfl) ?_
  refine lv_lload_n hx hb dX11_tells_32 rfl (lv_at hl 1 rfl) ?_
  refine lv_lload hx hb dX11_tells_33 (lv_at hl 3 rfl) ?_
  obtain ⟨n5, hf⟩ := nk hf
  refine lv_ldiv hx hb dX11_tells_35 n5 ?_
  refine va_put (D := D) (ci := 9) (v := .long (p1 / o3)) (ty := .long) (C := RX11) (T := TX11) (N := 29) hx hb hts fin_X11 tyX11 tyX11_ok nmX11 hown hG.1 hP hD hS 0 ce_m_0 vq_9 23 (by decide) (hts _ wm_945) (fun _ h9 => h9) rfl (tyX11_ok 23 (by decide)) rfl rfl (Nat.le_of_ble_eq_true rfl) dX11_tells_36 (fun H locs hP _ hS => ?_)
  have hP : va_P D vwCl (wd_m a_m a_m_refused a_m_codes a_m_noted a_m_marked a_m_masks a_m_text a_m_before a_m_ahead a_m_aside a_m_sure a_m_wrongs a_m_says a_m_evening a_m_images cI cB cT m_words m_kindNow m_secretNow m_guessed m_left m_wrong m_noteMany m_markMany m_typed m_readAt m_readNumber m_undoMany m_lastGuesses (p1 / o3) m_below m_refused m_codes m_noted m_marked m_masks m_text m_before m_ahead m_aside m_sure m_wrongs m_says m_evening m_images) H := va_P_eq se_m_m_above hP
  have hD : va_D A (wd_m a_m a_m_refused a_m_codes a_m_noted a_m_marked a_m_masks a_m_text a_m_before a_m_ahead a_m_aside a_m_sure a_m_wrongs a_m_says a_m_evening a_m_images cI cB cT m_words m_kindNow m_secretNow m_guessed m_left m_wrong m_noteMany m_markMany m_typed m_readAt m_readNumber m_undoMany m_lastGuesses (p1 / o3) m_below m_refused m_codes m_noted m_marked m_masks m_text m_before m_ahead m_aside m_sure m_wrongs m_says m_evening m_images) := va_D_fst fs_m hD
  refine lv_aload_n hx hb dX11_tells_39 rfl (lv_at hl 0 rfl) ?_
  refine lv_lload_n hx hb dX11_tells_40 rfl (lv_at hl 2 rfl) ?_
  refine lv_lload hx hb dX11_tells_41 (lv_at hl 3 rfl) ?_
  obtain ⟨n6, hf⟩ := nk hf
  refine lv_ldiv hx hb dX11_tells_43 n6 ?_
  refine va_put (D := D) (ci := 9) (v := .long (p2 / o3)) (ty := .long) (C := RX11) (T := TX11) (N := 29) hx hb hts fin_X11 tyX11 tyX11_ok nmX11 hown hG.1 hP hD hS 0 ce_m_0 vq_9 24 (by decide) (hts _ wm_946) (fun _ h9 => h9) rfl (tyX11_ok 24 (by decide)) rfl rfl (Nat.le_of_ble_eq_true rfl) dX11_tells_44 (fun H locs hP _ hS => ?_)
  have hP : va_P D vwCl (wd_m a_m a_m_refused a_m_codes a_m_noted a_m_marked a_m_masks a_m_text a_m_before a_m_ahead a_m_aside a_m_sure a_m_wrongs a_m_says a_m_evening a_m_images cI cB cT m_words m_kindNow m_secretNow m_guessed m_left m_wrong m_noteMany m_markMany m_typed m_readAt m_readNumber m_undoMany m_lastGuesses (p1 / o3) (p2 / o3) m_refused m_codes m_noted m_marked m_masks m_text m_before m_ahead m_aside m_sure m_wrongs m_says m_evening m_images) H := va_P_eq se_m_m_below hP
  have hD : va_D A (wd_m a_m a_m_refused a_m_codes a_m_noted a_m_marked a_m_masks a_m_text a_m_before a_m_ahead a_m_aside a_m_sure a_m_wrongs a_m_says a_m_evening a_m_images cI cB cT m_words m_kindNow m_secretNow m_guessed m_left m_wrong m_noteMany m_markMany m_typed m_readAt m_readNumber m_undoMany m_lastGuesses (p1 / o3) (p2 / o3) m_refused m_codes m_noted m_marked m_masks m_text m_before m_ahead m_aside m_sure m_wrongs m_says m_evening m_images) := va_D_fst fs_m hD
  refine lv_iconst (v := (1 : Int32)) hx hb dX11_tells_47 (by decide) ?_
  obtain rfl := Option.some.inj hf
  exact wr_iret CF hr hlk hP hS dX11_tells_48
end M_X11_tells
section M_X11_mean
variable {p : Program} {l : Launch} {e : Env} {s : State} {m : MethodId} {args : Array Value} {below : List Frame} {meth : Method} {c : Code} {Q : State → Prop} {A : Nat → Prop} {D : va_G} {cI cB cT : ClassId}
variable {a_m a_m_refused a_m_codes a_m_noted a_m_marked a_m_masks a_m_text a_m_before a_m_ahead a_m_aside a_m_sure a_m_wrongs a_m_says a_m_evening a_m_images : Nat}
def rm_X11_mean : Room := { frames := 8, cells := 0, slots := 0, locals := 189 }
def B_X11_mean_25 (m_words : Int32) (m_codes : (Nat → Int32)) (m_masks : (Nat → Int32)) (x1 : Int32) (x3 : Int32) (x4 : Int32) (x5 : Int32) (m_secretNow : Int32) (m_guessed : Int32) (m_left : Int32) (m_wrong : Int32) (m_lastGuesses : Int32) (m_aside : (Nat → Int32)) : Option ((Int32 × Int32 × Int32 × Int32 × Int32 × Int32 × Int32 × Int32 × (Nat → Int32)) ⊕ (Int32 × Int32 × Int32 × Int32 × Int32 × Int32 × Int32 × (Nat → Int32))) := (if m_words ≤ x5 then some (Sum.inr (x3, x4, m_secretNow, m_guessed, m_left, m_wrong, m_lastGuesses, m_aside)) else ((f_X11_has m_left x5).bind fun o5 => (if o5 = 0 then some (Sum.inl (x3, x4, (x5 + (1 : Int32)), m_secretNow, m_guessed, m_left, m_wrong, m_lastGuesses, m_aside)) else ((f_X11_playsAside m_words x5 m_guessed m_left m_wrong m_codes m_masks m_aside x1 (0 : Int32)).bind fun o8 => some (Sum.inl ((x3 + (1 : Int32)), (x4 + o8.1), (x5 + (1 : Int32)), o8.2.1, o8.2.2.1, o8.2.2.2.1, o8.2.2.2.2.1, o8.2.2.2.2.2.1, o8.2.2.2.2.2.2))))))
def f_X11_mean (m_words : Int32) (m_secretNow : Int32) (m_guessed : Int32) (m_left : Int32) (m_wrong : Int32) (m_lastGuesses : Int32) (m_above : Int64) (m_below : Int64) (m_refused : (Nat → Int32)) (m_codes : (Nat → Int32)) (m_masks : (Nat → Int32)) (m_aside : (Nat → Int32)) (p1 : Int32) : Option (Int32 × Int32 × Int32 × Int32 × Int32 × Int32 × Int64 × Int64 × (Nat → Int32) × (Nat → Int32)) := ((f_X11_isKind p1).bind fun o1 => (if o1 = 0 then ((f_X11_bad m_refused).bind fun o17 => some (o17.1, m_secretNow, m_guessed, m_left, m_wrong, m_lastGuesses, m_above, m_below, o17.2, m_aside)) else ((lp (fun v => B_X11_mean_25 m_words m_codes m_masks p1 v.1 v.2.1 v.2.2.1 v.2.2.2.1 v.2.2.2.2.1 v.2.2.2.2.2.1 v.2.2.2.2.2.2.1 v.2.2.2.2.2.2.2.1 v.2.2.2.2.2.2.2.2) KN ((0 : Int32), (0 : Int32), (0 : Int32), m_secretNow, m_guessed, m_left, m_wrong, m_lastGuesses, m_aside)).bind fun o10 => (if o10.1 = 0 then ((f_X11_tells (0 : Int64) (1 : Int64)).bind fun o15 => some (o15.1, m_secretNow, o10.2.2.2.1, o10.2.2.2.2.1, o10.2.2.2.2.2.1, o10.2.2.2.2.2.2.1, o15.2.1, o15.2.2, m_refused, o10.2.2.2.2.2.2.2)) else ((f_X11_tells ((o10.2.1).toInt64) ((o10.1).toInt64)).bind fun o13 => some (o13.1, m_secretNow, o10.2.2.2.1, o10.2.2.2.2.1, o10.2.2.2.2.2.1, o10.2.2.2.2.2.2.1, o13.2.1, o13.2.2, m_refused, o10.2.2.2.2.2.2.2))))))
set_option maxHeartbeats 4000000 in
set_option maxRecDepth 100000 in
theorem B_X11_mean_25_W {m_words : Int32} {m_kindNow : Int32} {m_secretNow : Int32} {m_guessed : Int32} {m_left : Int32} {m_wrong : Int32} {m_noteMany : Int32} {m_markMany : Int32} {m_typed : Int32} {m_readAt : Int32} {m_readNumber : Int32} {m_undoMany : Int32} {m_lastGuesses : Int32} {m_above : Int64} {m_below : Int64} {m_refused : (Nat → Int32)} {m_codes : (Nat → Int32)} {m_noted : (Nat → Int32)} {m_marked : (Nat → Int32)} {m_masks : (Nat → Int32)} {m_text : (Nat → Int32)} {m_before : (Nat → Int32)} {m_ahead : (Nat → Int32)} {m_aside : (Nat → Int32)} {m_sure : (Nat → Int32)} {m_wrongs : (Nat → Int32)} {m_says : (Nat → Int32)} {m_evening : (Nat → Int32)} {m_images : (Nat → Int32)} {x1 : Int32} {x2 : Int32} {x3 : Int32} {x4 : Int32} {x5 : Int32} (CF : CallFix p m c cX11_mean 6 s args wsAll RX11) (hG : Gd D cI cB cT s) (hA : ∀ q : Nat, s.heap.size ≤ q → A q) {z : (Int32 × Int32 × Int32 × Int32 × Int32 × Int32 × Int32 × Int32 × (Nat → Int32)) ⊕ (Int32 × Int32 × Int32 × Int32 × Int32 × Int32 × Int32 × (Nat → Int32))} {H : Heap} {locs : List Loc} (hk : ∀ (v' : Int32 × Int32 × Int32 × Int32 × Int32 × Int32 × Int32 × Int32 × (Nat → Int32)) (H : Heap) (locs : List Loc) (ls : Array Slot), z = Sum.inl v' → va_P D vwCl (wd_m a_m a_m_refused a_m_codes a_m_noted a_m_marked a_m_masks a_m_text a_m_before a_m_ahead a_m_aside a_m_sure a_m_wrongs a_m_says a_m_evening a_m_images cI cB cT m_words m_kindNow (v'.2.2.2.1) (v'.2.2.2.2.1) (v'.2.2.2.2.2.1) (v'.2.2.2.2.2.2.1) m_noteMany m_markMany m_typed m_readAt m_readNumber m_undoMany (v'.2.2.2.2.2.2.2.1) m_above m_below m_refused m_codes m_noted m_marked m_masks m_text m_before m_ahead (v'.2.2.2.2.2.2.2.2) m_sure m_wrongs m_says m_evening m_images) H → va_D A (wd_m a_m a_m_refused a_m_codes a_m_noted a_m_marked a_m_masks a_m_text a_m_before a_m_ahead a_m_aside a_m_sure a_m_wrongs a_m_says a_m_evening a_m_images cI cB cT m_words m_kindNow (v'.2.2.2.1) (v'.2.2.2.2.1) (v'.2.2.2.2.2.1) (v'.2.2.2.2.2.2.1) m_noteMany m_markMany m_typed m_readAt m_readNumber m_undoMany (v'.2.2.2.2.2.2.2.1) m_above m_below m_refused m_codes m_noted m_marked m_masks m_text m_before m_ahead (v'.2.2.2.2.2.2.2.2) m_sure m_wrongs m_says m_evening m_images) → va_S A s.heap H locs → lv_has ls 6 [(0, .ref a_m), (1, .int x1), (2, .int x2), (3, .int (v'.1)), (4, .int (v'.2.1)), (5, .int (v'.2.2.1))] → W p l e rm_X11_mean s m args below meth c H locs 0 0 Q (F0 m 25 ls [])) (hx0 : ∀ (o' : Int32 × Int32 × Int32 × Int32 × Int32 × Int32 × Int32 × (Nat → Int32)) (H : Heap) (locs : List Loc) (ls : Array Slot), z = Sum.inr o' → va_P D vwCl (wd_m a_m a_m_refused a_m_codes a_m_noted a_m_marked a_m_masks a_m_text a_m_before a_m_ahead a_m_aside a_m_sure a_m_wrongs a_m_says a_m_evening a_m_images cI cB cT m_words m_kindNow (o'.2.2.1) (o'.2.2.2.1) (o'.2.2.2.2.1) (o'.2.2.2.2.2.1) m_noteMany m_markMany m_typed m_readAt m_readNumber m_undoMany (o'.2.2.2.2.2.2.1) m_above m_below m_refused m_codes m_noted m_marked m_masks m_text m_before m_ahead (o'.2.2.2.2.2.2.2) m_sure m_wrongs m_says m_evening m_images) H → va_D A (wd_m a_m a_m_refused a_m_codes a_m_noted a_m_marked a_m_masks a_m_text a_m_before a_m_ahead a_m_aside a_m_sure a_m_wrongs a_m_says a_m_evening a_m_images cI cB cT m_words m_kindNow (o'.2.2.1) (o'.2.2.2.1) (o'.2.2.2.2.1) (o'.2.2.2.2.2.1) m_noteMany m_markMany m_typed m_readAt m_readNumber m_undoMany (o'.2.2.2.2.2.2.1) m_above m_below m_refused m_codes m_noted m_marked m_masks m_text m_before m_ahead (o'.2.2.2.2.2.2.2) m_sure m_wrongs m_says m_evening m_images) → va_S A s.heap H locs → lv_has ls 6 [(0, .ref a_m), (2, .int x2), (3, .int (o'.1)), (4, .int (o'.2.1))] → W p l e rm_X11_mean s m args below meth c H locs 0 0 Q (F0 m 72 ls [])) {ls : Array Slot} (hP : va_P D vwCl (wd_m a_m a_m_refused a_m_codes a_m_noted a_m_marked a_m_masks a_m_text a_m_before a_m_ahead a_m_aside a_m_sure a_m_wrongs a_m_says a_m_evening a_m_images cI cB cT m_words m_kindNow m_secretNow m_guessed m_left m_wrong m_noteMany m_markMany m_typed m_readAt m_readNumber m_undoMany m_lastGuesses m_above m_below m_refused m_codes m_noted m_marked m_masks m_text m_before m_ahead m_aside m_sure m_wrongs m_says m_evening m_images) H) (hD : va_D A (wd_m a_m a_m_refused a_m_codes a_m_noted a_m_marked a_m_masks a_m_text a_m_before a_m_ahead a_m_aside a_m_sure a_m_wrongs a_m_says a_m_evening a_m_images cI cB cT m_words m_kindNow m_secretNow m_guessed m_left m_wrong m_noteMany m_markMany m_typed m_readAt m_readNumber m_undoMany m_lastGuesses m_above m_below m_refused m_codes m_noted m_marked m_masks m_text m_before m_ahead m_aside m_sure m_wrongs m_says m_evening m_images)) (hS : va_S A s.heap H locs) (hl : lv_has ls 6 [(0, .ref a_m), (1, .int x1), (2, .int x2), (3, .int x3), (4, .int x4), (5, .int x5)]) (hf : B_X11_mean_25 m_words m_codes m_masks x1 x3 x4 x5 m_secretNow m_guessed m_left m_wrong m_lastGuesses m_aside = some z) : W p l e rm_X11_mean s m args below meth c H locs 0 0 Q (F0 m 25 ls []) := by
  obtain ⟨hx, hb, hml, hown, hts⟩ := id CF
  unfold B_X11_mean_25 at hf
  refine lv_iload hx hb dX11_mean_25 (lv_at hl 5 rfl) ?_
  refine lv_aload_n hx hb dX11_mean_27 rfl (lv_at hl 0 rfl) ?_
  refine va_get (D := D) (ci := 9) (v := .int m_words) (C := RX11) (T := TX11) (N := 29) hx hb hts fin_X11 hown hG.1 hP 0 ce_m_0 vq_9 1 (by decide) (hts _ wm_923) (fun _ h9 => h9) rfl dX11_mean_28 ?_
  refine lv_icmp_ge (tgt := 72) hx hb dX11_mean_31 (by decide) (fun c4 => ?_) (fun c4 => ?_)
  · have hf := tk c4 hf
    exact hx0 _ _ _ _ (Option.some.inj hf).symm hP hD hS (lv_sub hl [0, 2, 3, 4] rfl)
  · have hf := fk c4 hf
    refine lv_aload_n hx hb dX11_mean_34 rfl (lv_at hl 0 rfl) ?_
    refine va_get (D := D) (ci := 9) (v := .int m_left) (C := RX11) (T := TX11) (N := 29) hx hb hts fin_X11 hown hG.1 hP 0 ce_m_0 vq_9 5 (by decide) (hts _ wm_927) (fun _ h9 => h9) rfl dX11_mean_35 ?_
    refine lv_iload hx hb dX11_mean_38 (lv_at hl 5 rfl) ?_
    obtain ⟨o5, e6, hf⟩ := lp_bind hf
    refine ro_Si (x := o5) (As := [.int m_left, .int x5]) (rest := []) CF (c_X11_has l D cI cB cT m_left x5 e6) ok_X11_has wm_1133 ⟨rfl, rfl, Nat.le_of_ble_eq_true rfl, Nat.le_of_ble_eq_true rfl⟩ hG wd_E_P rfl hl.1 rfl (Nat.le_of_ble_eq_true rfl) ⟨Nat.zero_le _, Nat.zero_le _⟩ dX11_mean_40 ?_
    refine lv_if_eq (tgt := 66) hx hb dX11_mean_43 (by decide) (fun c7 => ?_) (fun c7 => ?_)
    · have hf := tk c7 hf
      refine lv_iinc (v := (x5 + (1 : Int32))) (lv' := [(5, .int (x5 + (1 : Int32))), (0, .ref a_m), (1, .int x1), (2, .int x2), (3, .int x3), (4, .int x4)]) hx hb dX11_mean_66 hl (k := 5) rfl (iinc_eq (by decide)) (by decide) rfl (fun ls hl => ?_)
      refine lv_goto (tgt := 25) hx hb dX11_mean_69 (by decide) ?_
      exact hk _ _ _ _ (Option.some.inj hf).symm hP hD hS (lv_sub hl [1, 2, 3, 4, 5, 0] rfl)
    · have hf := fk c7 hf
      refine lv_aload_n hx hb dX11_mean_46 rfl (lv_at hl 0 rfl) ?_
      refine lv_iload hx hb dX11_mean_47 (lv_at hl 5 rfl) ?_
      refine va_put (D := D) (ci := 9) (v := .int x5) (ty := .int) (C := RX11) (T := TX11) (N := 29) hx hb hts fin_X11 tyX11 tyX11_ok nmX11 hown hG.1 hP hD hS 0 ce_m_0 vq_9 3 (by decide) (hts _ wm_925) (fun _ h9 => h9) rfl (tyX11_ok 3 (by decide)) rfl rfl (Nat.le_of_ble_eq_true rfl) dX11_mean_49 (fun H locs hP _ hS => ?_)
      have hP : va_P D vwCl (wd_m a_m a_m_refused a_m_codes a_m_noted a_m_marked a_m_masks a_m_text a_m_before a_m_ahead a_m_aside a_m_sure a_m_wrongs a_m_says a_m_evening a_m_images cI cB cT m_words m_kindNow x5 m_guessed m_left m_wrong m_noteMany m_markMany m_typed m_readAt m_readNumber m_undoMany m_lastGuesses m_above m_below m_refused m_codes m_noted m_marked m_masks m_text m_before m_ahead m_aside m_sure m_wrongs m_says m_evening m_images) H := va_P_eq se_m_m_secretNow hP
      have hD : va_D A (wd_m a_m a_m_refused a_m_codes a_m_noted a_m_marked a_m_masks a_m_text a_m_before a_m_ahead a_m_aside a_m_sure a_m_wrongs a_m_says a_m_evening a_m_images cI cB cT m_words m_kindNow x5 m_guessed m_left m_wrong m_noteMany m_markMany m_typed m_readAt m_readNumber m_undoMany m_lastGuesses m_above m_below m_refused m_codes m_noted m_marked m_masks m_text m_before m_ahead m_aside m_sure m_wrongs m_says m_evening m_images) := va_D_fst fs_m hD
      refine lv_iload hx hb dX11_mean_52 (lv_at hl 4 rfl) ?_
      refine lv_aload_n hx hb dX11_mean_54 rfl (lv_at hl 0 rfl) ?_
      refine lv_iload_n hx hb dX11_mean_55 rfl (lv_at hl 1 rfl) ?_
      refine lv_iconst (v := (0 : Int32)) hx hb dX11_mean_56 (by decide) ?_
      obtain ⟨o8, e9, hf⟩ := lp_bind hf
      refine wr_Wi (x := o8.1) (ws' := (wd_m a_m a_m_refused a_m_codes a_m_noted a_m_marked a_m_masks a_m_text a_m_before a_m_ahead a_m_aside a_m_sure a_m_wrongs a_m_says a_m_evening a_m_images cI cB cT m_words m_kindNow o8.2.1 o8.2.2.1 o8.2.2.2.1 o8.2.2.2.2.1 m_noteMany m_markMany m_typed m_readAt m_readNumber m_undoMany o8.2.2.2.2.2.1 m_above m_below m_refused m_codes m_noted m_marked m_masks m_text m_before m_ahead o8.2.2.2.2.2.2 m_sure m_wrongs m_says m_evening m_images)) (As := [.int x1, .int (0 : Int32)]) (rest := [.int x4]) CF (c_X11_playsAside l D cI cB cT H.size a_m a_m_refused a_m_codes a_m_noted a_m_marked a_m_masks a_m_text a_m_before a_m_ahead a_m_aside a_m_sure a_m_wrongs a_m_says a_m_evening a_m_images m_words m_kindNow x5 m_guessed m_left m_wrong m_noteMany m_markMany m_typed m_readAt m_readNumber m_undoMany m_lastGuesses m_above m_below m_refused m_codes m_noted m_marked m_masks m_text m_before m_ahead m_aside m_sure m_wrongs m_says m_evening m_images x1 (0 : Int32) e9) ok_X11_playsAside wm_1297 ⟨rfl, rfl, Nat.le_of_ble_eq_true rfl, Nat.le_of_ble_eq_true rfl⟩ hG hP hD hS hA fs_m 0 9 vq_9 rfl ce_m_0 rfl hl.1 rfl (Nat.le_of_ble_eq_true rfl) ⟨Nat.zero_le _, Nat.zero_le _⟩ dX11_mean_57 (fun H locs hP hD hS => ?_)
      refine lv_iadd hx hb dX11_mean_60 ?_
      refine lv_istore (lv' := [(4, .int (x4 + o8.1)), (0, .ref a_m), (1, .int x1), (2, .int x2), (3, .int x3), (5, .int x5)]) hx hb dX11_mean_61 hl (by decide) rfl (fun ls hl => ?_)
      refine lv_iinc (v := (x3 + (1 : Int32))) (lv' := [(3, .int (x3 + (1 : Int32))), (4, .int (x4 + o8.1)), (0, .ref a_m), (1, .int x1), (2, .int x2), (5, .int x5)]) hx hb dX11_mean_63 hl (k := 4) rfl (iinc_eq (by decide)) (by decide) rfl (fun ls hl => ?_)
      refine lv_iinc (v := (x5 + (1 : Int32))) (lv' := [(5, .int (x5 + (1 : Int32))), (3, .int (x3 + (1 : Int32))), (4, .int (x4 + o8.1)), (0, .ref a_m), (1, .int x1), (2, .int x2)]) hx hb dX11_mean_66 hl (k := 5) rfl (iinc_eq (by decide)) (by decide) rfl (fun ls hl => ?_)
      refine lv_goto (tgt := 25) hx hb dX11_mean_69 (by decide) ?_
      exact hk _ _ _ _ (Option.some.inj hf).symm hP hD hS (lv_sub hl [3, 4, 5, 1, 2, 0] rfl)
set_option maxHeartbeats 4000000 in
set_option maxRecDepth 100000 in
theorem L_X11_mean_25_W {m_words : Int32} {m_kindNow : Int32} {m_noteMany : Int32} {m_markMany : Int32} {m_typed : Int32} {m_readAt : Int32} {m_readNumber : Int32} {m_undoMany : Int32} {m_above : Int64} {m_below : Int64} {m_refused : (Nat → Int32)} {m_codes : (Nat → Int32)} {m_noted : (Nat → Int32)} {m_marked : (Nat → Int32)} {m_masks : (Nat → Int32)} {m_text : (Nat → Int32)} {m_before : (Nat → Int32)} {m_ahead : (Nat → Int32)} {m_sure : (Nat → Int32)} {m_wrongs : (Nat → Int32)} {m_says : (Nat → Int32)} {m_evening : (Nat → Int32)} {m_images : (Nat → Int32)} {x1 : Int32} {x2 : Int32} (CF : CallFix p m c cX11_mean 6 s args wsAll RX11) (hG : Gd D cI cB cT s) (hA : ∀ q : Nat, s.heap.size ≤ q → A q) {o : Int32 × Int32 × Int32 × Int32 × Int32 × Int32 × Int32 × (Nat → Int32)} (hx0 : ∀ (H : Heap) (locs : List Loc) (ls : Array Slot), va_P D vwCl (wd_m a_m a_m_refused a_m_codes a_m_noted a_m_marked a_m_masks a_m_text a_m_before a_m_ahead a_m_aside a_m_sure a_m_wrongs a_m_says a_m_evening a_m_images cI cB cT m_words m_kindNow o.2.2.1 o.2.2.2.1 o.2.2.2.2.1 o.2.2.2.2.2.1 m_noteMany m_markMany m_typed m_readAt m_readNumber m_undoMany o.2.2.2.2.2.2.1 m_above m_below m_refused m_codes m_noted m_marked m_masks m_text m_before m_ahead o.2.2.2.2.2.2.2 m_sure m_wrongs m_says m_evening m_images) H → va_D A (wd_m a_m a_m_refused a_m_codes a_m_noted a_m_marked a_m_masks a_m_text a_m_before a_m_ahead a_m_aside a_m_sure a_m_wrongs a_m_says a_m_evening a_m_images cI cB cT m_words m_kindNow o.2.2.1 o.2.2.2.1 o.2.2.2.2.1 o.2.2.2.2.2.1 m_noteMany m_markMany m_typed m_readAt m_readNumber m_undoMany o.2.2.2.2.2.2.1 m_above m_below m_refused m_codes m_noted m_marked m_masks m_text m_before m_ahead o.2.2.2.2.2.2.2 m_sure m_wrongs m_says m_evening m_images) → va_S A s.heap H locs → lv_has ls 6 [(0, .ref a_m), (2, .int x2), (3, .int o.1), (4, .int o.2.1)] → W p l e rm_X11_mean s m args below meth c H locs 0 0 Q (F0 m 72 ls [])) : ∀ (n : Nat) (x3 : Int32) (x4 : Int32) (x5 : Int32) (m_secretNow : Int32) (m_guessed : Int32) (m_left : Int32) (m_wrong : Int32) (m_lastGuesses : Int32) (m_aside : (Nat → Int32)) (H : Heap) (locs : List Loc) (ls : Array Slot), va_P D vwCl (wd_m a_m a_m_refused a_m_codes a_m_noted a_m_marked a_m_masks a_m_text a_m_before a_m_ahead a_m_aside a_m_sure a_m_wrongs a_m_says a_m_evening a_m_images cI cB cT m_words m_kindNow m_secretNow m_guessed m_left m_wrong m_noteMany m_markMany m_typed m_readAt m_readNumber m_undoMany m_lastGuesses m_above m_below m_refused m_codes m_noted m_marked m_masks m_text m_before m_ahead m_aside m_sure m_wrongs m_says m_evening m_images) H → va_D A (wd_m a_m a_m_refused a_m_codes a_m_noted a_m_marked a_m_masks a_m_text a_m_before a_m_ahead a_m_aside a_m_sure a_m_wrongs a_m_says a_m_evening a_m_images cI cB cT m_words m_kindNow m_secretNow m_guessed m_left m_wrong m_noteMany m_markMany m_typed m_readAt m_readNumber m_undoMany m_lastGuesses m_above m_below m_refused m_codes m_noted m_marked m_masks m_text m_before m_ahead m_aside m_sure m_wrongs m_says m_evening m_images) → va_S A s.heap H locs → lv_has ls 6 [(0, .ref a_m), (1, .int x1), (2, .int x2), (3, .int x3), (4, .int x4), (5, .int x5)] → lp (fun v => B_X11_mean_25 m_words m_codes m_masks x1 v.1 v.2.1 v.2.2.1 v.2.2.2.1 v.2.2.2.2.1 v.2.2.2.2.2.1 v.2.2.2.2.2.2.1 v.2.2.2.2.2.2.2.1 v.2.2.2.2.2.2.2.2) n (x3, x4, x5, m_secretNow, m_guessed, m_left, m_wrong, m_lastGuesses, m_aside) = some o → W p l e rm_X11_mean s m args below meth c H locs 0 0 Q (F0 m 25 ls []) := by
  intro n
  induction n with
  | zero =>
    intro x3 x4 x5 m_secretNow m_guessed m_left m_wrong m_lastGuesses m_aside H locs ls hP hD hS hl hf
    exact (lp_zero hf).elim
  | succ n ih =>
    intro x3 x4 x5 m_secretNow m_guessed m_left m_wrong m_lastGuesses m_aside H locs ls hP hD hS hl hf
    obtain ⟨z, hz, hf⟩ := lp_succ hf
    refine B_X11_mean_25_W CF hG hA ?_ ?_ hP hD hS hl hz
    · intro v' H locs ls ez hP hD hS hl
      rcases hf with ⟨v2, ev, hf⟩ | ev
      · cases Sum.inl.inj (ez.symm.trans ev)
        exact ih v'.1 v'.2.1 v'.2.2.1 v'.2.2.2.1 v'.2.2.2.2.1 v'.2.2.2.2.2.1 v'.2.2.2.2.2.2.1 v'.2.2.2.2.2.2.2.1 v'.2.2.2.2.2.2.2.2 H locs ls hP hD hS hl hf
      · exact (lp_lr (ez.symm.trans ev)).elim
    · intro o' H locs ls ez hP hD hS hl
      rcases hf with ⟨v2, ev, hf⟩ | ev
      · exact (lp_lr (ev.symm.trans ez)).elim
      · cases Sum.inr.inj (ez.symm.trans ev)
        exact hx0 H locs ls hP hD hS hl
set_option maxHeartbeats 4000000 in
set_option maxRecDepth 100000 in
theorem c_X11_mean (l : Launch) (D : va_G) (cI cB cT : ClassId) (sz : Nat) (a_m a_m_refused a_m_codes a_m_noted a_m_marked a_m_masks a_m_text a_m_before a_m_ahead a_m_aside a_m_sure a_m_wrongs a_m_says a_m_evening a_m_images : Nat) (m_words : Int32) (m_kindNow : Int32) (m_secretNow : Int32) (m_guessed : Int32) (m_left : Int32) (m_wrong : Int32) (m_noteMany : Int32) (m_markMany : Int32) (m_typed : Int32) (m_readAt : Int32) (m_readNumber : Int32) (m_undoMany : Int32) (m_lastGuesses : Int32) (m_above : Int64) (m_below : Int64) (m_refused : (Nat → Int32)) (m_codes : (Nat → Int32)) (m_noted : (Nat → Int32)) (m_marked : (Nat → Int32)) (m_masks : (Nat → Int32)) (m_text : (Nat → Int32)) (m_before : (Nat → Int32)) (m_ahead : (Nat → Int32)) (m_aside : (Nat → Int32)) (m_sure : (Nat → Int32)) (m_wrongs : (Nat → Int32)) (m_says : (Nat → Int32)) (m_evening : (Nat → Int32)) (m_images : (Nat → Int32)) (p1 : Int32) {z : Int32 × Int32 × Int32 × Int32 × Int32 × Int32 × Int64 × Int64 × (Nat → Int32) × (Nat → Int32)} (hf : f_X11_mean m_words m_secretNow m_guessed m_left m_wrong m_lastGuesses m_above m_below m_refused m_codes m_masks m_aside p1 = some z) :
    Met l yX11_mean (Cond.code yX11_mean cX11_mean 6 (some .int) :: wsAll) rm_X11_mean (Pwr [.ref a_m, .int p1] D cI cB cT (wd_m a_m a_m_refused a_m_codes a_m_noted a_m_marked a_m_masks a_m_text a_m_before a_m_ahead a_m_aside a_m_sure a_m_wrongs a_m_says a_m_evening a_m_images cI cB cT m_words m_kindNow m_secretNow m_guessed m_left m_wrong m_noteMany m_markMany m_typed m_readAt m_readNumber m_undoMany m_lastGuesses m_above m_below m_refused m_codes m_noted m_marked m_masks m_text m_before m_ahead m_aside m_sure m_wrongs m_says m_evening m_images) sz) (Qw (some (.int z.1)) D (wd_m a_m a_m_refused a_m_codes a_m_noted a_m_marked a_m_masks a_m_text a_m_before a_m_ahead a_m_aside a_m_sure a_m_wrongs a_m_says a_m_evening a_m_images cI cB cT m_words m_kindNow z.2.1 z.2.2.1 z.2.2.2.1 z.2.2.2.2.1 m_noteMany m_markMany m_typed m_readAt m_readNumber m_undoMany z.2.2.2.2.2.1 z.2.2.2.2.2.2.1 z.2.2.2.2.2.2.2.1 z.2.2.2.2.2.2.2.2.1 m_codes m_noted m_marked m_masks m_text m_before m_ahead z.2.2.2.2.2.2.2.2.2 m_sure m_wrongs m_says m_evening m_images) (va_A (wd_m a_m a_m_refused a_m_codes a_m_noted a_m_marked a_m_masks a_m_text a_m_before a_m_ahead a_m_aside a_m_sure a_m_wrongs a_m_says a_m_evening a_m_images cI cB cT m_words m_kindNow m_secretNow m_guessed m_left m_wrong m_noteMany m_markMany m_typed m_readAt m_readNumber m_undoMany m_lastGuesses m_above m_below m_refused m_codes m_noted m_marked m_masks m_text m_before m_ahead m_aside m_sure m_wrongs m_says m_evening m_images) sz)) 0 0 (va_A (wd_m a_m a_m_refused a_m_codes a_m_noted a_m_marked a_m_masks a_m_text a_m_before a_m_ahead a_m_aside a_m_sure a_m_wrongs a_m_says a_m_evening a_m_images cI cB cT m_words m_kindNow m_secretNow m_guessed m_left m_wrong m_noteMany m_markMany m_typed m_readAt m_readNumber m_undoMany m_lastGuesses m_above m_below m_refused m_codes m_noted m_marked m_masks m_text m_before m_ahead m_aside m_sure m_wrongs m_says m_evening m_images) sz) := by
  refine wr_intro RX11 (by decide +kernel) rfl (Nat.le_of_ble_eq_true rfl) ?_
  intro p e s m below meth c ls A H locs CF hr hlk hG hP hD hS hA hl
  have hl : lv_has ls 6 [(0, .ref a_m), (1, .int p1)] := hl
  obtain ⟨hx, hb, hml, hown, hts⟩ := id CF
  unfold f_X11_mean at hf
  refine lv_iload_n hx hb dX11_mean_0 rfl (lv_at hl 1 rfl) ?_
  obtain ⟨o1, e2, hf⟩ := lp_bind hf
  refine ro_Si (x := o1) (As := [.int p1]) (rest := []) CF (c_X11_isKind l D cI cB cT p1 e2) ok_X11_isKind wm_1014 ⟨rfl, rfl, Nat.le_of_ble_eq_true rfl, Nat.le_of_ble_eq_true rfl⟩ hG wd_E_P rfl hl.1 rfl (Nat.le_of_ble_eq_true rfl) ⟨Nat.zero_le _, Nat.zero_le _⟩ dX11_mean_1 ?_
  refine lv_if_ne (tgt := 12) hx hb dX11_mean_4 (by decide) (fun c3 => ?_) (fun c3 => ?_)
  · have hf := fk c3 hf
    refine lv_aload_n hx hb dX11_mean_12 rfl (lv_at hl 0 rfl) ?_
    refine va_get (D := D) (ci := 9) (v := .int m_secretNow) (C := RX11) (T := TX11) (N := 29) hx hb hts fin_X11 hown hG.1 hP 0 ce_m_0 vq_9 3 (by decide) (hts _ wm_925) (fun _ h9 => h9) rfl dX11_mean_13 ?_
    refine lv_istore_n (lv' := [(2, .int m_secretNow), (0, .ref a_m), (1, .int p1)]) hx hb dX11_mean_16 rfl hl (by decide) rfl (fun ls hl => ?_)
    refine lv_iconst (v := (0 : Int32)) hx hb dX11_mean_17 (by decide) ?_
    refine lv_istore_n (lv' := [(3, .int (0 : Int32)), (2, .int m_secretNow), (0, .ref a_m), (1, .int p1)]) hx hb dX11_mean_18 rfl hl (by decide) rfl (fun ls hl => ?_)
    refine lv_iconst (v := (0 : Int32)) hx hb dX11_mean_19 (by decide) ?_
    refine lv_istore (lv' := [(4, .int (0 : Int32)), (3, .int (0 : Int32)), (2, .int m_secretNow), (0, .ref a_m), (1, .int p1)]) hx hb dX11_mean_20 hl (by decide) rfl (fun ls hl => ?_)
    refine lv_iconst (v := (0 : Int32)) hx hb dX11_mean_22 (by decide) ?_
    refine lv_istore (lv' := [(5, .int (0 : Int32)), (4, .int (0 : Int32)), (3, .int (0 : Int32)), (2, .int m_secretNow), (0, .ref a_m), (1, .int p1)]) hx hb dX11_mean_23 hl (by decide) rfl (fun ls hl => ?_)
    obtain ⟨o10, e11, hf⟩ := lp_bind hf
    refine L_X11_mean_25_W CF hG hA ?_ KN _ _ _ _ _ _ _ _ _ _ _ _ hP hD hS (lv_sub hl [4, 5, 3, 2, 1, 0] rfl) e11
    intro H locs ls hP hD hS hl
    refine lv_aload_n hx hb dX11_mean_72 rfl (lv_at hl 0 rfl) ?_
    refine lv_iload_n hx hb dX11_mean_73 rfl (lv_at hl 1 rfl) ?_
    refine va_put (D := D) (ci := 9) (v := .int m_secretNow) (ty := .int) (C := RX11) (T := TX11) (N := 29) hx hb hts fin_X11 tyX11 tyX11_ok nmX11 hown hG.1 hP hD hS 0 ce_m_0 vq_9 3 (by decide) (hts _ wm_925) (fun _ h9 => h9) rfl (tyX11_ok 3 (by decide)) rfl rfl (Nat.le_of_ble_eq_true rfl) dX11_mean_74 (fun H locs hP _ hS => ?_)
    have hP : va_P D vwCl (wd_m a_m a_m_refused a_m_codes a_m_noted a_m_marked a_m_masks a_m_text a_m_before a_m_ahead a_m_aside a_m_sure a_m_wrongs a_m_says a_m_evening a_m_images cI cB cT m_words m_kindNow m_secretNow o10.2.2.2.1 o10.2.2.2.2.1 o10.2.2.2.2.2.1 m_noteMany m_markMany m_typed m_readAt m_readNumber m_undoMany o10.2.2.2.2.2.2.1 m_above m_below m_refused m_codes m_noted m_marked m_masks m_text m_before m_ahead o10.2.2.2.2.2.2.2 m_sure m_wrongs m_says m_evening m_images) H := va_P_eq se_m_m_secretNow hP
    have hD : va_D A (wd_m a_m a_m_refused a_m_codes a_m_noted a_m_marked a_m_masks a_m_text a_m_before a_m_ahead a_m_aside a_m_sure a_m_wrongs a_m_says a_m_evening a_m_images cI cB cT m_words m_kindNow m_secretNow o10.2.2.2.1 o10.2.2.2.2.1 o10.2.2.2.2.2.1 m_noteMany m_markMany m_typed m_readAt m_readNumber m_undoMany o10.2.2.2.2.2.2.1 m_above m_below m_refused m_codes m_noted m_marked m_masks m_text m_before m_ahead o10.2.2.2.2.2.2.2 m_sure m_wrongs m_says m_evening m_images) := va_D_fst fs_m hD
    refine lv_iload_n hx hb dX11_mean_77 rfl (lv_at hl 2 rfl) ?_
    refine lv_if_ne (tgt := 90) hx hb dX11_mean_78 (by decide) (fun c12 => ?_) (fun c12 => ?_)
    · have hf := fk c12 hf
      refine lv_aload_n hx hb dX11_mean_90 rfl (lv_at hl 0 rfl) ?_
      refine lv_iload hx hb dX11_mean_91 (lv_at hl 3 rfl) ?_
      refine lv_i2l hx hb dX11_mean_93 rfl ?_
      refine lv_iload_n hx hb dX11_mean_94 rfl (lv_at hl 2 rfl) ?_
      refine lv_i2l hx hb dX11_mean_95 rfl ?_
      obtain ⟨o13, e14, hf⟩ := lp_bind hf
      refine wr_Wi (x := o13.1) (ws' := (wd_m a_m a_m_refused a_m_codes a_m_noted a_m_marked a_m_masks a_m_text a_m_before a_m_ahead a_m_aside a_m_sure a_m_wrongs a_m_says a_m_evening a_m_images cI cB cT m_words m_kindNow m_secretNow o10.2.2.2.1 o10.2.2.2.2.1 o10.2.2.2.2.2.1 m_noteMany m_markMany m_typed m_readAt m_readNumber m_undoMany o10.2.2.2.2.2.2.1 o13.2.1 o13.2.2 m_refused m_codes m_noted m_marked m_masks m_text m_before m_ahead o10.2.2.2.2.2.2.2 m_sure m_wrongs m_says m_evening m_images)) (As := [.long ((o10.2.1).toInt64), .long ((o10.1).toInt64)]) (rest := []) CF (c_X11_tells l D cI cB cT H.size a_m a_m_refused a_m_codes a_m_noted a_m_marked a_m_masks a_m_text a_m_before a_m_ahead a_m_aside a_m_sure a_m_wrongs a_m_says a_m_evening a_m_images m_words m_kindNow m_secretNow o10.2.2.2.1 o10.2.2.2.2.1 o10.2.2.2.2.2.1 m_noteMany m_markMany m_typed m_readAt m_readNumber m_undoMany o10.2.2.2.2.2.2.1 m_above m_below m_refused m_codes m_noted m_marked m_masks m_text m_before m_ahead o10.2.2.2.2.2.2.2 m_sure m_wrongs m_says m_evening m_images ((o10.2.1).toInt64) ((o10.1).toInt64) e14) ok_X11_tells wm_1309 ⟨rfl, rfl, Nat.le_of_ble_eq_true rfl, Nat.le_of_ble_eq_true rfl⟩ hG hP hD hS hA fs_m 0 9 vq_9 rfl ce_m_0 rfl hl.1 rfl (Nat.le_of_ble_eq_true rfl) ⟨Nat.zero_le _, Nat.zero_le _⟩ dX11_mean_96 (fun H locs hP hD hS => ?_)
      obtain rfl := Option.some.inj hf
      exact wr_iret CF hr hlk hP hS dX11_mean_99
    · have hf := tk c12 hf
      refine lv_aload_n hx hb dX11_mean_81 rfl (lv_at hl 0 rfl) ?_
      refine lv_lconst (v := (0 : Int64)) hx hb dX11_mean_82 (by decide) ?_
      refine lv_lconst (v := (1 : Int64)) hx hb dX11_mean_83 (by decide) ?_
      obtain ⟨o15, e16, hf⟩ := lp_bind hf
      refine wr_Wi (x := o15.1) (ws' := (wd_m a_m a_m_refused a_m_codes a_m_noted a_m_marked a_m_masks a_m_text a_m_before a_m_ahead a_m_aside a_m_sure a_m_wrongs a_m_says a_m_evening a_m_images cI cB cT m_words m_kindNow m_secretNow o10.2.2.2.1 o10.2.2.2.2.1 o10.2.2.2.2.2.1 m_noteMany m_markMany m_typed m_readAt m_readNumber m_undoMany o10.2.2.2.2.2.2.1 o15.2.1 o15.2.2 m_refused m_codes m_noted m_marked m_masks m_text m_before m_ahead o10.2.2.2.2.2.2.2 m_sure m_wrongs m_says m_evening m_images)) (As := [.long (0 : Int64), .long (1 : Int64)]) (rest := []) CF (c_X11_tells l D cI cB cT H.size a_m a_m_refused a_m_codes a_m_noted a_m_marked a_m_masks a_m_text a_m_before a_m_ahead a_m_aside a_m_sure a_m_wrongs a_m_says a_m_evening a_m_images m_words m_kindNow m_secretNow o10.2.2.2.1 o10.2.2.2.2.1 o10.2.2.2.2.2.1 m_noteMany m_markMany m_typed m_readAt m_readNumber m_undoMany o10.2.2.2.2.2.2.1 m_above m_below m_refused m_codes m_noted m_marked m_masks m_text m_before m_ahead o10.2.2.2.2.2.2.2 m_sure m_wrongs m_says m_evening m_images (0 : Int64) (1 : Int64) e16) ok_X11_tells wm_1309 ⟨rfl, rfl, Nat.le_of_ble_eq_true rfl, Nat.le_of_ble_eq_true rfl⟩ hG hP hD hS hA fs_m 0 9 vq_9 rfl ce_m_0 rfl hl.1 rfl (Nat.le_of_ble_eq_true rfl) ⟨Nat.zero_le _, Nat.zero_le _⟩ dX11_mean_84 (fun H locs hP hD hS => ?_)
      refine lv_goto (tgt := 99) hx hb dX11_mean_87 (by decide) ?_
      obtain rfl := Option.some.inj hf
      exact wr_iret CF hr hlk hP hS dX11_mean_99
  · have hf := tk c3 hf
    refine lv_aload_n hx hb dX11_mean_7 rfl (lv_at hl 0 rfl) ?_
    obtain ⟨o17, e18, hf⟩ := lp_bind hf
    refine wr_Wi (x := o17.1) (ws' := (wd_m a_m a_m_refused a_m_codes a_m_noted a_m_marked a_m_masks a_m_text a_m_before a_m_ahead a_m_aside a_m_sure a_m_wrongs a_m_says a_m_evening a_m_images cI cB cT m_words m_kindNow m_secretNow m_guessed m_left m_wrong m_noteMany m_markMany m_typed m_readAt m_readNumber m_undoMany m_lastGuesses m_above m_below o17.2 m_codes m_noted m_marked m_masks m_text m_before m_ahead m_aside m_sure m_wrongs m_says m_evening m_images)) (As := []) (rest := []) CF (c_X11_bad l D cI cB cT H.size a_m a_m_refused a_m_codes a_m_noted a_m_marked a_m_masks a_m_text a_m_before a_m_ahead a_m_aside a_m_sure a_m_wrongs a_m_says a_m_evening a_m_images m_words m_kindNow m_secretNow m_guessed m_left m_wrong m_noteMany m_markMany m_typed m_readAt m_readNumber m_undoMany m_lastGuesses m_above m_below m_refused m_codes m_noted m_marked m_masks m_text m_before m_ahead m_aside m_sure m_wrongs m_says m_evening m_images e18) ok_X11_bad wm_1020 ⟨rfl, rfl, Nat.le_of_ble_eq_true rfl, Nat.le_of_ble_eq_true rfl⟩ hG hP hD hS hA fs_m 0 9 vq_9 rfl ce_m_0 rfl hl.1 rfl (Nat.le_of_ble_eq_true rfl) ⟨Nat.zero_le _, Nat.zero_le _⟩ dX11_mean_8 (fun H locs hP hD hS => ?_)
    obtain rfl := Option.some.inj hf
    exact wr_iret CF hr hlk hP hS dX11_mean_11
end M_X11_mean
section M_X11_alikeBy
variable {p : Program} {l : Launch} {e : Env} {s : State} {m : MethodId} {args : Array Value} {below : List Frame} {meth : Method} {c : Code} {Q : State → Prop} {A : Nat → Prop} {D : va_G} {cI cB cT : ClassId}
variable {a_m a_m_refused a_m_codes a_m_noted a_m_marked a_m_masks a_m_text a_m_before a_m_ahead a_m_aside a_m_sure a_m_wrongs a_m_says a_m_evening a_m_images : Nat}
def rm_X11_alikeBy : Room := { frames := 1, cells := 0, slots := 0, locals := 22 }
def B_X11_alikeBy_26 (m_masks : (Nat → Int32)) (x2 : Int32) (x3 : Int32) (x5 : Int32) (x6 : Int32) (x7 : Int32) : Option ((Int32 × Int32) ⊕ (Int32)) := (if (10 : Int32) ≤ x7 then some (Sum.inr x6) else (if x6 = 0 then some (Sum.inl ((0 : Int32), (x7 + (1 : Int32)))) else ((f_X11_has x3 x7).bind fun o6 => (if o6 = 0 then some (Sum.inl ((1 : Int32), (x7 + (1 : Int32)))) else ((f_X11_maskOf m_masks x5 x7).bind fun o9 => ((f_X11_maskOf m_masks x2 x7).bind fun o11 => (if o9 = o11 then some (Sum.inl ((1 : Int32), (x7 + (1 : Int32)))) else some (Sum.inl ((0 : Int32), (x7 + (1 : Int32)))))))))))
def B_X11_alikeBy_6 (m_words : Int32) (m_masks : (Nat → Int32)) (x1 : Int32) (x2 : Int32) (x3 : Int32) (x4 : Int32) (x5 : Int32) : Option ((Int32 × Int32) ⊕ (Int32)) := (if m_words ≤ x5 then some (Sum.inr x4) else ((f_X11_has x1 x5).bind fun o2 => ((lp (fun v => B_X11_alikeBy_26 m_masks x2 x3 x5 v.1 v.2) KN (o2, (0 : Int32))).bind fun o14 => (if o14 = 0 then some (Sum.inl ((x4 ||| (0 : Int32)), (x5 + (1 : Int32)))) else some (Sum.inl ((x4 ||| ((1 : Int32) <<< (x5 &&& 31))), (x5 + (1 : Int32))))))))
def f_X11_alikeBy (m_words : Int32) (m_masks : (Nat → Int32)) (p1 : Int32) (p2 : Int32) (p3 : Int32) : Option (Int32) := ((lp (fun v => B_X11_alikeBy_6 m_words m_masks p1 p2 p3 v.1 v.2) KN ((0 : Int32), (0 : Int32))).bind fun o17 => some o17)
set_option maxHeartbeats 4000000 in
set_option maxRecDepth 100000 in
theorem B_X11_alikeBy_26_W {m_words : Int32} {m_kindNow : Int32} {m_secretNow : Int32} {m_guessed : Int32} {m_left : Int32} {m_wrong : Int32} {m_noteMany : Int32} {m_markMany : Int32} {m_typed : Int32} {m_readAt : Int32} {m_readNumber : Int32} {m_undoMany : Int32} {m_lastGuesses : Int32} {m_above : Int64} {m_below : Int64} {m_refused : (Nat → Int32)} {m_codes : (Nat → Int32)} {m_noted : (Nat → Int32)} {m_marked : (Nat → Int32)} {m_masks : (Nat → Int32)} {m_text : (Nat → Int32)} {m_before : (Nat → Int32)} {m_ahead : (Nat → Int32)} {m_aside : (Nat → Int32)} {m_sure : (Nat → Int32)} {m_wrongs : (Nat → Int32)} {m_says : (Nat → Int32)} {m_evening : (Nat → Int32)} {m_images : (Nat → Int32)} {x1 : Int32} {x2 : Int32} {x3 : Int32} {x4 : Int32} {x5 : Int32} {x6 : Int32} {x7 : Int32} (CF : CallFix p m c cX11_alikeBy 8 s args wsAll RX11) (hG : Gd D cI cB cT s) {z : (Int32 × Int32) ⊕ (Int32)} (hk : ∀ (v' : Int32 × Int32) (ls : Array Slot), z = Sum.inl v' → lv_has ls 8 [(0, .ref a_m), (1, .int x1), (2, .int x2), (3, .int x3), (4, .int x4), (5, .int x5), (6, .int (v'.1)), (7, .int (v'.2))] → W p l e rm_X11_alikeBy s m args below meth c s.heap [] 0 0 Q (F0 m 26 ls [])) (hx0 : ∀ (o' : Int32) (ls : Array Slot), z = Sum.inr o' → lv_has ls 8 [(0, .ref a_m), (1, .int x1), (2, .int x2), (3, .int x3), (4, .int x4), (5, .int x5), (6, .int (o'))] → W p l e rm_X11_alikeBy s m args below meth c s.heap [] 0 0 Q (F0 m 78 ls [])) {ls : Array Slot} (hP : va_P D vwCl (wd_m a_m a_m_refused a_m_codes a_m_noted a_m_marked a_m_masks a_m_text a_m_before a_m_ahead a_m_aside a_m_sure a_m_wrongs a_m_says a_m_evening a_m_images cI cB cT m_words m_kindNow m_secretNow m_guessed m_left m_wrong m_noteMany m_markMany m_typed m_readAt m_readNumber m_undoMany m_lastGuesses m_above m_below m_refused m_codes m_noted m_marked m_masks m_text m_before m_ahead m_aside m_sure m_wrongs m_says m_evening m_images) s.heap) (hl : lv_has ls 8 [(0, .ref a_m), (1, .int x1), (2, .int x2), (3, .int x3), (4, .int x4), (5, .int x5), (6, .int x6), (7, .int x7)]) (hf : B_X11_alikeBy_26 m_masks x2 x3 x5 x6 x7 = some z) : W p l e rm_X11_alikeBy s m args below meth c s.heap [] 0 0 Q (F0 m 26 ls []) := by
  obtain ⟨hx, hb, hml, hown, hts⟩ := id CF
  unfold B_X11_alikeBy_26 at hf
  refine lv_iload hx hb dX11_alikeBy_26 (lv_at hl 7 rfl) ?_
  refine lv_bipush (v := (10 : Int32)) hx hb dX11_alikeBy_28 (by decide) ?_
  refine lv_icmp_ge (tgt := 78) hx hb dX11_alikeBy_30 (by decide) (fun c4 => ?_) (fun c4 => ?_)
  · have hf := tk c4 hf
    exact hx0 _ _ (Option.some.inj hf).symm (lv_sub hl [0, 1, 2, 3, 4, 5, 6] rfl)
  · have hf := fk c4 hf
    refine lv_iload hx hb dX11_alikeBy_33 (lv_at hl 6 rfl) ?_
    refine lv_if_eq (tgt := 69) hx hb dX11_alikeBy_35 (by decide) (fun c5 => ?_) (fun c5 => ?_)
    · have hf := tk c5 hf
      refine lv_iconst (v := (0 : Int32)) hx hb dX11_alikeBy_69 (by decide) ?_
      refine lv_istore (lv' := [(6, .int (0 : Int32)), (0, .ref a_m), (1, .int x1), (2, .int x2), (3, .int x3), (4, .int x4), (5, .int x5), (7, .int x7)]) hx hb dX11_alikeBy_70 hl (by decide) rfl (fun ls hl => ?_)
      refine lv_iinc (v := (x7 + (1 : Int32))) (lv' := [(7, .int (x7 + (1 : Int32))), (6, .int (0 : Int32)), (0, .ref a_m), (1, .int x1), (2, .int x2), (3, .int x3), (4, .int x4), (5, .int x5)]) hx hb dX11_alikeBy_72 hl (k := 7) rfl (iinc_eq (by decide)) (by decide) rfl (fun ls hl => ?_)
      refine lv_goto (tgt := 26) hx hb dX11_alikeBy_75 (by decide) ?_
      exact hk _ _ (Option.some.inj hf).symm (lv_sub hl [2, 3, 4, 5, 6, 7, 1, 0] rfl)
    · have hf := fk c5 hf
      refine lv_iload_n hx hb dX11_alikeBy_38 rfl (lv_at hl 3 rfl) ?_
      refine lv_iload hx hb dX11_alikeBy_39 (lv_at hl 7 rfl) ?_
      obtain ⟨o6, e7, hf⟩ := lp_bind hf
      refine ro_Si (x := o6) (As := [.int x3, .int x7]) (rest := []) CF (c_X11_has l D cI cB cT x3 x7 e7) ok_X11_has wm_1133 ⟨rfl, rfl, Nat.le_of_ble_eq_true rfl, Nat.le_of_ble_eq_true rfl⟩ hG wd_E_P rfl hl.1 rfl (Nat.le_of_ble_eq_true rfl) ⟨Nat.zero_le _, Nat.zero_le _⟩ dX11_alikeBy_41 ?_
      refine lv_if_eq (tgt := 65) hx hb dX11_alikeBy_44 (by decide) (fun c8 => ?_) (fun c8 => ?_)
      · have hf := tk c8 hf
        refine lv_iconst (v := (1 : Int32)) hx hb dX11_alikeBy_65 (by decide) ?_
        refine lv_goto (tgt := 70) hx hb dX11_alikeBy_66 (by decide) ?_
        refine lv_istore (lv' := [(6, .int (1 : Int32)), (0, .ref a_m), (1, .int x1), (2, .int x2), (3, .int x3), (4, .int x4), (5, .int x5), (7, .int x7)]) hx hb dX11_alikeBy_70 hl (by decide) rfl (fun ls hl => ?_)
        refine lv_iinc (v := (x7 + (1 : Int32))) (lv' := [(7, .int (x7 + (1 : Int32))), (6, .int (1 : Int32)), (0, .ref a_m), (1, .int x1), (2, .int x2), (3, .int x3), (4, .int x4), (5, .int x5)]) hx hb dX11_alikeBy_72 hl (k := 7) rfl (iinc_eq (by decide)) (by decide) rfl (fun ls hl => ?_)
        refine lv_goto (tgt := 26) hx hb dX11_alikeBy_75 (by decide) ?_
        exact hk _ _ (Option.some.inj hf).symm (lv_sub hl [2, 3, 4, 5, 6, 7, 1, 0] rfl)
      · have hf := fk c8 hf
        refine lv_aload_n hx hb dX11_alikeBy_47 rfl (lv_at hl 0 rfl) ?_
        refine lv_iload hx hb dX11_alikeBy_48 (lv_at hl 5 rfl) ?_
        refine lv_iload hx hb dX11_alikeBy_50 (lv_at hl 7 rfl) ?_
        obtain ⟨o9, e10, hf⟩ := lp_bind hf
        refine ro_Vi (x := o9) (As := [.int x5, .int x7]) (rest := []) CF (c_X11_maskOf l D cI cB cT a_m a_m_refused a_m_codes a_m_noted a_m_marked a_m_masks a_m_text a_m_before a_m_ahead a_m_aside a_m_sure a_m_wrongs a_m_says a_m_evening a_m_images m_words m_kindNow m_secretNow m_guessed m_left m_wrong m_noteMany m_markMany m_typed m_readAt m_readNumber m_undoMany m_lastGuesses m_above m_below m_refused m_codes m_noted m_marked m_masks m_text m_before m_ahead m_aside m_sure m_wrongs m_says m_evening m_images x5 x7 e10) ok_X11_maskOf wm_1155 ⟨rfl, rfl, Nat.le_of_ble_eq_true rfl, Nat.le_of_ble_eq_true rfl⟩ hG hP 0 9 vq_9 rfl ce_m_0 rfl hl.1 rfl (Nat.le_of_ble_eq_true rfl) ⟨Nat.zero_le _, Nat.zero_le _⟩ dX11_alikeBy_52 ?_
        refine lv_aload_n hx hb dX11_alikeBy_55 rfl (lv_at hl 0 rfl) ?_
        refine lv_iload_n hx hb dX11_alikeBy_56 rfl (lv_at hl 2 rfl) ?_
        refine lv_iload hx hb dX11_alikeBy_57 (lv_at hl 7 rfl) ?_
        obtain ⟨o11, e12, hf⟩ := lp_bind hf
        refine ro_Vi (x := o11) (As := [.int x2, .int x7]) (rest := [.int o9]) CF (c_X11_maskOf l D cI cB cT a_m a_m_refused a_m_codes a_m_noted a_m_marked a_m_masks a_m_text a_m_before a_m_ahead a_m_aside a_m_sure a_m_wrongs a_m_says a_m_evening a_m_images m_words m_kindNow m_secretNow m_guessed m_left m_wrong m_noteMany m_markMany m_typed m_readAt m_readNumber m_undoMany m_lastGuesses m_above m_below m_refused m_codes m_noted m_marked m_masks m_text m_before m_ahead m_aside m_sure m_wrongs m_says m_evening m_images x2 x7 e12) ok_X11_maskOf wm_1155 ⟨rfl, rfl, Nat.le_of_ble_eq_true rfl, Nat.le_of_ble_eq_true rfl⟩ hG hP 0 9 vq_9 rfl ce_m_0 rfl hl.1 rfl (Nat.le_of_ble_eq_true rfl) ⟨Nat.zero_le _, Nat.zero_le _⟩ dX11_alikeBy_59 ?_
        refine lv_icmp_ne (tgt := 69) hx hb dX11_alikeBy_62 (by decide) (fun c13 => ?_) (fun c13 => ?_)
        · have hf := fk c13 hf
          refine lv_iconst (v := (0 : Int32)) hx hb dX11_alikeBy_69 (by decide) ?_
          refine lv_istore (lv' := [(6, .int (0 : Int32)), (0, .ref a_m), (1, .int x1), (2, .int x2), (3, .int x3), (4, .int x4), (5, .int x5), (7, .int x7)]) hx hb dX11_alikeBy_70 hl (by decide) rfl (fun ls hl => ?_)
          refine lv_iinc (v := (x7 + (1 : Int32))) (lv' := [(7, .int (x7 + (1 : Int32))), (6, .int (0 : Int32)), (0, .ref a_m), (1, .int x1), (2, .int x2), (3, .int x3), (4, .int x4), (5, .int x5)]) hx hb dX11_alikeBy_72 hl (k := 7) rfl (iinc_eq (by decide)) (by decide) rfl (fun ls hl => ?_)
          refine lv_goto (tgt := 26) hx hb dX11_alikeBy_75 (by decide) ?_
          exact hk _ _ (Option.some.inj hf).symm (lv_sub hl [2, 3, 4, 5, 6, 7, 1, 0] rfl)
        · have hf := tk c13 hf
          refine lv_iconst (v := (1 : Int32)) hx hb dX11_alikeBy_65 (by decide) ?_
          refine lv_goto (tgt := 70) hx hb dX11_alikeBy_66 (by decide) ?_
          refine lv_istore (lv' := [(6, .int (1 : Int32)), (0, .ref a_m), (1, .int x1), (2, .int x2), (3, .int x3), (4, .int x4), (5, .int x5), (7, .int x7)]) hx hb dX11_alikeBy_70 hl (by decide) rfl (fun ls hl => ?_)
          refine lv_iinc (v := (x7 + (1 : Int32))) (lv' := [(7, .int (x7 + (1 : Int32))), (6, .int (1 : Int32)), (0, .ref a_m), (1, .int x1), (2, .int x2), (3, .int x3), (4, .int x4), (5, .int x5)]) hx hb dX11_alikeBy_72 hl (k := 7) rfl (iinc_eq (by decide)) (by decide) rfl (fun ls hl => ?_)
          refine lv_goto (tgt := 26) hx hb dX11_alikeBy_75 (by decide) ?_
          exact hk _ _ (Option.some.inj hf).symm (lv_sub hl [2, 3, 4, 5, 6, 7, 1, 0] rfl)
set_option maxHeartbeats 4000000 in
set_option maxRecDepth 100000 in
theorem L_X11_alikeBy_26_W {m_words : Int32} {m_kindNow : Int32} {m_secretNow : Int32} {m_guessed : Int32} {m_left : Int32} {m_wrong : Int32} {m_noteMany : Int32} {m_markMany : Int32} {m_typed : Int32} {m_readAt : Int32} {m_readNumber : Int32} {m_undoMany : Int32} {m_lastGuesses : Int32} {m_above : Int64} {m_below : Int64} {m_refused : (Nat → Int32)} {m_codes : (Nat → Int32)} {m_noted : (Nat → Int32)} {m_marked : (Nat → Int32)} {m_masks : (Nat → Int32)} {m_text : (Nat → Int32)} {m_before : (Nat → Int32)} {m_ahead : (Nat → Int32)} {m_aside : (Nat → Int32)} {m_sure : (Nat → Int32)} {m_wrongs : (Nat → Int32)} {m_says : (Nat → Int32)} {m_evening : (Nat → Int32)} {m_images : (Nat → Int32)} {x1 : Int32} {x2 : Int32} {x3 : Int32} {x4 : Int32} {x5 : Int32} (CF : CallFix p m c cX11_alikeBy 8 s args wsAll RX11) (hG : Gd D cI cB cT s) {o : Int32} (hx0 : ∀ (ls : Array Slot), lv_has ls 8 [(0, .ref a_m), (1, .int x1), (2, .int x2), (3, .int x3), (4, .int x4), (5, .int x5), (6, .int o)] → W p l e rm_X11_alikeBy s m args below meth c s.heap [] 0 0 Q (F0 m 78 ls [])) : ∀ (n : Nat) (x6 : Int32) (x7 : Int32) (ls : Array Slot), va_P D vwCl (wd_m a_m a_m_refused a_m_codes a_m_noted a_m_marked a_m_masks a_m_text a_m_before a_m_ahead a_m_aside a_m_sure a_m_wrongs a_m_says a_m_evening a_m_images cI cB cT m_words m_kindNow m_secretNow m_guessed m_left m_wrong m_noteMany m_markMany m_typed m_readAt m_readNumber m_undoMany m_lastGuesses m_above m_below m_refused m_codes m_noted m_marked m_masks m_text m_before m_ahead m_aside m_sure m_wrongs m_says m_evening m_images) s.heap → lv_has ls 8 [(0, .ref a_m), (1, .int x1), (2, .int x2), (3, .int x3), (4, .int x4), (5, .int x5), (6, .int x6), (7, .int x7)] → lp (fun v => B_X11_alikeBy_26 m_masks x2 x3 x5 v.1 v.2) n (x6, x7) = some o → W p l e rm_X11_alikeBy s m args below meth c s.heap [] 0 0 Q (F0 m 26 ls []) := by
  intro n
  induction n with
  | zero =>
    intro x6 x7 ls hP hl hf
    exact (lp_zero hf).elim
  | succ n ih =>
    intro x6 x7 ls hP hl hf
    obtain ⟨z, hz, hf⟩ := lp_succ hf
    refine B_X11_alikeBy_26_W CF hG ?_ ?_ hP hl hz
    · intro v' ls ez hl
      rcases hf with ⟨v2, ev, hf⟩ | ev
      · cases Sum.inl.inj (ez.symm.trans ev)
        exact ih v'.1 v'.2 ls hP hl hf
      · exact (lp_lr (ez.symm.trans ev)).elim
    · intro o' ls ez hl
      rcases hf with ⟨v2, ev, hf⟩ | ev
      · exact (lp_lr (ev.symm.trans ez)).elim
      · cases Sum.inr.inj (ez.symm.trans ev)
        exact hx0 ls  hl
set_option maxHeartbeats 4000000 in
set_option maxRecDepth 100000 in
theorem B_X11_alikeBy_6_W {m_words : Int32} {m_kindNow : Int32} {m_secretNow : Int32} {m_guessed : Int32} {m_left : Int32} {m_wrong : Int32} {m_noteMany : Int32} {m_markMany : Int32} {m_typed : Int32} {m_readAt : Int32} {m_readNumber : Int32} {m_undoMany : Int32} {m_lastGuesses : Int32} {m_above : Int64} {m_below : Int64} {m_refused : (Nat → Int32)} {m_codes : (Nat → Int32)} {m_noted : (Nat → Int32)} {m_marked : (Nat → Int32)} {m_masks : (Nat → Int32)} {m_text : (Nat → Int32)} {m_before : (Nat → Int32)} {m_ahead : (Nat → Int32)} {m_aside : (Nat → Int32)} {m_sure : (Nat → Int32)} {m_wrongs : (Nat → Int32)} {m_says : (Nat → Int32)} {m_evening : (Nat → Int32)} {m_images : (Nat → Int32)} {x1 : Int32} {x2 : Int32} {x3 : Int32} {x4 : Int32} {x5 : Int32} (CF : CallFix p m c cX11_alikeBy 8 s args wsAll RX11) (hG : Gd D cI cB cT s) {z : (Int32 × Int32) ⊕ (Int32)} (hk : ∀ (v' : Int32 × Int32) (ls : Array Slot), z = Sum.inl v' → lv_has ls 8 [(0, .ref a_m), (1, .int x1), (2, .int x2), (3, .int x3), (4, .int (v'.1)), (5, .int (v'.2))] → W p l e rm_X11_alikeBy s m args below meth c s.heap [] 0 0 Q (F0 m 6 ls [])) (hx0 : ∀ (o' : Int32) (ls : Array Slot), z = Sum.inr o' → lv_has ls 8 [(4, .int (o'))] → W p l e rm_X11_alikeBy s m args below meth c s.heap [] 0 0 Q (F0 m 102 ls [])) {ls : Array Slot} (hP : va_P D vwCl (wd_m a_m a_m_refused a_m_codes a_m_noted a_m_marked a_m_masks a_m_text a_m_before a_m_ahead a_m_aside a_m_sure a_m_wrongs a_m_says a_m_evening a_m_images cI cB cT m_words m_kindNow m_secretNow m_guessed m_left m_wrong m_noteMany m_markMany m_typed m_readAt m_readNumber m_undoMany m_lastGuesses m_above m_below m_refused m_codes m_noted m_marked m_masks m_text m_before m_ahead m_aside m_sure m_wrongs m_says m_evening m_images) s.heap) (hl : lv_has ls 8 [(0, .ref a_m), (1, .int x1), (2, .int x2), (3, .int x3), (4, .int x4), (5, .int x5)]) (hf : B_X11_alikeBy_6 m_words m_masks x1 x2 x3 x4 x5 = some z) : W p l e rm_X11_alikeBy s m args below meth c s.heap [] 0 0 Q (F0 m 6 ls []) := by
  obtain ⟨hx, hb, hml, hown, hts⟩ := id CF
  unfold B_X11_alikeBy_6 at hf
  refine lv_iload hx hb dX11_alikeBy_6 (lv_at hl 5 rfl) ?_
  refine lv_aload_n hx hb dX11_alikeBy_8 rfl (lv_at hl 0 rfl) ?_
  refine va_get (D := D) (ci := 9) (v := .int m_words) (C := RX11) (T := TX11) (N := 29) hx hb hts fin_X11 hown hG.1 hP 0 ce_m_0 vq_9 1 (by decide) (hts _ wm_923) (fun _ h9 => h9) rfl dX11_alikeBy_9 ?_
  refine lv_icmp_ge (tgt := 102) hx hb dX11_alikeBy_12 (by decide) (fun c1 => ?_) (fun c1 => ?_)
  · have hf := tk c1 hf
    exact hx0 _ _ (Option.some.inj hf).symm (lv_sub hl [4] rfl)
  · have hf := fk c1 hf
    refine lv_iload_n hx hb dX11_alikeBy_15 rfl (lv_at hl 1 rfl) ?_
    refine lv_iload hx hb dX11_alikeBy_16 (lv_at hl 5 rfl) ?_
    obtain ⟨o2, e3, hf⟩ := lp_bind hf
    refine ro_Si (x := o2) (As := [.int x1, .int x5]) (rest := []) CF (c_X11_has l D cI cB cT x1 x5 e3) ok_X11_has wm_1133 ⟨rfl, rfl, Nat.le_of_ble_eq_true rfl, Nat.le_of_ble_eq_true rfl⟩ hG wd_E_P rfl hl.1 rfl (Nat.le_of_ble_eq_true rfl) ⟨Nat.zero_le _, Nat.zero_le _⟩ dX11_alikeBy_18 ?_
    refine lv_istore (lv' := [(6, .int o2), (0, .ref a_m), (1, .int x1), (2, .int x2), (3, .int x3), (4, .int x4), (5, .int x5)]) hx hb dX11_alikeBy_21 hl (by decide) rfl (fun ls hl => ?_)
    refine lv_iconst (v := (0 : Int32)) hx hb dX11_alikeBy_23 (by decide) ?_
    refine lv_istore (lv' := [(7, .int (0 : Int32)), (6, .int o2), (0, .ref a_m), (1, .int x1), (2, .int x2), (3, .int x3), (4, .int x4), (5, .int x5)]) hx hb dX11_alikeBy_24 hl (by decide) rfl (fun ls hl => ?_)
    obtain ⟨o14, e15, hf⟩ := lp_bind hf
    refine L_X11_alikeBy_26_W CF hG ?_ KN _ _ _ hP (lv_sub hl [2, 3, 4, 5, 6, 7, 1, 0] rfl) e15
    intro ls hl
    refine lv_iload hx hb dX11_alikeBy_78 (lv_at hl 4 rfl) ?_
    refine lv_iload hx hb dX11_alikeBy_80 (lv_at hl 6 rfl) ?_
    refine lv_if_eq (tgt := 92) hx hb dX11_alikeBy_82 (by decide) (fun c16 => ?_) (fun c16 => ?_)
    · have hf := tk c16 hf
      refine lv_iconst (v := (0 : Int32)) hx hb dX11_alikeBy_92 (by decide) ?_
      refine lv_ior hx hb dX11_alikeBy_93 ?_
      refine lv_istore (lv' := [(4, .int (x4 ||| (0 : Int32))), (0, .ref a_m), (1, .int x1), (2, .int x2), (3, .int x3), (5, .int x5), (6, .int o14)]) hx hb dX11_alikeBy_94 hl (by decide) rfl (fun ls hl => ?_)
      refine lv_iinc (v := (x5 + (1 : Int32))) (lv' := [(5, .int (x5 + (1 : Int32))), (4, .int (x4 ||| (0 : Int32))), (0, .ref a_m), (1, .int x1), (2, .int x2), (3, .int x3), (6, .int o14)]) hx hb dX11_alikeBy_96 hl (k := 5) rfl (iinc_eq (by decide)) (by decide) rfl (fun ls hl => ?_)
      refine lv_goto (tgt := 6) hx hb dX11_alikeBy_99 (by decide) ?_
      exact hk _ _ (Option.some.inj hf).symm (lv_sub hl [2, 3, 4, 5, 1, 0] rfl)
    · have hf := fk c16 hf
      refine lv_iconst (v := (1 : Int32)) hx hb dX11_alikeBy_85 (by decide) ?_
      refine lv_iload hx hb dX11_alikeBy_86 (lv_at hl 5 rfl) ?_
      refine lv_ishl hx hb dX11_alikeBy_88 ?_
      refine lv_goto (tgt := 93) hx hb dX11_alikeBy_89 (by decide) ?_
      refine lv_ior hx hb dX11_alikeBy_93 ?_
      refine lv_istore (lv' := [(4, .int (x4 ||| ((1 : Int32) <<< (x5 &&& 31)))), (0, .ref a_m), (1, .int x1), (2, .int x2), (3, .int x3), (5, .int x5), (6, .int o14)]) hx hb dX11_alikeBy_94 hl (by decide) rfl (fun ls hl => ?_)
      refine lv_iinc (v := (x5 + (1 : Int32))) (lv' := [(5, .int (x5 + (1 : Int32))), (4, .int (x4 ||| ((1 : Int32) <<< (x5 &&& 31)))), (0, .ref a_m), (1, .int x1), (2, .int x2), (3, .int x3), (6, .int o14)]) hx hb dX11_alikeBy_96 hl (k := 5) rfl (iinc_eq (by decide)) (by decide) rfl (fun ls hl => ?_)
      refine lv_goto (tgt := 6) hx hb dX11_alikeBy_99 (by decide) ?_
      exact hk _ _ (Option.some.inj hf).symm (lv_sub hl [2, 3, 4, 5, 1, 0] rfl)
set_option maxHeartbeats 4000000 in
set_option maxRecDepth 100000 in
theorem L_X11_alikeBy_6_W {m_words : Int32} {m_kindNow : Int32} {m_secretNow : Int32} {m_guessed : Int32} {m_left : Int32} {m_wrong : Int32} {m_noteMany : Int32} {m_markMany : Int32} {m_typed : Int32} {m_readAt : Int32} {m_readNumber : Int32} {m_undoMany : Int32} {m_lastGuesses : Int32} {m_above : Int64} {m_below : Int64} {m_refused : (Nat → Int32)} {m_codes : (Nat → Int32)} {m_noted : (Nat → Int32)} {m_marked : (Nat → Int32)} {m_masks : (Nat → Int32)} {m_text : (Nat → Int32)} {m_before : (Nat → Int32)} {m_ahead : (Nat → Int32)} {m_aside : (Nat → Int32)} {m_sure : (Nat → Int32)} {m_wrongs : (Nat → Int32)} {m_says : (Nat → Int32)} {m_evening : (Nat → Int32)} {m_images : (Nat → Int32)} {x1 : Int32} {x2 : Int32} {x3 : Int32} (CF : CallFix p m c cX11_alikeBy 8 s args wsAll RX11) (hG : Gd D cI cB cT s) {o : Int32} (hx0 : ∀ (ls : Array Slot), lv_has ls 8 [(4, .int o)] → W p l e rm_X11_alikeBy s m args below meth c s.heap [] 0 0 Q (F0 m 102 ls [])) : ∀ (n : Nat) (x4 : Int32) (x5 : Int32) (ls : Array Slot), va_P D vwCl (wd_m a_m a_m_refused a_m_codes a_m_noted a_m_marked a_m_masks a_m_text a_m_before a_m_ahead a_m_aside a_m_sure a_m_wrongs a_m_says a_m_evening a_m_images cI cB cT m_words m_kindNow m_secretNow m_guessed m_left m_wrong m_noteMany m_markMany m_typed m_readAt m_readNumber m_undoMany m_lastGuesses m_above m_below m_refused m_codes m_noted m_marked m_masks m_text m_before m_ahead m_aside m_sure m_wrongs m_says m_evening m_images) s.heap → lv_has ls 8 [(0, .ref a_m), (1, .int x1), (2, .int x2), (3, .int x3), (4, .int x4), (5, .int x5)] → lp (fun v => B_X11_alikeBy_6 m_words m_masks x1 x2 x3 v.1 v.2) n (x4, x5) = some o → W p l e rm_X11_alikeBy s m args below meth c s.heap [] 0 0 Q (F0 m 6 ls []) := by
  intro n
  induction n with
  | zero =>
    intro x4 x5 ls hP hl hf
    exact (lp_zero hf).elim
  | succ n ih =>
    intro x4 x5 ls hP hl hf
    obtain ⟨z, hz, hf⟩ := lp_succ hf
    refine B_X11_alikeBy_6_W CF hG ?_ ?_ hP hl hz
    · intro v' ls ez hl
      rcases hf with ⟨v2, ev, hf⟩ | ev
      · cases Sum.inl.inj (ez.symm.trans ev)
        exact ih v'.1 v'.2 ls hP hl hf
      · exact (lp_lr (ez.symm.trans ev)).elim
    · intro o' ls ez hl
      rcases hf with ⟨v2, ev, hf⟩ | ev
      · exact (lp_lr (ev.symm.trans ez)).elim
      · cases Sum.inr.inj (ez.symm.trans ev)
        exact hx0 ls  hl
set_option maxHeartbeats 4000000 in
set_option maxRecDepth 100000 in
theorem c_X11_alikeBy (l : Launch) (D : va_G) (cI cB cT : ClassId) (a_m a_m_refused a_m_codes a_m_noted a_m_marked a_m_masks a_m_text a_m_before a_m_ahead a_m_aside a_m_sure a_m_wrongs a_m_says a_m_evening a_m_images : Nat) (m_words : Int32) (m_kindNow : Int32) (m_secretNow : Int32) (m_guessed : Int32) (m_left : Int32) (m_wrong : Int32) (m_noteMany : Int32) (m_markMany : Int32) (m_typed : Int32) (m_readAt : Int32) (m_readNumber : Int32) (m_undoMany : Int32) (m_lastGuesses : Int32) (m_above : Int64) (m_below : Int64) (m_refused : (Nat → Int32)) (m_codes : (Nat → Int32)) (m_noted : (Nat → Int32)) (m_marked : (Nat → Int32)) (m_masks : (Nat → Int32)) (m_text : (Nat → Int32)) (m_before : (Nat → Int32)) (m_ahead : (Nat → Int32)) (m_aside : (Nat → Int32)) (m_sure : (Nat → Int32)) (m_wrongs : (Nat → Int32)) (m_says : (Nat → Int32)) (m_evening : (Nat → Int32)) (m_images : (Nat → Int32)) (p1 : Int32) (p2 : Int32) (p3 : Int32) {z : Int32} (hf : f_X11_alikeBy m_words m_masks p1 p2 p3 = some z) :
    Met l yX11_alikeBy (Cond.code yX11_alikeBy cX11_alikeBy 8 (some .int) :: wsAll) rm_X11_alikeBy (Pro [.ref a_m, .int p1, .int p2, .int p3] D cI cB cT (wd_m a_m a_m_refused a_m_codes a_m_noted a_m_marked a_m_masks a_m_text a_m_before a_m_ahead a_m_aside a_m_sure a_m_wrongs a_m_says a_m_evening a_m_images cI cB cT m_words m_kindNow m_secretNow m_guessed m_left m_wrong m_noteMany m_markMany m_typed m_readAt m_readNumber m_undoMany m_lastGuesses m_above m_below m_refused m_codes m_noted m_marked m_masks m_text m_before m_ahead m_aside m_sure m_wrongs m_says m_evening m_images)) (Qr (some (.int z))) 0 0 (fun _ => False) := by
  refine ro_intro RX11 (by decide +kernel) rfl (Nat.le_of_ble_eq_true rfl) ?_
  intro p e s m below meth c ls CF hr hlk hG hP hl
  have hl : lv_has ls 8 [(0, .ref a_m), (1, .int p1), (2, .int p2), (3, .int p3)] := hl
  obtain ⟨hx, hb, hml, hown, hts⟩ := id CF
  unfold f_X11_alikeBy at hf
  refine lv_iconst (v := (0 : Int32)) hx hb dX11_alikeBy_0 (by decide) ?_
  refine lv_istore (lv' := [(4, .int (0 : Int32)), (0, .ref a_m), (1, .int p1), (2, .int p2), (3, .int p3)]) hx hb dX11_alikeBy_1 hl (by decide) rfl (fun ls hl => ?_)
  refine lv_iconst (v := (0 : Int32)) hx hb dX11_alikeBy_3 (by decide) ?_
  refine lv_istore (lv' := [(5, .int (0 : Int32)), (4, .int (0 : Int32)), (0, .ref a_m), (1, .int p1), (2, .int p2), (3, .int p3)]) hx hb dX11_alikeBy_4 hl (by decide) rfl (fun ls hl => ?_)
  obtain ⟨o17, e18, hf⟩ := lp_bind hf
  refine L_X11_alikeBy_6_W CF hG ?_ KN _ _ _ hP (lv_sub hl [2, 3, 4, 5, 1, 0] rfl) e18
  intro ls hl
  refine lv_iload hx hb dX11_alikeBy_102 (lv_at hl 0 rfl) ?_
  obtain rfl := Option.some.inj hf
  exact ro_iret CF hr hlk dX11_alikeBy_104
end M_X11_alikeBy
