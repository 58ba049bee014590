section M_X11_wordHere
variable {p : Program} {l : Launch} {e : Env} {s : State} {m : MethodId} {args : Array Value} {below : List Frame} {meth : Method} {c : Code} {Q : State → Prop} {A : Nat → Prop} {D : va_G} {cI cB cT : ClassId}
variable {a_m a_m_refused a_m_codes a_m_noted a_m_marked a_m_masks a_m_text a_m_before a_m_ahead a_m_aside a_m_sure a_m_wrongs a_m_says a_m_evening a_m_images : Nat}
def rm_X11_wordHere : Room := { frames := 3, cells := 0, slots := 0, locals := 63 }
def J_X11_wordHere_212 (m_readAt : Int32) (m_text : (Nat → Int32)) (y0 : Int32) : Option (Int32) := (if y0 = 0 then some (-1 : Int32) else ((f_X11_letter m_readAt m_text (3 : Int32)).bind fun o10 => (if o10 = (114 : Int32) then ((f_X11_letter m_readAt m_text (4 : Int32)).bind fun o13 => (if o13 = (101 : Int32) then ((f_X11_letter m_readAt m_text (5 : Int32)).bind fun o16 => (if o16 = (116 : Int32) then some (2 : Int32) else some (-1 : Int32))) else some (-1 : Int32))) else some (-1 : Int32))))
def J_X11_wordHere_211 (m_readAt : Int32) (m_text : (Nat → Int32)) : Option (Int32) := J_X11_wordHere_212 m_readAt m_text (0 : Int32)
def J_X11_wordHere_138 (m_readAt : Int32) (m_text : (Nat → Int32)) (y0 : Int32) : Option (Int32) := (if y0 = 0 then some (-1 : Int32) else ((f_X11_letter m_readAt m_text (3 : Int32)).bind fun o29 => (if o29 = (115 : Int32) then ((f_X11_letter m_readAt m_text (4 : Int32)).bind fun o32 => (if o32 = (115 : Int32) then some (3 : Int32) else some (-1 : Int32))) else some (-1 : Int32))))
def J_X11_wordHere_137 (m_readAt : Int32) (m_text : (Nat → Int32)) : Option (Int32) := J_X11_wordHere_138 m_readAt m_text (0 : Int32)
def J_X11_wordHere_52 (m_readAt : Int32) (m_text : (Nat → Int32)) : Option (Int32) := ((f_X11_letter m_readAt m_text (0 : Int32)).bind fun o44 => (if o44 = (119 : Int32) then ((f_X11_letter m_readAt m_text (1 : Int32)).bind fun o47 => (if o47 = (111 : Int32) then ((f_X11_letter m_readAt m_text (2 : Int32)).bind fun o50 => (if o50 = (114 : Int32) then ((f_X11_letter m_readAt m_text (3 : Int32)).bind fun o53 => (if o53 = (100 : Int32) then some (1 : Int32) else some (-1 : Int32))) else some (-1 : Int32))) else some (-1 : Int32))) else some (-1 : Int32)))
def f_X11_wordHere (m_typed : Int32) (m_readAt : Int32) (m_text : (Nat → Int32)) : Option (Int32) := ((f_X11_wordSize m_typed m_readAt m_text).bind fun o1 => (if o1 = (4 : Int32) then ((f_X11_letter m_readAt m_text (0 : Int32)).bind fun o41 => (if o41 = (103 : Int32) then ((f_X11_letter m_readAt m_text (1 : Int32)).bind fun o56 => (if o56 = (97 : Int32) then ((f_X11_letter m_readAt m_text (2 : Int32)).bind fun o59 => (if o59 = (109 : Int32) then ((f_X11_letter m_readAt m_text (3 : Int32)).bind fun o62 => (if o62 = (101 : Int32) then some (0 : Int32) else J_X11_wordHere_52 m_readAt m_text)) else J_X11_wordHere_52 m_readAt m_text)) else J_X11_wordHere_52 m_readAt m_text)) else J_X11_wordHere_52 m_readAt m_text)) else (if o1 = (5 : Int32) then ((f_X11_letter m_readAt m_text (0 : Int32)).bind fun o25 => (if o25 = (103 : Int32) then ((f_X11_letter m_readAt m_text (1 : Int32)).bind fun o35 => (if o35 = (117 : Int32) then ((f_X11_letter m_readAt m_text (2 : Int32)).bind fun o38 => (if o38 = (101 : Int32) then J_X11_wordHere_138 m_readAt m_text (1 : Int32) else J_X11_wordHere_137 m_readAt m_text)) else J_X11_wordHere_137 m_readAt m_text)) else J_X11_wordHere_137 m_readAt m_text)) else (if o1 = (6 : Int32) then ((f_X11_letter m_readAt m_text (0 : Int32)).bind fun o6 => (if o6 = (115 : Int32) then ((f_X11_letter m_readAt m_text (1 : Int32)).bind fun o19 => (if o19 = (101 : Int32) then ((f_X11_letter m_readAt m_text (2 : Int32)).bind fun o22 => (if o22 = (99 : Int32) then J_X11_wordHere_212 m_readAt m_text (1 : Int32) else J_X11_wordHere_211 m_readAt m_text)) else J_X11_wordHere_211 m_readAt m_text)) else J_X11_wordHere_211 m_readAt m_text)) else some (-1 : Int32)))))
set_option maxHeartbeats 4000000 in
set_option maxRecDepth 100000 in
theorem J_X11_wordHere_212_W {m_words : Int32} {m_kindNow : Int32} {m_secretNow : Int32} {m_guessed : Int32} {m_left : Int32} {m_wrong : Int32} {m_noteMany : Int32} {m_markMany : Int32} {m_typed : Int32} {m_readAt : Int32} {m_readNumber : Int32} {m_undoMany : Int32} {m_lastGuesses : Int32} {m_above : Int64} {m_below : Int64} {m_refused : (Nat → Int32)} {m_codes : (Nat → Int32)} {m_noted : (Nat → Int32)} {m_marked : (Nat → Int32)} {m_masks : (Nat → Int32)} {m_text : (Nat → Int32)} {m_before : (Nat → Int32)} {m_ahead : (Nat → Int32)} {m_aside : (Nat → Int32)} {m_sure : (Nat → Int32)} {m_wrongs : (Nat → Int32)} {m_says : (Nat → Int32)} {m_evening : (Nat → Int32)} {m_images : (Nat → Int32)} {y0 : Int32} (CF : CallFix p m c cX11_wordHere 3 s args wsAll RX11) (hG : Gd D cI cB cT s) {z : Int32} (hr : meth.sig.returnType = some .int) (hlk : meth.locks = false) {ls : Array Slot} (hP : va_P D vwCl (wd_m a_m a_m_refused a_m_codes a_m_noted a_m_marked a_m_masks a_m_text a_m_before a_m_ahead a_m_aside a_m_sure a_m_wrongs a_m_says a_m_evening a_m_images cI cB cT m_words m_kindNow m_secretNow m_guessed m_left m_wrong m_noteMany m_markMany m_typed m_readAt m_readNumber m_undoMany m_lastGuesses m_above m_below m_refused m_codes m_noted m_marked m_masks m_text m_before m_ahead m_aside m_sure m_wrongs m_says m_evening m_images) s.heap) (hl : lv_has ls 3 [(0, .ref a_m)]) (hf : J_X11_wordHere_212 m_readAt m_text y0 = some z) : W p l e rm_X11_wordHere s m args below meth c s.heap [] 0 0 (MQ below (Qr (some (.int z))) args s 0 0 (fun _ => False)) (F0 m 212 ls [.int y0]) := by
  obtain ⟨hx, hb, hml, hown, hts⟩ := id CF
  unfold J_X11_wordHere_212 at hf
  refine lv_istore_n (lv' := [(2, .int y0), (0, .ref a_m)]) hx hb dX11_wordHere_212 rfl hl (by decide) rfl (fun ls hl => ?_)
  refine lv_iload_n hx hb dX11_wordHere_213 rfl (lv_at hl 0 rfl) ?_
  refine lv_if_eq (tgt := 251) hx hb dX11_wordHere_214 (by decide) (fun c9 => ?_) (fun c9 => ?_)
  · have hf := tk c9 hf
    refine lv_iconst (v := (-1 : Int32)) hx hb dX11_wordHere_251 (by decide) ?_
    obtain rfl := Option.some.inj hf
    exact ro_iret CF hr hlk dX11_wordHere_252
  · have hf := fk c9 hf
    refine lv_aload_n hx hb dX11_wordHere_217 rfl (lv_at hl 1 rfl) ?_
    refine lv_iconst (v := (3 : Int32)) hx hb dX11_wordHere_218 (by decide) ?_
    obtain ⟨o10, e11, hf⟩ := lp_bind hf
    refine ro_Vi (x := o10) (As := [.int (3 : Int32)]) (rest := []) CF (c_X11_letter l D cI cB cT a_m a_m_refused a_m_codes a_m_noted a_m_marked a_m_masks a_m_text a_m_before a_m_ahead a_m_aside a_m_sure a_m_wrongs a_m_says a_m_evening a_m_images m_words m_kindNow m_secretNow m_guessed m_left m_wrong m_noteMany m_markMany m_typed m_readAt m_readNumber m_undoMany m_lastGuesses m_above m_below m_refused m_codes m_noted m_marked m_masks m_text m_before m_ahead m_aside m_sure m_wrongs m_says m_evening m_images (3 : Int32) e11) ok_X11_letter wm_1102 ⟨rfl, rfl, Nat.le_of_ble_eq_true rfl, Nat.le_of_ble_eq_true rfl⟩ hG hP 0 9 vq_9 rfl ce_m_0 rfl hl.1 rfl (Nat.le_of_ble_eq_true rfl) ⟨Nat.zero_le _, Nat.zero_le _⟩ dX11_wordHere_219 ?_
    refine lv_bipush (v := (114 : Int32)) hx hb dX11_wordHere_222 (by decide) ?_
    refine lv_icmp_ne (tgt := 251) hx hb dX11_wordHere_224 (by decide) (fun c12 => ?_) (fun c12 => ?_)
    · have hf := fk c12 hf
      refine lv_iconst (v := (-1 : Int32)) hx hb dX11_wordHere_251 (by decide) ?_
      obtain rfl := Option.some.inj hf
      exact ro_iret CF hr hlk dX11_wordHere_252
    · have hf := tk c12 hf
      refine lv_aload_n hx hb dX11_wordHere_227 rfl (lv_at hl 1 rfl) ?_
      refine lv_iconst (v := (4 : Int32)) hx hb dX11_wordHere_228 (by decide) ?_
      obtain ⟨o13, e14, hf⟩ := lp_bind hf
      refine ro_Vi (x := o13) (As := [.int (4 : Int32)]) (rest := []) CF (c_X11_letter l D cI cB cT a_m a_m_refused a_m_codes a_m_noted a_m_marked a_m_masks a_m_text a_m_before a_m_ahead a_m_aside a_m_sure a_m_wrongs a_m_says a_m_evening a_m_images m_words m_kindNow m_secretNow m_guessed m_left m_wrong m_noteMany m_markMany m_typed m_readAt m_readNumber m_undoMany m_lastGuesses m_above m_below m_refused m_codes m_noted m_marked m_masks m_text m_before m_ahead m_aside m_sure m_wrongs m_says m_evening m_images (4 : Int32) e14) ok_X11_letter wm_1102 ⟨rfl, rfl, Nat.le_of_ble_eq_true rfl, Nat.le_of_ble_eq_true rfl⟩ hG hP 0 9 vq_9 rfl ce_m_0 rfl hl.1 rfl (Nat.le_of_ble_eq_true rfl) ⟨Nat.zero_le _, Nat.zero_le _⟩ dX11_wordHere_229 ?_
      refine lv_bipush (v := (101 : Int32)) hx hb dX11_wordHere_232 (by decide) ?_
      refine lv_icmp_ne (tgt := 251) hx hb dX11_wordHere_234 (by decide) (fun c15 => ?_) (fun c15 => ?_)
      · have hf := fk c15 hf
        refine lv_iconst (v := (-1 : Int32)) hx hb dX11_wordHere_251 (by decide) ?_
        obtain rfl := Option.some.inj hf
        exact ro_iret CF hr hlk dX11_wordHere_252
      · have hf := tk c15 hf
        refine lv_aload_n hx hb dX11_wordHere_237 rfl (lv_at hl 1 rfl) ?_
        refine lv_iconst (v := (5 : Int32)) hx hb dX11_wordHere_238 (by decide) ?_
        obtain ⟨o16, e17, hf⟩ := lp_bind hf
        refine ro_Vi (x := o16) (As := [.int (5 : Int32)]) (rest := []) CF (c_X11_letter l D cI cB cT a_m a_m_refused a_m_codes a_m_noted a_m_marked a_m_masks a_m_text a_m_before a_m_ahead a_m_aside a_m_sure a_m_wrongs a_m_says a_m_evening a_m_images m_words m_kindNow m_secretNow m_guessed m_left m_wrong m_noteMany m_markMany m_typed m_readAt m_readNumber m_undoMany m_lastGuesses m_above m_below m_refused m_codes m_noted m_marked m_masks m_text m_before m_ahead m_aside m_sure m_wrongs m_says m_evening m_images (5 : Int32) e17) ok_X11_letter wm_1102 ⟨rfl, rfl, Nat.le_of_ble_eq_true rfl, Nat.le_of_ble_eq_true rfl⟩ hG hP 0 9 vq_9 rfl ce_m_0 rfl hl.1 rfl (Nat.le_of_ble_eq_true rfl) ⟨Nat.zero_le _, Nat.zero_le _⟩ dX11_wordHere_239 ?_
        refine lv_bipush (v := (116 : Int32)) hx hb dX11_wordHere_242 (by decide) ?_
        refine lv_icmp_ne (tgt := 251) hx hb dX11_wordHere_244 (by decide) (fun c18 => ?_) (fun c18 => ?_)
        · have hf := fk c18 hf
          refine lv_iconst (v := (-1 : Int32)) hx hb dX11_wordHere_251 (by decide) ?_
          obtain rfl := Option.some.inj hf
          exact ro_iret CF hr hlk dX11_wordHere_252
        · have hf := tk c18 hf
          refine lv_iconst (v := (2 : Int32)) hx hb dX11_wordHere_247 (by decide) ?_
          refine lv_goto (tgt := 252) hx hb dX11_wordHere_248 (by decide) ?_
          obtain rfl := Option.some.inj hf
          exact ro_iret CF hr hlk dX11_wordHere_252
set_option maxHeartbeats 4000000 in
set_option maxRecDepth 100000 in
theorem J_X11_wordHere_211_W {m_words : Int32} {m_kindNow : Int32} {m_secretNow : Int32} {m_guessed : Int32} {m_left : Int32} {m_wrong : Int32} {m_noteMany : Int32} {m_markMany : Int32} {m_typed : Int32} {m_readAt : Int32} {m_readNumber : Int32} {m_undoMany : Int32} {m_lastGuesses : Int32} {m_above : Int64} {m_below : Int64} {m_refused : (Nat → Int32)} {m_codes : (Nat → Int32)} {m_noted : (Nat → Int32)} {m_marked : (Nat → Int32)} {m_masks : (Nat → Int32)} {m_text : (Nat → Int32)} {m_before : (Nat → Int32)} {m_ahead : (Nat → Int32)} {m_aside : (Nat → Int32)} {m_sure : (Nat → Int32)} {m_wrongs : (Nat → Int32)} {m_says : (Nat → Int32)} {m_evening : (Nat → Int32)} {m_images : (Nat → Int32)} (CF : CallFix p m c cX11_wordHere 3 s args wsAll RX11) (hG : Gd D cI cB cT s) {z : Int32} (hr : meth.sig.returnType = some .int) (hlk : meth.locks = false) {ls : Array Slot} (hP : va_P D vwCl (wd_m a_m a_m_refused a_m_codes a_m_noted a_m_marked a_m_masks a_m_text a_m_before a_m_ahead a_m_aside a_m_sure a_m_wrongs a_m_says a_m_evening a_m_images cI cB cT m_words m_kindNow m_secretNow m_guessed m_left m_wrong m_noteMany m_markMany m_typed m_readAt m_readNumber m_undoMany m_lastGuesses m_above m_below m_refused m_codes m_noted m_marked m_masks m_text m_before m_ahead m_aside m_sure m_wrongs m_says m_evening m_images) s.heap) (hl : lv_has ls 3 [(0, .ref a_m)]) (hf : J_X11_wordHere_211 m_readAt m_text = some z) : W p l e rm_X11_wordHere s m args below meth c s.heap [] 0 0 (MQ below (Qr (some (.int z))) args s 0 0 (fun _ => False)) (F0 m 211 ls []) := by
  obtain ⟨hx, hb, hml, hown, hts⟩ := id CF
  unfold J_X11_wordHere_211 at hf
  refine lv_iconst (v := (0 : Int32)) hx hb dX11_wordHere_211 (by decide) ?_
  exact J_X11_wordHere_212_W CF hG hr hlk hP (lv_sub hl [0] rfl) hf
set_option maxHeartbeats 4000000 in
set_option maxRecDepth 100000 in
theorem J_X11_wordHere_138_W {m_words : Int32} {m_kindNow : Int32} {m_secretNow : Int32} {m_guessed : Int32} {m_left : Int32} {m_wrong : Int32} {m_noteMany : Int32} {m_markMany : Int32} {m_typed : Int32} {m_readAt : Int32} {m_readNumber : Int32} {m_undoMany : Int32} {m_lastGuesses : Int32} {m_above : Int64} {m_below : Int64} {m_refused : (Nat → Int32)} {m_codes : (Nat → Int32)} {m_noted : (Nat → Int32)} {m_marked : (Nat → Int32)} {m_masks : (Nat → Int32)} {m_text : (Nat → Int32)} {m_before : (Nat → Int32)} {m_ahead : (Nat → Int32)} {m_aside : (Nat → Int32)} {m_sure : (Nat → Int32)} {m_wrongs : (Nat → Int32)} {m_says : (Nat → Int32)} {m_evening : (Nat → Int32)} {m_images : (Nat → Int32)} {y0 : Int32} (CF : CallFix p m c cX11_wordHere 3 s args wsAll RX11) (hG : Gd D cI cB cT s) {z : Int32} (hr : meth.sig.returnType = some .int) (hlk : meth.locks = false) {ls : Array Slot} (hP : va_P D vwCl (wd_m a_m a_m_refused a_m_codes a_m_noted a_m_marked a_m_masks a_m_text a_m_before a_m_ahead a_m_aside a_m_sure a_m_wrongs a_m_says a_m_evening a_m_images cI cB cT m_words m_kindNow m_secretNow m_guessed m_left m_wrong m_noteMany m_markMany m_typed m_readAt m_readNumber m_undoMany m_lastGuesses m_above m_below m_refused m_codes m_noted m_marked m_masks m_text m_before m_ahead m_aside m_sure m_wrongs m_says m_evening m_images) s.heap) (hl : lv_has ls 3 [(0, .ref a_m)]) (hf : J_X11_wordHere_138 m_readAt m_text y0 = some z) : W p l e rm_X11_wordHere s m args below meth c s.heap [] 0 0 (MQ below (Qr (some (.int z))) args s 0 0 (fun _ => False)) (F0 m 138 ls [.int y0]) := by
  obtain ⟨hx, hb, hml, hown, hts⟩ := id CF
  unfold J_X11_wordHere_138 at hf
  refine lv_istore_n (lv' := [(2, .int y0), (0, .ref a_m)]) hx hb dX11_wordHere_138 rfl hl (by decide) rfl (fun ls hl => ?_)
  refine lv_iload_n hx hb dX11_wordHere_139 rfl (lv_at hl 0 rfl) ?_
  refine lv_if_eq (tgt := 167) hx hb dX11_wordHere_140 (by decide) (fun c28 => ?_) (fun c28 => ?_)
  · have hf := tk c28 hf
    refine lv_iconst (v := (-1 : Int32)) hx hb dX11_wordHere_167 (by decide) ?_
    obtain rfl := Option.some.inj hf
    exact ro_iret CF hr hlk dX11_wordHere_168
  · have hf := fk c28 hf
    refine lv_aload_n hx hb dX11_wordHere_143 rfl (lv_at hl 1 rfl) ?_
    refine lv_iconst (v := (3 : Int32)) hx hb dX11_wordHere_144 (by decide) ?_
    obtain ⟨o29, e30, hf⟩ := lp_bind hf
    refine ro_Vi (x := o29) (As := [.int (3 : Int32)]) (rest := []) CF (c_X11_letter l D cI cB cT a_m a_m_refused a_m_codes a_m_noted a_m_marked a_m_masks a_m_text a_m_before a_m_ahead a_m_aside a_m_sure a_m_wrongs a_m_says a_m_evening a_m_images m_words m_kindNow m_secretNow m_guessed m_left m_wrong m_noteMany m_markMany m_typed m_readAt m_readNumber m_undoMany m_lastGuesses m_above m_below m_refused m_codes m_noted m_marked m_masks m_text m_before m_ahead m_aside m_sure m_wrongs m_says m_evening m_images (3 : Int32) e30) ok_X11_letter wm_1102 ⟨rfl, rfl, Nat.le_of_ble_eq_true rfl, Nat.le_of_ble_eq_true rfl⟩ hG hP 0 9 vq_9 rfl ce_m_0 rfl hl.1 rfl (Nat.le_of_ble_eq_true rfl) ⟨Nat.zero_le _, Nat.zero_le _⟩ dX11_wordHere_145 ?_
    refine lv_bipush (v := (115 : Int32)) hx hb dX11_wordHere_148 (by decide) ?_
    refine lv_icmp_ne (tgt := 167) hx hb dX11_wordHere_150 (by decide) (fun c31 => ?_) (fun c31 => ?_)
    · have hf := fk c31 hf
      refine lv_iconst (v := (-1 : Int32)) hx hb dX11_wordHere_167 (by decide) ?_
      obtain rfl := Option.some.inj hf
      exact ro_iret CF hr hlk dX11_wordHere_168
    · have hf := tk c31 hf
      refine lv_aload_n hx hb dX11_wordHere_153 rfl (lv_at hl 1 rfl) ?_
      refine lv_iconst (v := (4 : Int32)) hx hb dX11_wordHere_154 (by decide) ?_
      obtain ⟨o32, e33, hf⟩ := lp_bind hf
      refine ro_Vi (x := o32) (As := [.int (4 : Int32)]) (rest := []) CF (c_X11_letter l D cI cB cT a_m a_m_refused a_m_codes a_m_noted a_m_marked a_m_masks a_m_text a_m_before a_m_ahead a_m_aside a_m_sure a_m_wrongs a_m_says a_m_evening a_m_images m_words m_kindNow m_secretNow m_guessed m_left m_wrong m_noteMany m_markMany m_typed m_readAt m_readNumber m_undoMany m_lastGuesses m_above m_below m_refused m_codes m_noted m_marked m_masks m_text m_before m_ahead m_aside m_sure m_wrongs m_says m_evening m_images (4 : Int32) e33) ok_X11_letter wm_1102 ⟨rfl, rfl, Nat.le_of_ble_eq_true rfl, Nat.le_of_ble_eq_true rfl⟩ hG hP 0 9 vq_9 rfl ce_m_0 rfl hl.1 rfl (Nat.le_of_ble_eq_true rfl) ⟨Nat.zero_le _, Nat.zero_le _⟩ dX11_wordHere_155 ?_
      refine lv_bipush (v := (115 : Int32)) hx hb dX11_wordHere_158 (by decide) ?_
      refine lv_icmp_ne (tgt := 167) hx hb dX11_wordHere_160 (by decide) (fun c34 => ?_) (fun c34 => ?_)
      · have hf := fk c34 hf
        refine lv_iconst (v := (-1 : Int32)) hx hb dX11_wordHere_167 (by decide) ?_
        obtain rfl := Option.some.inj hf
        exact ro_iret CF hr hlk dX11_wordHere_168
      · have hf := tk c34 hf
        refine lv_iconst (v := (3 : Int32)) hx hb dX11_wordHere_163 (by decide) ?_
        refine lv_goto (tgt := 168) hx hb dX11_wordHere_164 (by decide) ?_
        obtain rfl := Option.some.inj hf
        exact ro_iret CF hr hlk dX11_wordHere_168
set_option maxHeartbeats 4000000 in
set_option maxRecDepth 100000 in
theorem J_X11_wordHere_137_W {m_words : Int32} {m_kindNow : Int32} {m_secretNow : Int32} {m_guessed : Int32} {m_left : Int32} {m_wrong : Int32} {m_noteMany : Int32} {m_markMany : Int32} {m_typed : Int32} {m_readAt : Int32} {m_readNumber : Int32} {m_undoMany : Int32} {m_lastGuesses : Int32} {m_above : Int64} {m_below : Int64} {m_refused : (Nat → Int32)} {m_codes : (Nat → Int32)} {m_noted : (Nat → Int32)} {m_marked : (Nat → Int32)} {m_masks : (Nat → Int32)} {m_text : (Nat → Int32)} {m_before : (Nat → Int32)} {m_ahead : (Nat → Int32)} {m_aside : (Nat → Int32)} {m_sure : (Nat → Int32)} {m_wrongs : (Nat → Int32)} {m_says : (Nat → Int32)} {m_evening : (Nat → Int32)} {m_images : (Nat → Int32)} (CF : CallFix p m c cX11_wordHere 3 s args wsAll RX11) (hG : Gd D cI cB cT s) {z : Int32} (hr : meth.sig.returnType = some .int) (hlk : meth.locks = false) {ls : Array Slot} (hP : va_P D vwCl (wd_m a_m a_m_refused a_m_codes a_m_noted a_m_marked a_m_masks a_m_text a_m_before a_m_ahead a_m_aside a_m_sure a_m_wrongs a_m_says a_m_evening a_m_images cI cB cT m_words m_kindNow m_secretNow m_guessed m_left m_wrong m_noteMany m_markMany m_typed m_readAt m_readNumber m_undoMany m_lastGuesses m_above m_below m_refused m_codes m_noted m_marked m_masks m_text m_before m_ahead m_aside m_sure m_wrongs m_says m_evening m_images) s.heap) (hl : lv_has ls 3 [(0, .ref a_m)]) (hf : J_X11_wordHere_137 m_readAt m_text = some z) : W p l e rm_X11_wordHere s m args below meth c s.heap [] 0 0 (MQ below (Qr (some (.int z))) args s 0 0 (fun _ => False)) (F0 m 137 ls []) := by
  obtain ⟨hx, hb, hml, hown, hts⟩ := id CF
  unfold J_X11_wordHere_137 at hf
  refine lv_iconst (v := (0 : Int32)) hx hb dX11_wordHere_137 (by decide) ?_
  exact J_X11_wordHere_138_W CF hG hr hlk hP (lv_sub hl [0] rfl) hf
set_option maxHeartbeats 4000000 in
set_option maxRecDepth 100000 in
theorem J_X11_wordHere_52_W {m_words : Int32} {m_kindNow : Int32} {m_secretNow : Int32} {m_guessed : Int32} {m_left : Int32} {m_wrong : Int32} {m_noteMany : Int32} {m_markMany : Int32} {m_typed : Int32} {m_readAt : Int32} {m_readNumber : Int32} {m_undoMany : Int32} {m_lastGuesses : Int32} {m_above : Int64} {m_below : Int64} {m_refused : (Nat → Int32)} {m_codes : (Nat → Int32)} {m_noted : (Nat → Int32)} {m_marked : (Nat → Int32)} {m_masks : (Nat → Int32)} {m_text : (Nat → Int32)} {m_before : (Nat → Int32)} {m_ahead : (Nat → Int32)} {m_aside : (Nat → Int32)} {m_sure : (Nat → Int32)} {m_wrongs : (Nat → Int32)} {m_says : (Nat → Int32)} {m_evening : (Nat → Int32)} {m_images : (Nat → Int32)} (CF : CallFix p m c cX11_wordHere 3 s args wsAll RX11) (hG : Gd D cI cB cT s) {z : Int32} (hr : meth.sig.returnType = some .int) (hlk : meth.locks = false) {ls : Array Slot} (hP : va_P D vwCl (wd_m a_m a_m_refused a_m_codes a_m_noted a_m_marked a_m_masks a_m_text a_m_before a_m_ahead a_m_aside a_m_sure a_m_wrongs a_m_says a_m_evening a_m_images cI cB cT m_words m_kindNow m_secretNow m_guessed m_left m_wrong m_noteMany m_markMany m_typed m_readAt m_readNumber m_undoMany m_lastGuesses m_above m_below m_refused m_codes m_noted m_marked m_masks m_text m_before m_ahead m_aside m_sure m_wrongs m_says m_evening m_images) s.heap) (hl : lv_has ls 3 [(0, .ref a_m)]) (hf : J_X11_wordHere_52 m_readAt m_text = some z) : W p l e rm_X11_wordHere s m args below meth c s.heap [] 0 0 (MQ below (Qr (some (.int z))) args s 0 0 (fun _ => False)) (F0 m 52 ls []) := by
  obtain ⟨hx, hb, hml, hown, hts⟩ := id CF
  unfold J_X11_wordHere_52 at hf
  refine lv_aload_n hx hb dX11_wordHere_52 rfl (lv_at hl 0 rfl) ?_
  refine lv_iconst (v := (0 : Int32)) hx hb dX11_wordHere_53 (by decide) ?_
  obtain ⟨o44, e45, hf⟩ := lp_bind hf
  refine ro_Vi (x := o44) (As := [.int (0 : Int32)]) (rest := []) CF (c_X11_letter l D cI cB cT a_m a_m_refused a_m_codes a_m_noted a_m_marked a_m_masks a_m_text a_m_before a_m_ahead a_m_aside a_m_sure a_m_wrongs a_m_says a_m_evening a_m_images m_words m_kindNow m_secretNow m_guessed m_left m_wrong m_noteMany m_markMany m_typed m_readAt m_readNumber m_undoMany m_lastGuesses m_above m_below m_refused m_codes m_noted m_marked m_masks m_text m_before m_ahead m_aside m_sure m_wrongs m_says m_evening m_images (0 : Int32) e45) ok_X11_letter wm_1102 ⟨rfl, rfl, Nat.le_of_ble_eq_true rfl, Nat.le_of_ble_eq_true rfl⟩ hG hP 0 9 vq_9 rfl ce_m_0 rfl hl.1 rfl (Nat.le_of_ble_eq_true rfl) ⟨Nat.zero_le _, Nat.zero_le _⟩ dX11_wordHere_54 ?_
  refine lv_bipush (v := (119 : Int32)) hx hb dX11_wordHere_57 (by decide) ?_
  refine lv_icmp_ne (tgt := 96) hx hb dX11_wordHere_59 (by decide) (fun c46 => ?_) (fun c46 => ?_)
  · have hf := fk c46 hf
    refine lv_iconst (v := (-1 : Int32)) hx hb dX11_wordHere_96 (by decide) ?_
    obtain rfl := Option.some.inj hf
    exact ro_iret CF hr hlk dX11_wordHere_97
  · have hf := tk c46 hf
    refine lv_aload_n hx hb dX11_wordHere_62 rfl (lv_at hl 0 rfl) ?_
    refine lv_iconst (v := (1 : Int32)) hx hb dX11_wordHere_63 (by decide) ?_
    obtain ⟨o47, e48, hf⟩ := lp_bind hf
    refine ro_Vi (x := o47) (As := [.int (1 : Int32)]) (rest := []) CF (c_X11_letter l D cI cB cT a_m a_m_refused a_m_codes a_m_noted a_m_marked a_m_masks a_m_text a_m_before a_m_ahead a_m_aside a_m_sure a_m_wrongs a_m_says a_m_evening a_m_images m_words m_kindNow m_secretNow m_guessed m_left m_wrong m_noteMany m_markMany m_typed m_readAt m_readNumber m_undoMany m_lastGuesses m_above m_below m_refused m_codes m_noted m_marked m_masks m_text m_before m_ahead m_aside m_sure m_wrongs m_says m_evening m_images (1 : Int32) e48) ok_X11_letter wm_1102 ⟨rfl, rfl, Nat.le_of_ble_eq_true rfl, Nat.le_of_ble_eq_true rfl⟩ hG hP 0 9 vq_9 rfl ce_m_0 rfl hl.1 rfl (Nat.le_of_ble_eq_true rfl) ⟨Nat.zero_le _, Nat.zero_le _⟩ dX11_wordHere_64 ?_
    refine lv_bipush (v := (111 : Int32)) hx hb dX11_wordHere_67 (by decide) ?_
    refine lv_icmp_ne (tgt := 96) hx hb dX11_wordHere_69 (by decide) (fun c49 => ?_) (fun c49 => ?_)
    · have hf := fk c49 hf
      refine lv_iconst (v := (-1 : Int32)) hx hb dX11_wordHere_96 (by decide) ?_
      obtain rfl := Option.some.inj hf
      exact ro_iret CF hr hlk dX11_wordHere_97
    · have hf := tk c49 hf
      refine lv_aload_n hx hb dX11_wordHere_72 rfl (lv_at hl 0 rfl) ?_
      refine lv_iconst (v := (2 : Int32)) hx hb dX11_wordHere_73 (by decide) ?_
      obtain ⟨o50, e51, hf⟩ := lp_bind hf
      refine ro_Vi (x := o50) (As := [.int (2 : Int32)]) (rest := []) CF (c_X11_letter l D cI cB cT a_m a_m_refused a_m_codes a_m_noted a_m_marked a_m_masks a_m_text a_m_before a_m_ahead a_m_aside a_m_sure a_m_wrongs a_m_says a_m_evening a_m_images m_words m_kindNow m_secretNow m_guessed m_left m_wrong m_noteMany m_markMany m_typed m_readAt m_readNumber m_undoMany m_lastGuesses m_above m_below m_refused m_codes m_noted m_marked m_masks m_text m_before m_ahead m_aside m_sure m_wrongs m_says m_evening m_images (2 : Int32) e51) ok_X11_letter wm_1102 ⟨rfl, rfl, Nat.le_of_ble_eq_true rfl, Nat.le_of_ble_eq_true rfl⟩ hG hP 0 9 vq_9 rfl ce_m_0 rfl hl.1 rfl (Nat.le_of_ble_eq_true rfl) ⟨Nat.zero_le _, Nat.zero_le _⟩ dX11_wordHere_74 ?_
      refine lv_bipush (v := (114 : Int32)) hx hb dX11_wordHere_77 (by decide) ?_
      refine lv_icmp_ne (tgt := 96) hx hb dX11_wordHere_79 (by decide) (fun c52 => ?_) (fun c52 => ?_)
      · have hf := fk c52 hf
        refine lv_iconst (v := (-1 : Int32)) hx hb dX11_wordHere_96 (by decide) ?_
        obtain rfl := Option.some.inj hf
        exact ro_iret CF hr hlk dX11_wordHere_97
      · have hf := tk c52 hf
        refine lv_aload_n hx hb dX11_wordHere_82 rfl (lv_at hl 0 rfl) ?_
        refine lv_iconst (v := (3 : Int32)) hx hb dX11_wordHere_83 (by decide) ?_
        obtain ⟨o53, e54, hf⟩ := lp_bind hf
        refine ro_Vi (x := o53) (As := [.int (3 : Int32)]) (rest := []) CF (c_X11_letter l D cI cB cT a_m a_m_refused a_m_codes a_m_noted a_m_marked a_m_masks a_m_text a_m_before a_m_ahead a_m_aside a_m_sure a_m_wrongs a_m_says a_m_evening a_m_images m_words m_kindNow m_secretNow m_guessed m_left m_wrong m_noteMany m_markMany m_typed m_readAt m_readNumber m_undoMany m_lastGuesses m_above m_below m_refused m_codes m_noted m_marked m_masks m_text m_before m_ahead m_aside m_sure m_wrongs m_says m_evening m_images (3 : Int32) e54) ok_X11_letter wm_1102 ⟨rfl, rfl, Nat.le_of_ble_eq_true rfl, Nat.le_of_ble_eq_true rfl⟩ hG hP 0 9 vq_9 rfl ce_m_0 rfl hl.1 rfl (Nat.le_of_ble_eq_true rfl) ⟨Nat.zero_le _, Nat.zero_le _⟩ dX11_wordHere_84 ?_
        refine lv_bipush (v := (100 : Int32)) hx hb dX11_wordHere_87 (by decide) ?_
        refine lv_icmp_ne (tgt := 96) hx hb dX11_wordHere_89 (by decide) (fun c55 => ?_) (fun c55 => ?_)
        · have hf := fk c55 hf
          refine lv_iconst (v := (-1 : Int32)) hx hb dX11_wordHere_96 (by decide) ?_
          obtain rfl := Option.some.inj hf
          exact ro_iret CF hr hlk dX11_wordHere_97
        · have hf := tk c55 hf
          refine lv_iconst (v := (1 : Int32)) hx hb dX11_wordHere_92 (by decide) ?_
          refine lv_goto (tgt := 97) hx hb dX11_wordHere_93 (by decide) ?_
          obtain rfl := Option.some.inj hf
          exact ro_iret CF hr hlk dX11_wordHere_97
set_option maxHeartbeats 4000000 in
set_option maxRecDepth 100000 in
theorem c_X11_wordHere (l : Launch) (D : va_G) (cI cB cT : ClassId) (a_m a_m_refused a_m_codes a_m_noted a_m_marked a_m_masks a_m_text a_m_before a_m_ahead a_m_aside a_m_sure a_m_wrongs a_m_says a_m_evening a_m_images : Nat) (m_words : Int32) (m_kindNow : Int32) (m_secretNow : Int32) (m_guessed : Int32) (m_left : Int32) (m_wrong : Int32) (m_noteMany : Int32) (m_markMany : Int32) (m_typed : Int32) (m_readAt : Int32) (m_readNumber : Int32) (m_undoMany : Int32) (m_lastGuesses : Int32) (m_above : Int64) (m_below : Int64) (m_refused : (Nat → Int32)) (m_codes : (Nat → Int32)) (m_noted : (Nat → Int32)) (m_marked : (Nat → Int32)) (m_masks : (Nat → Int32)) (m_text : (Nat → Int32)) (m_before : (Nat → Int32)) (m_ahead : (Nat → Int32)) (m_aside : (Nat → Int32)) (m_sure : (Nat → Int32)) (m_wrongs : (Nat → Int32)) (m_says : (Nat → Int32)) (m_evening : (Nat → Int32)) (m_images : (Nat → Int32)) {z : Int32} (hf : f_X11_wordHere m_typed m_readAt m_text = some z) :
    Met l yX11_wordHere (Cond.code yX11_wordHere cX11_wordHere 3 (some .int) :: wsAll) rm_X11_wordHere (Pro [.ref a_m] D cI cB cT (wd_m a_m a_m_refused a_m_codes a_m_noted a_m_marked a_m_masks a_m_text a_m_before a_m_ahead a_m_aside a_m_sure a_m_wrongs a_m_says a_m_evening a_m_images cI cB cT m_words m_kindNow m_secretNow m_guessed m_left m_wrong m_noteMany m_markMany m_typed m_readAt m_readNumber m_undoMany m_lastGuesses m_above m_below m_refused m_codes m_noted m_marked m_masks m_text m_before m_ahead m_aside m_sure m_wrongs m_says m_evening m_images)) (Qr (some (.int z))) 0 0 (fun _ => False) := by
  refine ro_intro RX11 (by decide +kernel) rfl (Nat.le_of_ble_eq_true rfl) ?_
  intro p e s m below meth c ls CF hr hlk hG hP hl
  have hl : lv_has ls 3 [(0, .ref a_m)] := hl
  obtain ⟨hx, hb, hml, hown, hts⟩ := id CF
  unfold f_X11_wordHere at hf
  refine lv_aload_n hx hb dX11_wordHere_0 rfl (lv_at hl 0 rfl) ?_
  obtain ⟨o1, e2, hf⟩ := lp_bind hf
  refine ro_Vi (x := o1) (As := []) (rest := []) CF (c_X11_wordSize l D cI cB cT a_m a_m_refused a_m_codes a_m_noted a_m_marked a_m_masks a_m_text a_m_before a_m_ahead a_m_aside a_m_sure a_m_wrongs a_m_says a_m_evening a_m_images m_words m_kindNow m_secretNow m_guessed m_left m_wrong m_noteMany m_markMany m_typed m_readAt m_readNumber m_undoMany m_lastGuesses m_above m_below m_refused m_codes m_noted m_marked m_masks m_text m_before m_ahead m_aside m_sure m_wrongs m_says m_evening m_images e2) ok_X11_wordSize wm_1095 ⟨rfl, rfl, Nat.le_of_ble_eq_true rfl, Nat.le_of_ble_eq_true rfl⟩ hG hP 0 9 vq_9 rfl ce_m_0 rfl hl.1 rfl (Nat.le_of_ble_eq_true rfl) ⟨Nat.zero_le _, Nat.zero_le _⟩ dX11_wordHere_1 ?_
  refine lv_istore_n (lv' := [(1, .int o1), (0, .ref a_m)]) hx hb dX11_wordHere_4 rfl hl (by decide) rfl (fun ls hl => ?_)
  refine lv_iload_n hx hb dX11_wordHere_5 rfl (lv_at hl 0 rfl) ?_
  refine lv_iconst (v := (4 : Int32)) hx hb dX11_wordHere_6 (by decide) ?_
  refine lv_icmp_ne (tgt := 98) hx hb dX11_wordHere_7 (by decide) (fun c3 => ?_) (fun c3 => ?_)
  · have hf := fk c3 hf
    refine lv_iload_n hx hb dX11_wordHere_98 rfl (lv_at hl 0 rfl) ?_
    refine lv_iconst (v := (5 : Int32)) hx hb dX11_wordHere_99 (by decide) ?_
    refine lv_icmp_ne (tgt := 169) hx hb dX11_wordHere_100 (by decide) (fun c4 => ?_) (fun c4 => ?_)
    · have hf := fk c4 hf
      refine lv_iload_n hx hb dX11_wordHere_169 rfl (lv_at hl 0 rfl) ?_
      refine lv_bipush (v := (6 : Int32)) hx hb dX11_wordHere_170 (by decide) ?_
      refine lv_icmp_eq (tgt := 177) hx hb dX11_wordHere_172 (by decide) (fun c5 => ?_) (fun c5 => ?_)
      · have hf := tk c5 hf
        refine lv_aload_n hx hb dX11_wordHere_177 rfl (lv_at hl 1 rfl) ?_
        refine lv_iconst (v := (0 : Int32)) hx hb dX11_wordHere_178 (by decide) ?_
        obtain ⟨o6, e7, hf⟩ := lp_bind hf
        refine ro_Vi (x := o6) (As := [.int (0 : Int32)]) (rest := []) CF (c_X11_letter l D cI cB cT a_m a_m_refused a_m_codes a_m_noted a_m_marked a_m_masks a_m_text a_m_before a_m_ahead a_m_aside a_m_sure a_m_wrongs a_m_says a_m_evening a_m_images m_words m_kindNow m_secretNow m_guessed m_left m_wrong m_noteMany m_markMany m_typed m_readAt m_readNumber m_undoMany m_lastGuesses m_above m_below m_refused m_codes m_noted m_marked m_masks m_text m_before m_ahead m_aside m_sure m_wrongs m_says m_evening m_images (0 : Int32) e7) ok_X11_letter wm_1102 ⟨rfl, rfl, Nat.le_of_ble_eq_true rfl, Nat.le_of_ble_eq_true rfl⟩ hG hP 0 9 vq_9 rfl ce_m_0 rfl hl.1 rfl (Nat.le_of_ble_eq_true rfl) ⟨Nat.zero_le _, Nat.zero_le _⟩ dX11_wordHere_179 ?_
        refine lv_bipush (v := (115 : Int32)) hx hb dX11_wordHere_182 (by decide) ?_
        refine lv_icmp_ne (tgt := 211) hx hb dX11_wordHere_184 (by decide) (fun c8 => ?_) (fun c8 => ?_)
        · have hf := fk c8 hf
          exact J_X11_wordHere_211_W CF hG hr hlk hP (lv_sub hl [1] rfl) hf
        · have hf := tk c8 hf
          refine lv_aload_n hx hb dX11_wordHere_187 rfl (lv_at hl 1 rfl) ?_
          refine lv_iconst (v := (1 : Int32)) hx hb dX11_wordHere_188 (by decide) ?_
          obtain ⟨o19, e20, hf⟩ := lp_bind hf
          refine ro_Vi (x := o19) (As := [.int (1 : Int32)]) (rest := []) CF (c_X11_letter l D cI cB cT a_m a_m_refused a_m_codes a_m_noted a_m_marked a_m_masks a_m_text a_m_before a_m_ahead a_m_aside a_m_sure a_m_wrongs a_m_says a_m_evening a_m_images m_words m_kindNow m_secretNow m_guessed m_left m_wrong m_noteMany m_markMany m_typed m_readAt m_readNumber m_undoMany m_lastGuesses m_above m_below m_refused m_codes m_noted m_marked m_masks m_text m_before m_ahead m_aside m_sure m_wrongs m_says m_evening m_images (1 : Int32) e20) ok_X11_letter wm_1102 ⟨rfl, rfl, Nat.le_of_ble_eq_true rfl, Nat.le_of_ble_eq_true rfl⟩ hG hP 0 9 vq_9 rfl ce_m_0 rfl hl.1 rfl (Nat.le_of_ble_eq_true rfl) ⟨Nat.zero_le _, Nat.zero_le _⟩ dX11_wordHere_189 ?_
          refine lv_bipush (v := (101 : Int32)) hx hb dX11_wordHere_192 (by decide) ?_
          refine lv_icmp_ne (tgt := 211) hx hb dX11_wordHere_194 (by decide) (fun c21 => ?_) (fun c21 => ?_)
          · have hf := fk c21 hf
            exact J_X11_wordHere_211_W CF hG hr hlk hP (lv_sub hl [1] rfl) hf
          · have hf := tk c21 hf
            refine lv_aload_n hx hb dX11_wordHere_197 rfl (lv_at hl 1 rfl) ?_
            refine lv_iconst (v := (2 : Int32)) hx hb dX11_wordHere_198 (by decide) ?_
            obtain ⟨o22, e23, hf⟩ := lp_bind hf
            refine ro_Vi (x := o22) (As := [.int (2 : Int32)]) (rest := []) CF (c_X11_letter l D cI cB cT a_m a_m_refused a_m_codes a_m_noted a_m_marked a_m_masks a_m_text a_m_before a_m_ahead a_m_aside a_m_sure a_m_wrongs a_m_says a_m_evening a_m_images m_words m_kindNow m_secretNow m_guessed m_left m_wrong m_noteMany m_markMany m_typed m_readAt m_readNumber m_undoMany m_lastGuesses m_above m_below m_refused m_codes m_noted m_marked m_masks m_text m_before m_ahead m_aside m_sure m_wrongs m_says m_evening m_images (2 : Int32) e23) ok_X11_letter wm_1102 ⟨rfl, rfl, Nat.le_of_ble_eq_true rfl, Nat.le_of_ble_eq_true rfl⟩ hG hP 0 9 vq_9 rfl ce_m_0 rfl hl.1 rfl (Nat.le_of_ble_eq_true rfl) ⟨Nat.zero_le _, Nat.zero_le _⟩ dX11_wordHere_199 ?_
            refine lv_bipush (v := (99 : Int32)) hx hb dX11_wordHere_202 (by decide) ?_
            refine lv_icmp_ne (tgt := 211) hx hb dX11_wordHere_204 (by decide) (fun c24 => ?_) (fun c24 => ?_)
            · have hf := fk c24 hf
              exact J_X11_wordHere_211_W CF hG hr hlk hP (lv_sub hl [1] rfl) hf
            · have hf := tk c24 hf
              refine lv_iconst (v := (1 : Int32)) hx hb dX11_wordHere_207 (by decide) ?_
              refine lv_goto (tgt := 212) hx hb dX11_wordHere_208 (by decide) ?_
              exact J_X11_wordHere_212_W CF hG hr hlk hP (lv_sub hl [1] rfl) hf
      · have hf := fk c5 hf
        refine lv_iconst (v := (-1 : Int32)) hx hb dX11_wordHere_175 (by decide) ?_
        obtain rfl := Option.some.inj hf
        exact ro_iret CF hr hlk dX11_wordHere_176
    · have hf := tk c4 hf
      refine lv_aload_n hx hb dX11_wordHere_103 rfl (lv_at hl 1 rfl) ?_
      refine lv_iconst (v := (0 : Int32)) hx hb dX11_wordHere_104 (by decide) ?_
      obtain ⟨o25, e26, hf⟩ := lp_bind hf
      refine ro_Vi (x := o25) (As := [.int (0 : Int32)]) (rest := []) CF (c_X11_letter l D cI cB cT a_m a_m_refused a_m_codes a_m_noted a_m_marked a_m_masks a_m_text a_m_before a_m_ahead a_m_aside a_m_sure a_m_wrongs a_m_says a_m_evening a_m_images m_words m_kindNow m_secretNow m_guessed m_left m_wrong m_noteMany m_markMany m_typed m_readAt m_readNumber m_undoMany m_lastGuesses m_above m_below m_refused m_codes m_noted m_marked m_masks m_text m_before m_ahead m_aside m_sure m_wrongs m_says m_evening m_images (0 : Int32) e26) ok_X11_letter wm_1102 ⟨rfl, rfl, Nat.le_of_ble_eq_true rfl, Nat.le_of_ble_eq_true rfl⟩ hG hP 0 9 vq_9 rfl ce_m_0 rfl hl.1 rfl (Nat.le_of_ble_eq_true rfl) ⟨Nat.zero_le _, Nat.zero_le _⟩ dX11_wordHere_105 ?_
      refine lv_bipush (v := (103 : Int32)) hx hb dX11_wordHere_108 (by decide) ?_
      refine lv_icmp_ne (tgt := 137) hx hb dX11_wordHere_110 (by decide) (fun c27 => ?_) (fun c27 => ?_)
      · have hf := fk c27 hf
        exact J_X11_wordHere_137_W CF hG hr hlk hP (lv_sub hl [1] rfl) hf
      · have hf := tk c27 hf
        refine lv_aload_n hx hb dX11_wordHere_113 rfl (lv_at hl 1 rfl) ?_
        refine lv_iconst (v := (1 : Int32)) hx hb dX11_wordHere_114 (by decide) ?_
        obtain ⟨o35, e36, hf⟩ := lp_bind hf
        refine ro_Vi (x := o35) (As := [.int (1 : Int32)]) (rest := []) CF (c_X11_letter l D cI cB cT a_m a_m_refused a_m_codes a_m_noted a_m_marked a_m_masks a_m_text a_m_before a_m_ahead a_m_aside a_m_sure a_m_wrongs a_m_says a_m_evening a_m_images m_words m_kindNow m_secretNow m_guessed m_left m_wrong m_noteMany m_markMany m_typed m_readAt m_readNumber m_undoMany m_lastGuesses m_above m_below m_refused m_codes m_noted m_marked m_masks m_text m_before m_ahead m_aside m_sure m_wrongs m_says m_evening m_images (1 : Int32) e36) ok_X11_letter wm_1102 ⟨rfl, rfl, Nat.le_of_ble_eq_true rfl, Nat.le_of_ble_eq_true rfl⟩ hG hP 0 9 vq_9 rfl ce_m_0 rfl hl.1 rfl (Nat.le_of_ble_eq_true rfl) ⟨Nat.zero_le _, Nat.zero_le _⟩ dX11_wordHere_115 ?_
        refine lv_bipush (v := (117 : Int32)) hx hb dX11_wordHere_118 (by decide) ?_
        refine lv_icmp_ne (tgt := 137) hx hb dX11_wordHere_120 (by decide) (fun c37 => ?_) (fun c37 => ?_)
        · have hf := fk c37 hf
          exact J_X11_wordHere_137_W CF hG hr hlk hP (lv_sub hl [1] rfl) hf
        · have hf := tk c37 hf
          refine lv_aload_n hx hb dX11_wordHere_123 rfl (lv_at hl 1 rfl) ?_
          refine lv_iconst (v := (2 : Int32)) hx hb dX11_wordHere_124 (by decide) ?_
          obtain ⟨o38, e39, hf⟩ := lp_bind hf
          refine ro_Vi (x := o38) (As := [.int (2 : Int32)]) (rest := []) CF (c_X11_letter l D cI cB cT a_m a_m_refused a_m_codes a_m_noted a_m_marked a_m_masks a_m_text a_m_before a_m_ahead a_m_aside a_m_sure a_m_wrongs a_m_says a_m_evening a_m_images m_words m_kindNow m_secretNow m_guessed m_left m_wrong m_noteMany m_markMany m_typed m_readAt m_readNumber m_undoMany m_lastGuesses m_above m_below m_refused m_codes m_noted m_marked m_masks m_text m_before m_ahead m_aside m_sure m_wrongs m_says m_evening m_images (2 : Int32) e39) ok_X11_letter wm_1102 ⟨rfl, rfl, Nat.le_of_ble_eq_true rfl, Nat.le_of_ble_eq_true rfl⟩ hG hP 0 9 vq_9 rfl ce_m_0 rfl hl.1 rfl (Nat.le_of_ble_eq_true rfl) ⟨Nat.zero_le _, Nat.zero_le _⟩ dX11_wordHere_125 ?_
          refine lv_bipush (v := (101 : Int32)) hx hb dX11_wordHere_128 (by decide) ?_
          refine lv_icmp_ne (tgt := 137) hx hb dX11_wordHere_130 (by decide) (fun c40 => ?_) (fun c40 => ?_)
          · have hf := fk c40 hf
            exact J_X11_wordHere_137_W CF hG hr hlk hP (lv_sub hl [1] rfl) hf
          · have hf := tk c40 hf
            refine lv_iconst (v := (1 : Int32)) hx hb dX11_wordHere_133 (by decide) ?_
            refine lv_goto (tgt := 138) hx hb dX11_wordHere_134 (by decide) ?_
            exact J_X11_wordHere_138_W CF hG hr hlk hP (lv_sub hl [1] rfl) hf
  · have hf := tk c3 hf
    refine lv_aload_n hx hb dX11_wordHere_10 rfl (lv_at hl 1 rfl) ?_
    refine lv_iconst (v := (0 : Int32)) hx hb dX11_wordHere_11 (by decide) ?_
    obtain ⟨o41, e42, hf⟩ := lp_bind hf
    refine ro_Vi (x := o41) (As := [.int (0 : Int32)]) (rest := []) CF (c_X11_letter l D cI cB cT a_m a_m_refused a_m_codes a_m_noted a_m_marked a_m_masks a_m_text a_m_before a_m_ahead a_m_aside a_m_sure a_m_wrongs a_m_says a_m_evening a_m_images m_words m_kindNow m_secretNow m_guessed m_left m_wrong m_noteMany m_markMany m_typed m_readAt m_readNumber m_undoMany m_lastGuesses m_above m_below m_refused m_codes m_noted m_marked m_masks m_text m_before m_ahead m_aside m_sure m_wrongs m_says m_evening m_images (0 : Int32) e42) ok_X11_letter wm_1102 ⟨rfl, rfl, Nat.le_of_ble_eq_true rfl, Nat.le_of_ble_eq_true rfl⟩ hG hP 0 9 vq_9 rfl ce_m_0 rfl hl.1 rfl (Nat.le_of_ble_eq_true rfl) ⟨Nat.zero_le _, Nat.zero_le _⟩ dX11_wordHere_12 ?_
    refine lv_bipush (v := (103 : Int32)) hx hb dX11_wordHere_15 (by decide) ?_
    refine lv_icmp_ne (tgt := 52) hx hb dX11_wordHere_17 (by decide) (fun c43 => ?_) (fun c43 => ?_)
    · have hf := fk c43 hf
      exact J_X11_wordHere_52_W CF hG hr hlk hP (lv_sub hl [1] rfl) hf
    · have hf := tk c43 hf
      refine lv_aload_n hx hb dX11_wordHere_20 rfl (lv_at hl 1 rfl) ?_
      refine lv_iconst (v := (1 : Int32)) hx hb dX11_wordHere_21 (by decide) ?_
      obtain ⟨o56, e57, hf⟩ := lp_bind hf
      refine ro_Vi (x := o56) (As := [.int (1 : Int32)]) (rest := []) CF (c_X11_letter l D cI cB cT a_m a_m_refused a_m_codes a_m_noted a_m_marked a_m_masks a_m_text a_m_before a_m_ahead a_m_aside a_m_sure a_m_wrongs a_m_says a_m_evening a_m_images m_words m_kindNow m_secretNow m_guessed m_left m_wrong m_noteMany m_markMany m_typed m_readAt m_readNumber m_undoMany m_lastGuesses m_above m_below m_refused m_codes m_noted m_marked m_masks m_text m_before m_ahead m_aside m_sure m_wrongs m_says m_evening m_images (1 : Int32) e57) ok_X11_letter wm_1102 ⟨rfl, rfl, Nat.le_of_ble_eq_true rfl, Nat.le_of_ble_eq_true rfl⟩ hG hP 0 9 vq_9 rfl ce_m_0 rfl hl.1 rfl (Nat.le_of_ble_eq_true rfl) ⟨Nat.zero_le _, Nat.zero_le _⟩ dX11_wordHere_22 ?_
      refine lv_bipush (v := (97 : Int32)) hx hb dX11_wordHere_25 (by decide) ?_
      refine lv_icmp_ne (tgt := 52) hx hb dX11_wordHere_27 (by decide) (fun c58 => ?_) (fun c58 => ?_)
      · have hf := fk c58 hf
        exact J_X11_wordHere_52_W CF hG hr hlk hP (lv_sub hl [1] rfl) hf
      · have hf := tk c58 hf
        refine lv_aload_n hx hb dX11_wordHere_30 rfl (lv_at hl 1 rfl) ?_
        refine lv_iconst (v := (2 : Int32)) hx hb dX11_wordHere_31 (by decide) ?_
        obtain ⟨o59, e60, hf⟩ := lp_bind hf
        refine ro_Vi (x := o59) (As := [.int (2 : Int32)]) (rest := []) CF (c_X11_letter l D cI cB cT a_m a_m_refused a_m_codes a_m_noted a_m_marked a_m_masks a_m_text a_m_before a_m_ahead a_m_aside a_m_sure a_m_wrongs a_m_says a_m_evening a_m_images m_words m_kindNow m_secretNow m_guessed m_left m_wrong m_noteMany m_markMany m_typed m_readAt m_readNumber m_undoMany m_lastGuesses m_above m_below m_refused m_codes m_noted m_marked m_masks m_text m_before m_ahead m_aside m_sure m_wrongs m_says m_evening m_images (2 : Int32) e60) ok_X11_letter wm_1102 ⟨rfl, rfl, Nat.le_of_ble_eq_true rfl, Nat.le_of_ble_eq_true rfl⟩ hG hP 0 9 vq_9 rfl ce_m_0 rfl hl.1 rfl (Nat.le_of_ble_eq_true rfl) ⟨Nat.zero_le _, Nat.zero_le _⟩ dX11_wordHere_32 ?_
        refine lv_bipush (v := (109 : Int32)) hx hb dX11_wordHere_35 (by decide) ?_
        refine lv_icmp_ne (tgt := 52) hx hb dX11_wordHere_37 (by decide) (fun c61 => ?_) (fun c61 => ?_)
        · have hf := fk c61 hf
          exact J_X11_wordHere_52_W CF hG hr hlk hP (lv_sub hl [1] rfl) hf
        · have hf := tk c61 hf
          refine lv_aload_n hx hb dX11_wordHere_40 rfl (lv_at hl 1 rfl) ?_
          refine lv_iconst (v := (3 : Int32)) hx hb dX11_wordHere_41 (by decide) ?_
          obtain ⟨o62, e63, hf⟩ := lp_bind hf
          refine ro_Vi (x := o62) (As := [.int (3 : Int32)]) (rest := []) CF (c_X11_letter l D cI cB cT a_m a_m_refused a_m_codes a_m_noted a_m_marked a_m_masks a_m_text a_m_before a_m_ahead a_m_aside a_m_sure a_m_wrongs a_m_says a_m_evening a_m_images m_words m_kindNow m_secretNow m_guessed m_left m_wrong m_noteMany m_markMany m_typed m_readAt m_readNumber m_undoMany m_lastGuesses m_above m_below m_refused m_codes m_noted m_marked m_masks m_text m_before m_ahead m_aside m_sure m_wrongs m_says m_evening m_images (3 : Int32) e63) ok_X11_letter wm_1102 ⟨rfl, rfl, Nat.le_of_ble_eq_true rfl, Nat.le_of_ble_eq_true rfl⟩ hG hP 0 9 vq_9 rfl ce_m_0 rfl hl.1 rfl (Nat.le_of_ble_eq_true rfl) ⟨Nat.zero_le _, Nat.zero_le _⟩ dX11_wordHere_42 ?_
          refine lv_bipush (v := (101 : Int32)) hx hb dX11_wordHere_45 (by decide) ?_
          refine lv_icmp_ne (tgt := 52) hx hb dX11_wordHere_47 (by decide) (fun c64 => ?_) (fun c64 => ?_)
          · have hf := fk c64 hf
            exact J_X11_wordHere_52_W CF hG hr hlk hP (lv_sub hl [1] rfl) hf
          · have hf := tk c64 hf
            refine lv_iconst (v := (0 : Int32)) hx hb dX11_wordHere_50 (by decide) ?_
            obtain rfl := Option.some.inj hf
            exact ro_iret CF hr hlk dX11_wordHere_51
end M_X11_wordHere
section M_X11_isFigure
variable {p : Program} {l : Launch} {e : Env} {s : State} {m : MethodId} {args : Array Value} {below : List Frame} {meth : Method} {c : Code} {Q : State → Prop} {A : Nat → Prop} {D : va_G} {cI cB cT : ClassId}
def rm_X11_isFigure : Room := { frames := 1, cells := 0, slots := 0, locals := 22 }
def f_X11_isFigure (p1 : Int32) : Option (Int32) := ((f_X11_in p1 (48 : Int32) (57 : Int32)).bind fun o1 => (if (o1 = 0 ∨ o1 = 1) then some o1 else none))
set_option maxHeartbeats 4000000 in
set_option maxRecDepth 100000 in
theorem c_X11_isFigure (l : Launch) (D : va_G) (cI cB cT : ClassId) (p1 : Int32) {z : Int32} (hf : f_X11_isFigure p1 = some z) :
    Met l yX11_isFigure (Cond.code yX11_isFigure cX11_isFigure 1 (some .boolean) :: wsAll) rm_X11_isFigure (Pro [.int p1] D cI cB cT wd_E) (Qr (some (.int z))) 0 0 (fun _ => False) := by
  refine ro_intro RX11 (by decide +kernel) rfl (Nat.le_of_ble_eq_true rfl) ?_
  intro p e s m below meth c ls CF hr hlk hG hP hl
  have hl : lv_has ls 1 [(0, .int p1)] := hl
  obtain ⟨hx, hb, hml, hown, hts⟩ := id CF
  unfold f_X11_isFigure at hf
  refine lv_iload_n hx hb dX11_isFigure_0 rfl (lv_at hl 0 rfl) ?_
  refine lv_bipush (v := (48 : Int32)) hx hb dX11_isFigure_1 (by decide) ?_
  refine lv_bipush (v := (57 : Int32)) hx hb dX11_isFigure_3 (by decide) ?_
  obtain ⟨o1, e2, hf⟩ := lp_bind hf
  refine ro_Si (x := o1) (As := [.int p1, .int (48 : Int32), .int (57 : Int32)]) (rest := []) CF (c_X11_in l D cI cB cT p1 (48 : Int32) (57 : Int32) e2) ok_X11_in wm_1017 ⟨rfl, rfl, Nat.le_of_ble_eq_true rfl, Nat.le_of_ble_eq_true rfl⟩ hG wd_E_P rfl hl.1 rfl (Nat.le_of_ble_eq_true rfl) ⟨Nat.zero_le _, Nat.zero_le _⟩ dX11_isFigure_5 ?_
  obtain ⟨n3, hf⟩ := yk hf
  obtain rfl := Option.some.inj hf
  exact ro_zret CF hr hlk n3 dX11_isFigure_8
end M_X11_isFigure
section M_X11_number
variable {p : Program} {l : Launch} {e : Env} {s : State} {m : MethodId} {args : Array Value} {below : List Frame} {meth : Method} {c : Code} {Q : State → Prop} {A : Nat → Prop} {D : va_G} {cI cB cT : ClassId}
variable {a_m a_m_refused a_m_codes a_m_noted a_m_marked a_m_masks a_m_text a_m_before a_m_ahead a_m_aside a_m_sure a_m_wrongs a_m_says a_m_evening a_m_images : Nat}
def rm_X11_number : Room := { frames := 2, cells := 0, slots := 0, locals := 42 }
def B_X11_number_9 (m_typed : Int32) (m_readAt : Int32) (m_text : (Nat → Int32)) (x3 : Int32) (x4 : Int32) : Option ((Int32 × Int32) ⊕ (Int32 × Int32)) := (if m_typed ≤ (m_readAt + x3) then some (Sum.inr (x3, x4)) else (if oob (m_readAt + x3) 150 then none else ((f_X11_isFigure (m_text ((m_readAt + x3)).toNatClampNeg)).bind fun o5 => (if o5 = 0 then some (Sum.inr (x3, x4)) else (if (2 : Int32) ≤ x3 then some (Sum.inl ((x3 + (1 : Int32)), x4)) else (if oob (m_readAt + x3) 150 then none else ((some (((((10 : Int32) * x4) + (m_text ((m_readAt + x3)).toNatClampNeg)) - (48 : Int32)) : Int32)).bind fun o10 => some (Sum.inl ((x3 + (1 : Int32)), o10)))))))))
def J_X11_number_77 (m_readAt : Int32) (m_readNumber : Int32) (x1 : Int32) (x2 : Int32) (x3 : Int32) (x4 : Int32) : Option (Int32 × Int32 × Int32) := ((f_X11_in x3 (1 : Int32) (2 : Int32)).bind fun o15 => (if o15 = 0 then some ((0 : Int32), m_readAt, m_readNumber) else ((f_X11_in x4 x1 x2).bind fun o18 => (if o18 = 0 then some ((0 : Int32), m_readAt, m_readNumber) else some ((1 : Int32), (m_readAt + x3), x4)))))
def f_X11_number (m_typed : Int32) (m_readAt : Int32) (m_readNumber : Int32) (m_text : (Nat → Int32)) (p1 : Int32) (p2 : Int32) : Option (Int32 × Int32 × Int32) := ((f_X11_skip m_typed m_readAt m_text).bind fun o1 => ((lp (fun v => B_X11_number_9 m_typed o1 m_text v.1 v.2) KN ((0 : Int32), (0 : Int32))).bind fun o13 => J_X11_number_77 o1 m_readNumber p1 p2 o13.1 o13.2))
set_option maxHeartbeats 4000000 in
set_option maxRecDepth 100000 in
theorem B_X11_number_9_W {m_words : Int32} {m_kindNow : Int32} {m_secretNow : Int32} {m_guessed : Int32} {m_left : Int32} {m_wrong : Int32} {m_noteMany : Int32} {m_markMany : Int32} {m_typed : Int32} {m_readAt : Int32} {m_readNumber : Int32} {m_undoMany : Int32} {m_lastGuesses : Int32} {m_above : Int64} {m_below : Int64} {m_refused : (Nat → Int32)} {m_codes : (Nat → Int32)} {m_noted : (Nat → Int32)} {m_marked : (Nat → Int32)} {m_masks : (Nat → Int32)} {m_text : (Nat → Int32)} {m_before : (Nat → Int32)} {m_ahead : (Nat → Int32)} {m_aside : (Nat → Int32)} {m_sure : (Nat → Int32)} {m_wrongs : (Nat → Int32)} {m_says : (Nat → Int32)} {m_evening : (Nat → Int32)} {m_images : (Nat → Int32)} {x1 : Int32} {x2 : Int32} {x3 : Int32} {x4 : Int32} (CF : CallFix p m c cX11_number 5 s args wsAll RX11) (hG : Gd D cI cB cT s) (hA : ∀ q : Nat, s.heap.size ≤ q → A q) {z : (Int32 × Int32) ⊕ (Int32 × Int32)} {H : Heap} {locs : List Loc} (hk : ∀ (v' : Int32 × Int32) (H : Heap) (locs : List Loc) (ls : Array Slot), z = Sum.inl v' → va_P D vwCl (wd_m a_m a_m_refused a_m_codes a_m_noted a_m_marked a_m_masks a_m_text a_m_before a_m_ahead a_m_aside a_m_sure a_m_wrongs a_m_says a_m_evening a_m_images cI cB cT m_words m_kindNow m_secretNow m_guessed m_left m_wrong m_noteMany m_markMany m_typed m_readAt m_readNumber m_undoMany m_lastGuesses m_above m_below m_refused m_codes m_noted m_marked m_masks m_text m_before m_ahead m_aside m_sure m_wrongs m_says m_evening m_images) H → va_D A (wd_m a_m a_m_refused a_m_codes a_m_noted a_m_marked a_m_masks a_m_text a_m_before a_m_ahead a_m_aside a_m_sure a_m_wrongs a_m_says a_m_evening a_m_images cI cB cT m_words m_kindNow m_secretNow m_guessed m_left m_wrong m_noteMany m_markMany m_typed m_readAt m_readNumber m_undoMany m_lastGuesses m_above m_below m_refused m_codes m_noted m_marked m_masks m_text m_before m_ahead m_aside m_sure m_wrongs m_says m_evening m_images) → va_S A s.heap H locs → lv_has ls 5 [(0, .ref a_m), (1, .int x1), (2, .int x2), (3, .int (v'.1)), (4, .int (v'.2))] → W p l e rm_X11_number s m args below meth c H locs 0 0 Q (F0 m 9 ls [])) (hx0 : ∀ (o' : Int32 × Int32) (H : Heap) (locs : List Loc) (ls : Array Slot), z = Sum.inr o' → va_P D vwCl (wd_m a_m a_m_refused a_m_codes a_m_noted a_m_marked a_m_masks a_m_text a_m_before a_m_ahead a_m_aside a_m_sure a_m_wrongs a_m_says a_m_evening a_m_images cI cB cT m_words m_kindNow m_secretNow m_guessed m_left m_wrong m_noteMany m_markMany m_typed m_readAt m_readNumber m_undoMany m_lastGuesses m_above m_below m_refused m_codes m_noted m_marked m_masks m_text m_before m_ahead m_aside m_sure m_wrongs m_says m_evening m_images) H → va_D A (wd_m a_m a_m_refused a_m_codes a_m_noted a_m_marked a_m_masks a_m_text a_m_before a_m_ahead a_m_aside a_m_sure a_m_wrongs a_m_says a_m_evening a_m_images cI cB cT m_words m_kindNow m_secretNow m_guessed m_left m_wrong m_noteMany m_markMany m_typed m_readAt m_readNumber m_undoMany m_lastGuesses m_above m_below m_refused m_codes m_noted m_marked m_masks m_text m_before m_ahead m_aside m_sure m_wrongs m_says m_evening m_images) → va_S A s.heap H locs → lv_has ls 5 [(0, .ref a_m), (1, .int x1), (2, .int x2), (3, .int (o'.1)), (4, .int (o'.2))] → W p l e rm_X11_number s m args below meth c H locs 0 0 Q (F0 m 77 ls [])) {ls : Array Slot} (hP : va_P D vwCl (wd_m a_m a_m_refused a_m_codes a_m_noted a_m_marked a_m_masks a_m_text a_m_before a_m_ahead a_m_aside a_m_sure a_m_wrongs a_m_says a_m_evening a_m_images cI cB cT m_words m_kindNow m_secretNow m_guessed m_left m_wrong m_noteMany m_markMany m_typed m_readAt m_readNumber m_undoMany m_lastGuesses m_above m_below m_refused m_codes m_noted m_marked m_masks m_text m_before m_ahead m_aside m_sure m_wrongs m_says m_evening m_images) H) (hD : va_D A (wd_m a_m a_m_refused a_m_codes a_m_noted a_m_marked a_m_masks a_m_text a_m_before a_m_ahead a_m_aside a_m_sure a_m_wrongs a_m_says a_m_evening a_m_images cI cB cT m_words m_kindNow m_secretNow m_guessed m_left m_wrong m_noteMany m_markMany m_typed m_readAt m_readNumber m_undoMany m_lastGuesses m_above m_below m_refused m_codes m_noted m_marked m_masks m_text m_before m_ahead m_aside m_sure m_wrongs m_says m_evening m_images)) (hS : va_S A s.heap H locs) (hl : lv_has ls 5 [(0, .ref a_m), (1, .int x1), (2, .int x2), (3, .int x3), (4, .int x4)]) (hf : B_X11_number_9 m_typed m_readAt m_text x3 x4 = some z) : W p l e rm_X11_number s m args below meth c H locs 0 0 Q (F0 m 9 ls []) := by
  obtain ⟨hx, hb, hml, hown, hts⟩ := id CF
  unfold B_X11_number_9 at hf
  refine lv_aload_n hx hb dX11_number_9 rfl (lv_at hl 0 rfl) ?_
  refine va_get (D := D) (ci := 9) (v := .int m_readAt) (C := RX11) (T := TX11) (N := 29) hx hb hts fin_X11 hown hG.1 hP 0 ce_m_0 vq_9 15 (by decide) (hts _ wm_937) (fun _ h9 => h9) rfl dX11_number_10 ?_
  refine lv_iload_n hx hb dX11_number_13 rfl (lv_at hl 3 rfl) ?_
  refine lv_iadd hx hb dX11_number_14 ?_
  refine lv_aload_n hx hb dX11_number_15 rfl (lv_at hl 0 rfl) ?_
  refine va_get (D := D) (ci := 9) (v := .int m_typed) (C := RX11) (T := TX11) (N := 29) hx hb hts fin_X11 hown hG.1 hP 0 ce_m_0 vq_9 14 (by decide) (hts _ wm_936) (fun _ h9 => h9) rfl dX11_number_16 ?_
  refine lv_icmp_ge (tgt := 77) hx hb dX11_number_19 (by decide) (fun c3 => ?_) (fun c3 => ?_)
  · have hf := tk c3 hf
    exact hx0 _ _ _ _ (Option.some.inj hf).symm hP hD hS (lv_sub hl [0, 1, 2, 3, 4] rfl)
  · have hf := fk c3 hf
    refine lv_aload_n hx hb dX11_number_22 rfl (lv_at hl 0 rfl) ?_
    refine va_get (D := D) (ci := 9) (v := .ref a_m_text) (C := RX11) (T := TX11) (N := 29) hx hb hts fin_X11 hown hG.1 hP 0 ce_m_0 vq_9 13 (by decide) (hts _ wm_935) (fun _ h9 => h9) rfl dX11_number_23 ?_
    refine lv_aload_n hx hb dX11_number_26 rfl (lv_at hl 0 rfl) ?_
    refine va_get (D := D) (ci := 9) (v := .int m_readAt) (C := RX11) (T := TX11) (N := 29) hx hb hts fin_X11 hown hG.1 hP 0 ce_m_0 vq_9 15 (by decide) (hts _ wm_937) (fun _ h9 => h9) rfl dX11_number_27 ?_
    refine lv_iload_n hx hb dX11_number_30 rfl (lv_at hl 3 rfl) ?_
    refine lv_iadd hx hb dX11_number_31 ?_
    obtain ⟨n4, hf⟩ := nk hf
    refine va_iald (f := m_text) hx hb hG.1 hP 6 0 ce_m_6 rfl n4 dX11_number_32 ?_
    obtain ⟨o5, e6, hf⟩ := lp_bind hf
    refine ro_Si (x := o5) (As := [.int (m_text ((m_readAt + x3)).toNatClampNeg)]) (rest := []) CF (c_X11_isFigure l D cI cB cT (m_text ((m_readAt + x3)).toNatClampNeg) e6) ok_X11_isFigure wm_1110 ⟨rfl, rfl, Nat.le_of_ble_eq_true rfl, Nat.le_of_ble_eq_true rfl⟩ hG wd_E_P rfl hl.1 rfl (Nat.le_of_ble_eq_true rfl) ⟨Nat.zero_le _, Nat.zero_le _⟩ dX11_number_33 ?_
    refine lv_if_eq (tgt := 77) hx hb dX11_number_36 (by decide) (fun c7 => ?_) (fun c7 => ?_)
    · have hf := tk c7 hf
      exact hx0 _ _ _ _ (Option.some.inj hf).symm hP hD hS (lv_sub hl [0, 1, 2, 3, 4] rfl)
    · have hf := fk c7 hf
      refine lv_iload_n hx hb dX11_number_39 rfl (lv_at hl 3 rfl) ?_
      refine lv_iconst (v := (2 : Int32)) hx hb dX11_number_40 (by decide) ?_
      refine lv_icmp_ge (tgt := 67) hx hb dX11_number_41 (by decide) (fun c8 => ?_) (fun c8 => ?_)
      · have hf := tk c8 hf
        refine lv_iload hx hb dX11_number_67 (lv_at hl 4 rfl) ?_
        refine lv_istore (lv' := [(4, .int x4), (0, .ref a_m), (1, .int x1), (2, .int x2), (3, .int x3)]) hx hb dX11_number_69 hl (by decide) rfl (fun ls hl => ?_)
        refine lv_iinc (v := (x3 + (1 : Int32))) (lv' := [(3, .int (x3 + (1 : Int32))), (4, .int x4), (0, .ref a_m), (1, .int x1), (2, .int x2)]) hx hb dX11_number_71 hl (k := 4) rfl (iinc_eq (by decide)) (by decide) rfl (fun ls hl => ?_)
        refine lv_goto (tgt := 9) hx hb dX11_number_74 (by decide) ?_
        exact hk _ _ _ _ (Option.some.inj hf).symm hP hD hS (lv_sub hl [2, 3, 4, 0, 1] rfl)
      · have hf := fk c8 hf
        refine lv_bipush (v := (10 : Int32)) hx hb dX11_number_44 (by decide) ?_
        refine lv_iload hx hb dX11_number_46 (lv_at hl 4 rfl) ?_
        refine lv_imul hx hb dX11_number_48 ?_
        refine lv_aload_n hx hb dX11_number_49 rfl (lv_at hl 0 rfl) ?_
        refine va_get (D := D) (ci := 9) (v := .ref a_m_text) (C := RX11) (T := TX11) (N := 29) hx hb hts fin_X11 hown hG.1 hP 0 ce_m_0 vq_9 13 (by decide) (hts _ wm_935) (fun _ h9 => h9) rfl dX11_number_50 ?_
        refine lv_aload_n hx hb dX11_number_53 rfl (lv_at hl 0 rfl) ?_
        refine va_get (D := D) (ci := 9) (v := .int m_readAt) (C := RX11) (T := TX11) (N := 29) hx hb hts fin_X11 hown hG.1 hP 0 ce_m_0 vq_9 15 (by decide) (hts _ wm_937) (fun _ h9 => h9) rfl dX11_number_54 ?_
        refine lv_iload_n hx hb dX11_number_57 rfl (lv_at hl 3 rfl) ?_
        refine lv_iadd hx hb dX11_number_58 ?_
        obtain ⟨n9, hf⟩ := nk hf
        refine va_iald (f := m_text) hx hb hG.1 hP 6 0 ce_m_6 rfl n9 dX11_number_59 ?_
        refine lv_iadd hx hb dX11_number_60 ?_
        refine lv_bipush (v := (48 : Int32)) hx hb dX11_number_61 (by decide) ?_
        refine lv_isub hx hb dX11_number_63 ?_
        refine lv_goto (tgt := 69) hx hb dX11_number_64 (by decide) ?_
        obtain ⟨o10, e11, hf⟩ := lp_bind hf
        refine lv_topi (fun y12 ey12 => ?_)
        obtain rfl : o10 = y12 := (Option.some.inj e11).symm.trans ey12.symm
        refine lv_istore (lv' := [(4, .int o10), (0, .ref a_m), (1, .int x1), (2, .int x2), (3, .int x3)]) hx hb dX11_number_69 hl (by decide) rfl (fun ls hl => ?_)
        refine lv_iinc (v := (x3 + (1 : Int32))) (lv' := [(3, .int (x3 + (1 : Int32))), (4, .int o10), (0, .ref a_m), (1, .int x1), (2, .int x2)]) hx hb dX11_number_71 hl (k := 4) rfl (iinc_eq (by decide)) (by decide) rfl (fun ls hl => ?_)
        refine lv_goto (tgt := 9) hx hb dX11_number_74 (by decide) ?_
        exact hk _ _ _ _ (Option.some.inj hf).symm hP hD hS (lv_sub hl [2, 3, 4, 0, 1] rfl)
set_option maxHeartbeats 4000000 in
set_option maxRecDepth 100000 in
theorem L_X11_number_9_W {m_words : Int32} {m_kindNow : Int32} {m_secretNow : Int32} {m_guessed : Int32} {m_left : Int32} {m_wrong : Int32} {m_noteMany : Int32} {m_markMany : Int32} {m_typed : Int32} {m_readAt : Int32} {m_readNumber : Int32} {m_undoMany : Int32} {m_lastGuesses : Int32} {m_above : Int64} {m_below : Int64} {m_refused : (Nat → Int32)} {m_codes : (Nat → Int32)} {m_noted : (Nat → Int32)} {m_marked : (Nat → Int32)} {m_masks : (Nat → Int32)} {m_text : (Nat → Int32)} {m_before : (Nat → Int32)} {m_ahead : (Nat → Int32)} {m_aside : (Nat → Int32)} {m_sure : (Nat → Int32)} {m_wrongs : (Nat → Int32)} {m_says : (Nat → Int32)} {m_evening : (Nat → Int32)} {m_images : (Nat → Int32)} {x1 : Int32} {x2 : Int32} (CF : CallFix p m c cX11_number 5 s args wsAll RX11) (hG : Gd D cI cB cT s) (hA : ∀ q : Nat, s.heap.size ≤ q → A q) {o : Int32 × Int32} (hx0 : ∀ (H : Heap) (locs : List Loc) (ls : Array Slot), va_P D vwCl (wd_m a_m a_m_refused a_m_codes a_m_noted a_m_marked a_m_masks a_m_text a_m_before a_m_ahead a_m_aside a_m_sure a_m_wrongs a_m_says a_m_evening a_m_images cI cB cT m_words m_kindNow m_secretNow m_guessed m_left m_wrong m_noteMany m_markMany m_typed m_readAt m_readNumber m_undoMany m_lastGuesses m_above m_below m_refused m_codes m_noted m_marked m_masks m_text m_before m_ahead m_aside m_sure m_wrongs m_says m_evening m_images) H → va_D A (wd_m a_m a_m_refused a_m_codes a_m_noted a_m_marked a_m_masks a_m_text a_m_before a_m_ahead a_m_aside a_m_sure a_m_wrongs a_m_says a_m_evening a_m_images cI cB cT m_words m_kindNow m_secretNow m_guessed m_left m_wrong m_noteMany m_markMany m_typed m_readAt m_readNumber m_undoMany m_lastGuesses m_above m_below m_refused m_codes m_noted m_marked m_masks m_text m_before m_ahead m_aside m_sure m_wrongs m_says m_evening m_images) → va_S A s.heap H locs → lv_has ls 5 [(0, .ref a_m), (1, .int x1), (2, .int x2), (3, .int o.1), (4, .int o.2)] → W p l e rm_X11_number s m args below meth c H locs 0 0 Q (F0 m 77 ls [])) : ∀ (n : Nat) (x3 : Int32) (x4 : Int32) (H : Heap) (locs : List Loc) (ls : Array Slot), va_P D vwCl (wd_m a_m a_m_refused a_m_codes a_m_noted a_m_marked a_m_masks a_m_text a_m_before a_m_ahead a_m_aside a_m_sure a_m_wrongs a_m_says a_m_evening a_m_images cI cB cT m_words m_kindNow m_secretNow m_guessed m_left m_wrong m_noteMany m_markMany m_typed m_readAt m_readNumber m_undoMany m_lastGuesses m_above m_below m_refused m_codes m_noted m_marked m_masks m_text m_before m_ahead m_aside m_sure m_wrongs m_says m_evening m_images) H → va_D A (wd_m a_m a_m_refused a_m_codes a_m_noted a_m_marked a_m_masks a_m_text a_m_before a_m_ahead a_m_aside a_m_sure a_m_wrongs a_m_says a_m_evening a_m_images cI cB cT m_words m_kindNow m_secretNow m_guessed m_left m_wrong m_noteMany m_markMany m_typed m_readAt m_readNumber m_undoMany m_lastGuesses m_above m_below m_refused m_codes m_noted m_marked m_masks m_text m_before m_ahead m_aside m_sure m_wrongs m_says m_evening m_images) → va_S A s.heap H locs → lv_has ls 5 [(0, .ref a_m), (1, .int x1), (2, .int x2), (3, .int x3), (4, .int x4)] → lp (fun v => B_X11_number_9 m_typed m_readAt m_text v.1 v.2) n (x3, x4) = some o → W p l e rm_X11_number s m args below meth c H locs 0 0 Q (F0 m 9 ls []) := by
  intro n
  induction n with
  | zero =>
    intro x3 x4 H locs ls hP hD hS hl hf
    exact (lp_zero hf).elim
  | succ n ih =>
    intro x3 x4 H locs ls hP hD hS hl hf
    obtain ⟨z, hz, hf⟩ := lp_succ hf
    refine B_X11_number_9_W CF hG hA ?_ ?_ hP hD hS hl hz
    · intro v' H locs ls ez hP hD hS hl
      rcases hf with ⟨v2, ev, hf⟩ | ev
      · cases Sum.inl.inj (ez.symm.trans ev)
        exact ih v'.1 v'.2 H locs ls hP hD hS hl hf
      · exact (lp_lr (ez.symm.trans ev)).elim
    · intro o' H locs ls ez hP hD hS hl
      rcases hf with ⟨v2, ev, hf⟩ | ev
      · exact (lp_lr (ev.symm.trans ez)).elim
      · cases Sum.inr.inj (ez.symm.trans ev)
        exact hx0 H locs ls hP hD hS hl
set_option maxHeartbeats 4000000 in
set_option maxRecDepth 100000 in
theorem J_X11_number_77_W {m_words : Int32} {m_kindNow : Int32} {m_secretNow : Int32} {m_guessed : Int32} {m_left : Int32} {m_wrong : Int32} {m_noteMany : Int32} {m_markMany : Int32} {m_typed : Int32} {m_readAt : Int32} {m_readNumber : Int32} {m_undoMany : Int32} {m_lastGuesses : Int32} {m_above : Int64} {m_below : Int64} {m_refused : (Nat → Int32)} {m_codes : (Nat → Int32)} {m_noted : (Nat → Int32)} {m_marked : (Nat → Int32)} {m_masks : (Nat → Int32)} {m_text : (Nat → Int32)} {m_before : (Nat → Int32)} {m_ahead : (Nat → Int32)} {m_aside : (Nat → Int32)} {m_sure : (Nat → Int32)} {m_wrongs : (Nat → Int32)} {m_says : (Nat → Int32)} {m_evening : (Nat → Int32)} {m_images : (Nat → Int32)} {x1 : Int32} {x2 : Int32} {x3 : Int32} {x4 : Int32} (CF : CallFix p m c cX11_number 5 s args wsAll RX11) (hG : Gd D cI cB cT s) (hA : ∀ q : Nat, s.heap.size ≤ q → A q) {z : Int32 × Int32 × Int32} {H : Heap} {locs : List Loc} (hr : meth.sig.returnType = some .boolean) (hlk : meth.locks = false) {ls : Array Slot} (hP : va_P D vwCl (wd_m a_m a_m_refused a_m_codes a_m_noted a_m_marked a_m_masks a_m_text a_m_before a_m_ahead a_m_aside a_m_sure a_m_wrongs a_m_says a_m_evening a_m_images cI cB cT m_words m_kindNow m_secretNow m_guessed m_left m_wrong m_noteMany m_markMany m_typed m_readAt m_readNumber m_undoMany m_lastGuesses m_above m_below m_refused m_codes m_noted m_marked m_masks m_text m_before m_ahead m_aside m_sure m_wrongs m_says m_evening m_images) H) (hD : va_D A (wd_m a_m a_m_refused a_m_codes a_m_noted a_m_marked a_m_masks a_m_text a_m_before a_m_ahead a_m_aside a_m_sure a_m_wrongs a_m_says a_m_evening a_m_images cI cB cT m_words m_kindNow m_secretNow m_guessed m_left m_wrong m_noteMany m_markMany m_typed m_readAt m_readNumber m_undoMany m_lastGuesses m_above m_below m_refused m_codes m_noted m_marked m_masks m_text m_before m_ahead m_aside m_sure m_wrongs m_says m_evening m_images)) (hS : va_S A s.heap H locs) (hl : lv_has ls 5 [(0, .ref a_m), (1, .int x1), (2, .int x2), (3, .int x3), (4, .int x4)]) (hf : J_X11_number_77 m_readAt m_readNumber x1 x2 x3 x4 = some z) : W p l e rm_X11_number s m args below meth c H locs 0 0 (MQ below (Qw (some (.int z.1)) D (wd_m a_m a_m_refused a_m_codes a_m_noted a_m_marked a_m_masks a_m_text a_m_before a_m_ahead a_m_aside a_m_sure a_m_wrongs a_m_says a_m_evening a_m_images cI cB cT m_words m_kindNow m_secretNow m_guessed m_left m_wrong m_noteMany m_markMany m_typed z.2.1 z.2.2 m_undoMany m_lastGuesses m_above m_below m_refused m_codes m_noted m_marked m_masks m_text m_before m_ahead m_aside m_sure m_wrongs m_says m_evening m_images) A) args s 0 0 A) (F0 m 77 ls []) := by
  obtain ⟨hx, hb, hml, hown, hts⟩ := id CF
  unfold J_X11_number_77 at hf
  refine lv_iload_n hx hb dX11_number_77 rfl (lv_at hl 3 rfl) ?_
  refine lv_iconst (v := (1 : Int32)) hx hb dX11_number_78 (by decide) ?_
  refine lv_iconst (v := (2 : Int32)) hx hb dX11_number_79 (by decide) ?_
  obtain ⟨o15, e16, hf⟩ := lp_bind hf
  refine ro_Si (x := o15) (As := [.int x3, .int (1 : Int32), .int (2 : Int32)]) (rest := []) CF (c_X11_in l D cI cB cT x3 (1 : Int32) (2 : Int32) e16) ok_X11_in wm_1017 ⟨rfl, rfl, Nat.le_of_ble_eq_true rfl, Nat.le_of_ble_eq_true rfl⟩ hG wd_E_P rfl hl.1 rfl (Nat.le_of_ble_eq_true rfl) ⟨Nat.zero_le _, Nat.zero_le _⟩ dX11_number_80 ?_
  refine lv_if_eq (tgt := 96) hx hb dX11_number_83 (by decide) (fun c17 => ?_) (fun c17 => ?_)
  · have hf := tk c17 hf
    refine lv_iconst (v := (0 : Int32)) hx hb dX11_number_96 (by decide) ?_
    obtain rfl := Option.some.inj hf
    exact wr_zret CF hr hlk (Or.inl rfl) hP hS dX11_number_97
  · have hf := fk c17 hf
    refine lv_iload hx hb dX11_number_86 (lv_at hl 4 rfl) ?_
    refine lv_iload_n hx hb dX11_number_88 rfl (lv_at hl 1 rfl) ?_
    refine lv_iload_n hx hb dX11_number_89 rfl (lv_at hl 2 rfl) ?_
    obtain ⟨o18, e19, hf⟩ := lp_bind hf
    refine ro_Si (x := o18) (As := [.int x4, .int x1, .int x2]) (rest := []) CF (c_X11_in l D cI cB cT x4 x1 x2 e19) ok_X11_in wm_1017 ⟨rfl, rfl, Nat.le_of_ble_eq_true rfl, Nat.le_of_ble_eq_true rfl⟩ hG wd_E_P rfl hl.1 rfl (Nat.le_of_ble_eq_true rfl) ⟨Nat.zero_le _, Nat.zero_le _⟩ dX11_number_90 ?_
    refine lv_if_ne (tgt := 98) hx hb dX11_number_93 (by decide) (fun c20 => ?_) (fun c20 => ?_)
    · have hf := fk c20 hf
      refine lv_aload_n hx hb dX11_number_98 rfl (lv_at hl 0 rfl) ?_
      refine lv_iload hx hb dX11_number_99 (lv_at hl 4 rfl) ?_
      refine va_put (D := D) (ci := 9) (v := .int x4) (ty := .int) (C := RX11) (T := TX11) (N := 29) hx hb hts fin_X11 tyX11 tyX11_ok nmX11 hown hG.1 hP hD hS 0 ce_m_0 vq_9 16 (by decide) (hts _ wm_938) (fun _ h9 => h9) rfl (tyX11_ok 16 (by decide)) rfl rfl (Nat.le_of_ble_eq_true rfl) dX11_number_101 (fun H locs hP _ hS => ?_)
      have hP : va_P D vwCl (wd_m a_m a_m_refused a_m_codes a_m_noted a_m_marked a_m_masks a_m_text a_m_before a_m_ahead a_m_aside a_m_sure a_m_wrongs a_m_says a_m_evening a_m_images cI cB cT m_words m_kindNow m_secretNow m_guessed m_left m_wrong m_noteMany m_markMany m_typed m_readAt x4 m_undoMany m_lastGuesses m_above m_below m_refused m_codes m_noted m_marked m_masks m_text m_before m_ahead m_aside m_sure m_wrongs m_says m_evening m_images) H := va_P_eq se_m_m_readNumber hP
      have hD : va_D A (wd_m a_m a_m_refused a_m_codes a_m_noted a_m_marked a_m_masks a_m_text a_m_before a_m_ahead a_m_aside a_m_sure a_m_wrongs a_m_says a_m_evening a_m_images cI cB cT m_words m_kindNow m_secretNow m_guessed m_left m_wrong m_noteMany m_markMany m_typed m_readAt x4 m_undoMany m_lastGuesses m_above m_below m_refused m_codes m_noted m_marked m_masks m_text m_before m_ahead m_aside m_sure m_wrongs m_says m_evening m_images) := va_D_fst fs_m hD
      refine lv_aload_n hx hb dX11_number_104 rfl (lv_at hl 0 rfl) ?_
      refine lv_dup hx hb dX11_number_105 rfl ?_
      refine va_get (D := D) (ci := 9) (v := .int m_readAt) (C := RX11) (T := TX11) (N := 29) hx hb hts fin_X11 hown hG.1 hP 0 ce_m_0 vq_9 15 (by decide) (hts _ wm_937) (fun _ h9 => h9) rfl dX11_number_106 ?_
      refine lv_iload_n hx hb dX11_number_109 rfl (lv_at hl 3 rfl) ?_
      refine lv_iadd hx hb dX11_number_110 ?_
      refine va_put (D := D) (ci := 9) (v := .int (m_readAt + x3)) (ty := .int) (C := RX11) (T := TX11) (N := 29) hx hb hts fin_X11 tyX11 tyX11_ok nmX11 hown hG.1 hP hD hS 0 ce_m_0 vq_9 15 (by decide) (hts _ wm_937) (fun _ h9 => h9) rfl (tyX11_ok 15 (by decide)) rfl rfl (Nat.le_of_ble_eq_true rfl) dX11_number_111 (fun H locs hP _ hS => ?_)
      have hP : va_P D vwCl (wd_m a_m a_m_refused a_m_codes a_m_noted a_m_marked a_m_masks a_m_text a_m_before a_m_ahead a_m_aside a_m_sure a_m_wrongs a_m_says a_m_evening a_m_images cI cB cT m_words m_kindNow m_secretNow m_guessed m_left m_wrong m_noteMany m_markMany m_typed (m_readAt + x3) x4 m_undoMany m_lastGuesses m_above m_below m_refused m_codes m_noted m_marked m_masks m_text m_before m_ahead m_aside m_sure m_wrongs m_says m_evening m_images) H := va_P_eq se_m_m_readAt hP
      have hD : va_D A (wd_m a_m a_m_refused a_m_codes a_m_noted a_m_marked a_m_masks a_m_text a_m_before a_m_ahead a_m_aside a_m_sure a_m_wrongs a_m_says a_m_evening a_m_images cI cB cT m_words m_kindNow m_secretNow m_guessed m_left m_wrong m_noteMany m_markMany m_typed (m_readAt + x3) x4 m_undoMany m_lastGuesses m_above m_below m_refused m_codes m_noted m_marked m_masks m_text m_before m_ahead m_aside m_sure m_wrongs m_says m_evening m_images) := va_D_fst fs_m hD
      refine lv_iconst (v := (1 : Int32)) hx hb dX11_number_114 (by decide) ?_
      obtain rfl := Option.some.inj hf
      exact wr_zret CF hr hlk (Or.inr rfl) hP hS dX11_number_115
    · have hf := tk c20 hf
      refine lv_iconst (v := (0 : Int32)) hx hb dX11_number_96 (by decide) ?_
      obtain rfl := Option.some.inj hf
      exact wr_zret CF hr hlk (Or.inl rfl) hP hS dX11_number_97
set_option maxHeartbeats 4000000 in
set_option maxRecDepth 100000 in
theorem c_X11_number (l : Launch) (D : va_G) (cI cB cT : ClassId) (sz : Nat) (a_m a_m_refused a_m_codes a_m_noted a_m_marked a_m_masks a_m_text a_m_before a_m_ahead a_m_aside a_m_sure a_m_wrongs a_m_says a_m_evening a_m_images : Nat) (m_words : Int32) (m_kindNow : Int32) (m_secretNow : Int32) (m_guessed : Int32) (m_left : Int32) (m_wrong : Int32) (m_noteMany : Int32) (m_markMany : Int32) (m_typed : Int32) (m_readAt : Int32) (m_readNumber : Int32) (m_undoMany : Int32) (m_lastGuesses : Int32) (m_above : Int64) (m_below : Int64) (m_refused : (Nat → Int32)) (m_codes : (Nat → Int32)) (m_noted : (Nat → Int32)) (m_marked : (Nat → Int32)) (m_masks : (Nat → Int32)) (m_text : (Nat → Int32)) (m_before : (Nat → Int32)) (m_ahead : (Nat → Int32)) (m_aside : (Nat → Int32)) (m_sure : (Nat → Int32)) (m_wrongs : (Nat → Int32)) (m_says : (Nat → Int32)) (m_evening : (Nat → Int32)) (m_images : (Nat → Int32)) (p1 : Int32) (p2 : Int32) {z : Int32 × Int32 × Int32} (hf : f_X11_number m_typed m_readAt m_readNumber m_text p1 p2 = some z) :
    Met l yX11_number (Cond.code yX11_number cX11_number 5 (some .boolean) :: wsAll) rm_X11_number (Pwr [.ref a_m, .int p1, .int p2] D cI cB cT (wd_m a_m a_m_refused a_m_codes a_m_noted a_m_marked a_m_masks a_m_text a_m_before a_m_ahead a_m_aside a_m_sure a_m_wrongs a_m_says a_m_evening a_m_images cI cB cT m_words m_kindNow m_secretNow m_guessed m_left m_wrong m_noteMany m_markMany m_typed m_readAt m_readNumber m_undoMany m_lastGuesses m_above m_below m_refused m_codes m_noted m_marked m_masks m_text m_before m_ahead m_aside m_sure m_wrongs m_says m_evening m_images) sz) (Qw (some (.int z.1)) D (wd_m a_m a_m_refused a_m_codes a_m_noted a_m_marked a_m_masks a_m_text a_m_before a_m_ahead a_m_aside a_m_sure a_m_wrongs a_m_says a_m_evening a_m_images cI cB cT m_words m_kindNow m_secretNow m_guessed m_left m_wrong m_noteMany m_markMany m_typed z.2.1 z.2.2 m_undoMany m_lastGuesses m_above m_below m_refused m_codes m_noted m_marked m_masks m_text m_before m_ahead m_aside m_sure m_wrongs m_says m_evening m_images) (va_A (wd_m a_m a_m_refused a_m_codes a_m_noted a_m_marked a_m_masks a_m_text a_m_before a_m_ahead a_m_aside a_m_sure a_m_wrongs a_m_says a_m_evening a_m_images cI cB cT m_words m_kindNow m_secretNow m_guessed m_left m_wrong m_noteMany m_markMany m_typed m_readAt m_readNumber m_undoMany m_lastGuesses m_above m_below m_refused m_codes m_noted m_marked m_masks m_text m_before m_ahead m_aside m_sure m_wrongs m_says m_evening m_images) sz)) 0 0 (va_A (wd_m a_m a_m_refused a_m_codes a_m_noted a_m_marked a_m_masks a_m_text a_m_before a_m_ahead a_m_aside a_m_sure a_m_wrongs a_m_says a_m_evening a_m_images cI cB cT m_words m_kindNow m_secretNow m_guessed m_left m_wrong m_noteMany m_markMany m_typed m_readAt m_readNumber m_undoMany m_lastGuesses m_above m_below m_refused m_codes m_noted m_marked m_masks m_text m_before m_ahead m_aside m_sure m_wrongs m_says m_evening m_images) sz) := by
  refine wr_intro RX11 (by decide +kernel) rfl (Nat.le_of_ble_eq_true rfl) ?_
  intro p e s m below meth c ls A H locs CF hr hlk hG hP hD hS hA hl
  have hl : lv_has ls 5 [(0, .ref a_m), (1, .int p1), (2, .int p2)] := hl
  obtain ⟨hx, hb, hml, hown, hts⟩ := id CF
  unfold f_X11_number at hf
  refine lv_aload_n hx hb dX11_number_0 rfl (lv_at hl 0 rfl) ?_
  obtain ⟨o1, e2, hf⟩ := lp_bind hf
  refine wr_Wv (ws' := (wd_m a_m a_m_refused a_m_codes a_m_noted a_m_marked a_m_masks a_m_text a_m_before a_m_ahead a_m_aside a_m_sure a_m_wrongs a_m_says a_m_evening a_m_images cI cB cT m_words m_kindNow m_secretNow m_guessed m_left m_wrong m_noteMany m_markMany m_typed o1 m_readNumber m_undoMany m_lastGuesses m_above m_below m_refused m_codes m_noted m_marked m_masks m_text m_before m_ahead m_aside m_sure m_wrongs m_says m_evening m_images)) (As := []) (rest := []) CF (c_X11_skip l D cI cB cT H.size a_m a_m_refused a_m_codes a_m_noted a_m_marked a_m_masks a_m_text a_m_before a_m_ahead a_m_aside a_m_sure a_m_wrongs a_m_says a_m_evening a_m_images m_words m_kindNow m_secretNow m_guessed m_left m_wrong m_noteMany m_markMany m_typed m_readAt m_readNumber m_undoMany m_lastGuesses m_above m_below m_refused m_codes m_noted m_marked m_masks m_text m_before m_ahead m_aside m_sure m_wrongs m_says m_evening m_images e2) ok_X11_skip wm_1083 ⟨rfl, rfl, Nat.le_of_ble_eq_true rfl, Nat.le_of_ble_eq_true rfl⟩ hG hP hD hS hA fs_m 0 9 vq_9 rfl ce_m_0 rfl hl.1 rfl (Nat.le_of_ble_eq_true rfl) ⟨Nat.zero_le _, Nat.zero_le _⟩ dX11_number_1 (fun H locs hP hD hS => ?_)
  refine lv_iconst (v := (0 : Int32)) hx hb dX11_number_4 (by decide) ?_
  refine lv_istore_n (lv' := [(3, .int (0 : Int32)), (0, .ref a_m), (1, .int p1), (2, .int p2)]) hx hb dX11_number_5 rfl hl (by decide) rfl (fun ls hl => ?_)
  refine lv_iconst (v := (0 : Int32)) hx hb dX11_number_6 (by decide) ?_
  refine lv_istore (lv' := [(4, .int (0 : Int32)), (3, .int (0 : Int32)), (0, .ref a_m), (1, .int p1), (2, .int p2)]) hx hb dX11_number_7 hl (by decide) rfl (fun ls hl => ?_)
  obtain ⟨o13, e14, hf⟩ := lp_bind hf
  refine L_X11_number_9_W CF hG hA ?_ KN _ _ _ _ _ hP hD hS (lv_sub hl [2, 3, 4, 1, 0] rfl) e14
  intro H locs ls hP hD hS hl
  exact J_X11_number_77_W CF hG hA hr hlk hP hD hS (lv_sub hl [0, 1, 2, 3, 4] rfl) hf
end M_X11_number
section M_X11_ends
variable {p : Program} {l : Launch} {e : Env} {s : State} {m : MethodId} {args : Array Value} {below : List Frame} {meth : Method} {c : Code} {Q : State → Prop} {A : Nat → Prop} {D : va_G} {cI cB cT : ClassId}
variable {a_m a_m_refused a_m_codes a_m_noted a_m_marked a_m_masks a_m_text a_m_before a_m_ahead a_m_aside a_m_sure a_m_wrongs a_m_says a_m_evening a_m_images : Nat}
def rm_X11_ends : Room := { frames := 2, cells := 0, slots := 0, locals := 40 }
def f_X11_ends (m_typed : Int32) (m_readAt : Int32) (m_text : (Nat → Int32)) : Option (Int32 × Int32) := ((f_X11_skip m_typed m_readAt m_text).bind fun o1 => ((f_X11_here m_typed o1 m_text).bind fun o3 => (if o3 = (59 : Int32) then some ((1 : Int32), (o1 + (1 : Int32))) else some ((0 : Int32), o1))))
set_option maxHeartbeats 4000000 in
set_option maxRecDepth 100000 in
theorem c_X11_ends (l : Launch) (D : va_G) (cI cB cT : ClassId) (sz : Nat) (a_m a_m_refused a_m_codes a_m_noted a_m_marked a_m_masks a_m_text a_m_before a_m_ahead a_m_aside a_m_sure a_m_wrongs a_m_says a_m_evening a_m_images : Nat) (m_words : Int32) (m_kindNow : Int32) (m_secretNow : Int32) (m_guessed : Int32) (m_left : Int32) (m_wrong : Int32) (m_noteMany : Int32) (m_markMany : Int32) (m_typed : Int32) (m_readAt : Int32) (m_readNumber : Int32) (m_undoMany : Int32) (m_lastGuesses : Int32) (m_above : Int64) (m_below : Int64) (m_refused : (Nat → Int32)) (m_codes : (Nat → Int32)) (m_noted : (Nat → Int32)) (m_marked : (Nat → Int32)) (m_masks : (Nat → Int32)) (m_text : (Nat → Int32)) (m_before : (Nat → Int32)) (m_ahead : (Nat → Int32)) (m_aside : (Nat → Int32)) (m_sure : (Nat → Int32)) (m_wrongs : (Nat → Int32)) (m_says : (Nat → Int32)) (m_evening : (Nat → Int32)) (m_images : (Nat → Int32)) {z : Int32 × Int32} (hf : f_X11_ends m_typed m_readAt m_text = some z) :
    Met l yX11_ends (Cond.code yX11_ends cX11_ends 1 (some .boolean) :: wsAll) rm_X11_ends (Pwr [.ref a_m] D cI cB cT (wd_m a_m a_m_refused a_m_codes a_m_noted a_m_marked a_m_masks a_m_text a_m_before a_m_ahead a_m_aside a_m_sure a_m_wrongs a_m_says a_m_evening a_m_images cI cB cT m_words m_kindNow m_secretNow m_guessed m_left m_wrong m_noteMany m_markMany m_typed m_readAt m_readNumber m_undoMany m_lastGuesses m_above m_below m_refused m_codes m_noted m_marked m_masks m_text m_before m_ahead m_aside m_sure m_wrongs m_says m_evening m_images) sz) (Qw (some (.int z.1)) D (wd_m a_m a_m_refused a_m_codes a_m_noted a_m_marked a_m_masks a_m_text a_m_before a_m_ahead a_m_aside a_m_sure a_m_wrongs a_m_says a_m_evening a_m_images cI cB cT m_words m_kindNow m_secretNow m_guessed m_left m_wrong m_noteMany m_markMany m_typed z.2 m_readNumber m_undoMany m_lastGuesses m_above m_below m_refused m_codes m_noted m_marked m_masks m_text m_before m_ahead m_aside m_sure m_wrongs m_says m_evening m_images) (va_A (wd_m a_m a_m_refused a_m_codes a_m_noted a_m_marked a_m_masks a_m_text a_m_before a_m_ahead a_m_aside a_m_sure a_m_wrongs a_m_says a_m_evening a_m_images cI cB cT m_words m_kindNow m_secretNow m_guessed m_left m_wrong m_noteMany m_markMany m_typed m_readAt m_readNumber m_undoMany m_lastGuesses m_above m_below m_refused m_codes m_noted m_marked m_masks m_text m_before m_ahead m_aside m_sure m_wrongs m_says m_evening m_images) sz)) 0 0 (va_A (wd_m a_m a_m_refused a_m_codes a_m_noted a_m_marked a_m_masks a_m_text a_m_before a_m_ahead a_m_aside a_m_sure a_m_wrongs a_m_says a_m_evening a_m_images cI cB cT m_words m_kindNow m_secretNow m_guessed m_left m_wrong m_noteMany m_markMany m_typed m_readAt m_readNumber m_undoMany m_lastGuesses m_above m_below m_refused m_codes m_noted m_marked m_masks m_text m_before m_ahead m_aside m_sure m_wrongs m_says m_evening m_images) sz) := by
  refine wr_intro RX11 (by decide +kernel) rfl (Nat.le_of_ble_eq_true rfl) ?_
  intro p e s m below meth c ls A H locs CF hr hlk hG hP hD hS hA hl
  have hl : lv_has ls 1 [(0, .ref a_m)] := hl
  obtain ⟨hx, hb, hml, hown, hts⟩ := id CF
  unfold f_X11_ends at hf
  refine lv_aload_n hx hb dX11_ends_0 rfl (lv_at hl 0 rfl) ?_
  obtain ⟨o1, e2, hf⟩ := lp_bind hf
  refine wr_Wv (ws' := (wd_m a_m a_m_refused a_m_codes a_m_noted a_m_marked a_m_masks a_m_text a_m_before a_m_ahead a_m_aside a_m_sure a_m_wrongs a_m_says a_m_evening a_m_images cI cB cT m_words m_kindNow m_secretNow m_guessed m_left m_wrong m_noteMany m_markMany m_typed o1 m_readNumber m_undoMany m_lastGuesses m_above m_below m_refused m_codes m_noted m_marked m_masks m_text m_before m_ahead m_aside m_sure m_wrongs m_says m_evening m_images)) (As := []) (rest := []) CF (c_X11_skip l D cI cB cT H.size a_m a_m_refused a_m_codes a_m_noted a_m_marked a_m_masks a_m_text a_m_before a_m_ahead a_m_aside a_m_sure a_m_wrongs a_m_says a_m_evening a_m_images m_words m_kindNow m_secretNow m_guessed m_left m_wrong m_noteMany m_markMany m_typed m_readAt m_readNumber m_undoMany m_lastGuesses m_above m_below m_refused m_codes m_noted m_marked m_masks m_text m_before m_ahead m_aside m_sure m_wrongs m_says m_evening m_images e2) ok_X11_skip wm_1083 ⟨rfl, rfl, Nat.le_of_ble_eq_true rfl, Nat.le_of_ble_eq_true rfl⟩ hG hP hD hS hA fs_m 0 9 vq_9 rfl ce_m_0 rfl hl.1 rfl (Nat.le_of_ble_eq_true rfl) ⟨Nat.zero_le _, Nat.zero_le _⟩ dX11_ends_1 (fun H locs hP hD hS => ?_)
  refine lv_aload_n hx hb dX11_ends_4 rfl (lv_at hl 0 rfl) ?_
  obtain ⟨o3, e4, hf⟩ := lp_bind hf
  refine ro_Vi (x := o3) (As := []) (rest := []) CF (c_X11_here l D cI cB cT a_m a_m_refused a_m_codes a_m_noted a_m_marked a_m_masks a_m_text a_m_before a_m_ahead a_m_aside a_m_sure a_m_wrongs a_m_says a_m_evening a_m_images m_words m_kindNow m_secretNow m_guessed m_left m_wrong m_noteMany m_markMany m_typed o1 m_readNumber m_undoMany m_lastGuesses m_above m_below m_refused m_codes m_noted m_marked m_masks m_text m_before m_ahead m_aside m_sure m_wrongs m_says m_evening m_images e4) ok_X11_here wm_1087 ⟨rfl, rfl, Nat.le_of_ble_eq_true rfl, Nat.le_of_ble_eq_true rfl⟩ hG hP 0 9 vq_9 rfl ce_m_0 rfl hl.1 rfl (Nat.le_of_ble_eq_true rfl) ⟨Nat.zero_le _, Nat.zero_le _⟩ dX11_ends_5 ?_
  refine lv_bipush (v := (59 : Int32)) hx hb dX11_ends_8 (by decide) ?_
  refine lv_icmp_eq (tgt := 15) hx hb dX11_ends_10 (by decide) (fun c5 => ?_) (fun c5 => ?_)
  · have hf := tk c5 hf
    refine lv_aload_n hx hb dX11_ends_15 rfl (lv_at hl 0 rfl) ?_
    refine lv_dup hx hb dX11_ends_16 rfl ?_
    refine va_get (D := D) (ci := 9) (v := .int o1) (C := RX11) (T := TX11) (N := 29) hx hb hts fin_X11 hown hG.1 hP 0 ce_m_0 vq_9 15 (by decide) (hts _ wm_937) (fun _ h9 => h9) rfl dX11_ends_17 ?_
    refine lv_iconst (v := (1 : Int32)) hx hb dX11_ends_20 (by decide) ?_
    refine lv_iadd hx hb dX11_ends_21 ?_
    refine va_put (D := D) (ci := 9) (v := .int (o1 + (1 : Int32))) (ty := .int) (C := RX11) (T := TX11) (N := 29) hx hb hts fin_X11 tyX11 tyX11_ok nmX11 hown hG.1 hP hD hS 0 ce_m_0 vq_9 15 (by decide) (hts _ wm_937) (fun _ h9 => h9) rfl (tyX11_ok 15 (by decide)) rfl rfl (Nat.le_of_ble_eq_true rfl) dX11_ends_22 (fun H locs hP _ hS => ?_)
    have hP : va_P D vwCl (wd_m a_m a_m_refused a_m_codes a_m_noted a_m_marked a_m_masks a_m_text a_m_before a_m_ahead a_m_aside a_m_sure a_m_wrongs a_m_says a_m_evening a_m_images cI cB cT m_words m_kindNow m_secretNow m_guessed m_left m_wrong m_noteMany m_markMany m_typed (o1 + (1 : Int32)) m_readNumber m_undoMany m_lastGuesses m_above m_below m_refused m_codes m_noted m_marked m_masks m_text m_before m_ahead m_aside m_sure m_wrongs m_says m_evening m_images) H := va_P_eq se_m_m_readAt hP
    have hD : va_D A (wd_m a_m a_m_refused a_m_codes a_m_noted a_m_marked a_m_masks a_m_text a_m_before a_m_ahead a_m_aside a_m_sure a_m_wrongs a_m_says a_m_evening a_m_images cI cB cT m_words m_kindNow m_secretNow m_guessed m_left m_wrong m_noteMany m_markMany m_typed (o1 + (1 : Int32)) m_readNumber m_undoMany m_lastGuesses m_above m_below m_refused m_codes m_noted m_marked m_masks m_text m_before m_ahead m_aside m_sure m_wrongs m_says m_evening m_images) := va_D_fst fs_m hD
    refine lv_iconst (v := (1 : Int32)) hx hb dX11_ends_25 (by decide) ?_
    obtain rfl := Option.some.inj hf
    exact wr_zret CF hr hlk (Or.inr rfl) hP hS dX11_ends_26
  · have hf := fk c5 hf
    refine lv_iconst (v := (0 : Int32)) hx hb dX11_ends_13 (by decide) ?_
    obtain rfl := Option.some.inj hf
    exact wr_zret CF hr hlk (Or.inl rfl) hP hS dX11_ends_14
end M_X11_ends
section M_X11_readsFirst
variable {p : Program} {l : Launch} {e : Env} {s : State} {m : MethodId} {args : Array Value} {below : List Frame} {meth : Method} {c : Code} {Q : State → Prop} {A : Nat → Prop} {D : va_G} {cI cB cT : ClassId}
variable {a_m a_m_refused a_m_codes a_m_noted a_m_marked a_m_masks a_m_text a_m_before a_m_ahead a_m_aside a_m_sure a_m_wrongs a_m_says a_m_evening a_m_images : Nat}
def rm_X11_readsFirst : Room := { frames := 4, cells := 0, slots := 0, locals := 85 }
def f_X11_readsFirst (m_words : Int32) (m_kindNow : Int32) (m_secretNow : Int32) (m_guessed : Int32) (m_left : Int32) (m_wrong : Int32) (m_noteMany : Int32) (m_markMany : Int32) (m_typed : Int32) (m_readAt : Int32) (m_readNumber : Int32) (m_undoMany : Int32) (m_text : (Nat → Int32)) : Option (Int32 × Int32 × Int32 × Int32 × Int32 × Int32 × Int32 × Int32 × Int32 × Int32 × Int32 × Int32) := ((f_X11_skip m_typed m_readAt m_text).bind fun o1 => ((f_X11_wordHere m_typed o1 m_text).bind fun o3 => (if o3 = 0 then ((f_X11_number m_typed (o1 + (4 : Int32)) m_readNumber m_text (0 : Int32) (5 : Int32)).bind fun o6 => (if o6.1 = 0 then some ((0 : Int32), m_words, m_kindNow, m_secretNow, m_guessed, m_left, m_wrong, m_noteMany, m_markMany, o6.2.1, o6.2.2, m_undoMany) else ((f_X11_begin o6.2.2).bind fun o9 => ((f_X11_ends m_typed o6.2.1 m_text).bind fun o11 => (if (o11.1 = 0 ∨ o11.1 = 1) then some (o11.1, o9.1, o9.2.1, o9.2.2.1, o9.2.2.2.1, o9.2.2.2.2.1, o9.2.2.2.2.2.1, o9.2.2.2.2.2.2.1, o9.2.2.2.2.2.2.2.1, o11.2, o6.2.2, o9.2.2.2.2.2.2.2.2) else none))))) else some ((0 : Int32), m_words, m_kindNow, m_secretNow, m_guessed, m_left, m_wrong, m_noteMany, m_markMany, o1, m_readNumber, m_undoMany))))
set_option maxHeartbeats 4000000 in
set_option maxRecDepth 100000 in
theorem c_X11_readsFirst (l : Launch) (D : va_G) (cI cB cT : ClassId) (sz : Nat) (a_m a_m_refused a_m_codes a_m_noted a_m_marked a_m_masks a_m_text a_m_before a_m_ahead a_m_aside a_m_sure a_m_wrongs a_m_says a_m_evening a_m_images : Nat) (m_words : Int32) (m_kindNow : Int32) (m_secretNow : Int32) (m_guessed : Int32) (m_left : Int32) (m_wrong : Int32) (m_noteMany : Int32) (m_markMany : Int32) (m_typed : Int32) (m_readAt : Int32) (m_readNumber : Int32) (m_undoMany : Int32) (m_lastGuesses : Int32) (m_above : Int64) (m_below : Int64) (m_refused : (Nat → Int32)) (m_codes : (Nat → Int32)) (m_noted : (Nat → Int32)) (m_marked : (Nat → Int32)) (m_masks : (Nat → Int32)) (m_text : (Nat → Int32)) (m_before : (Nat → Int32)) (m_ahead : (Nat → Int32)) (m_aside : (Nat → Int32)) (m_sure : (Nat → Int32)) (m_wrongs : (Nat → Int32)) (m_says : (Nat → Int32)) (m_evening : (Nat → Int32)) (m_images : (Nat → Int32)) {z : Int32 × Int32 × Int32 × Int32 × Int32 × Int32 × Int32 × Int32 × Int32 × Int32 × Int32 × Int32} (hf : f_X11_readsFirst m_words m_kindNow m_secretNow m_guessed m_left m_wrong m_noteMany m_markMany m_typed m_readAt m_readNumber m_undoMany m_text = some z) :
    Met l yX11_readsFirst (Cond.code yX11_readsFirst cX11_readsFirst 1 (some .boolean) :: wsAll) rm_X11_readsFirst (Pwr [.ref a_m] D cI cB cT (wd_m a_m a_m_refused a_m_codes a_m_noted a_m_marked a_m_masks a_m_text a_m_before a_m_ahead a_m_aside a_m_sure a_m_wrongs a_m_says a_m_evening a_m_images cI cB cT m_words m_kindNow m_secretNow m_guessed m_left m_wrong m_noteMany m_markMany m_typed m_readAt m_readNumber m_undoMany m_lastGuesses m_above m_below m_refused m_codes m_noted m_marked m_masks m_text m_before m_ahead m_aside m_sure m_wrongs m_says m_evening m_images) sz) (Qw (some (.int z.1)) D (wd_m a_m a_m_refused a_m_codes a_m_noted a_m_marked a_m_masks a_m_text a_m_before a_m_ahead a_m_aside a_m_sure a_m_wrongs a_m_says a_m_evening a_m_images cI cB cT z.2.1 z.2.2.1 z.2.2.2.1 z.2.2.2.2.1 z.2.2.2.2.2.1 z.2.2.2.2.2.2.1 z.2.2.2.2.2.2.2.1 z.2.2.2.2.2.2.2.2.1 m_typed z.2.2.2.2.2.2.2.2.2.1 z.2.2.2.2.2.2.2.2.2.2.1 z.2.2.2.2.2.2.2.2.2.2.2 m_lastGuesses m_above m_below m_refused m_codes m_noted m_marked m_masks m_text m_before m_ahead m_aside m_sure m_wrongs m_says m_evening m_images) (va_A (wd_m a_m a_m_refused a_m_codes a_m_noted a_m_marked a_m_masks a_m_text a_m_before a_m_ahead a_m_aside a_m_sure a_m_wrongs a_m_says a_m_evening a_m_images cI cB cT m_words m_kindNow m_secretNow m_guessed m_left m_wrong m_noteMany m_markMany m_typed m_readAt m_readNumber m_undoMany m_lastGuesses m_above m_below m_refused m_codes m_noted m_marked m_masks m_text m_before m_ahead m_aside m_sure m_wrongs m_says m_evening m_images) sz)) 0 0 (va_A (wd_m a_m a_m_refused a_m_codes a_m_noted a_m_marked a_m_masks a_m_text a_m_before a_m_ahead a_m_aside a_m_sure a_m_wrongs a_m_says a_m_evening a_m_images cI cB cT m_words m_kindNow m_secretNow m_guessed m_left m_wrong m_noteMany m_markMany m_typed m_readAt m_readNumber m_undoMany m_lastGuesses m_above m_below m_refused m_codes m_noted m_marked m_masks m_text m_before m_ahead m_aside m_sure m_wrongs m_says m_evening m_images) sz) := by
  refine wr_intro RX11 (by decide +kernel) rfl (Nat.le_of_ble_eq_true rfl) ?_
  intro p e s m below meth c ls A H locs CF hr hlk hG hP hD hS hA hl
  have hl : lv_has ls 1 [(0, .ref a_m)] := hl
  obtain ⟨hx, hb, hml, hown, hts⟩ := id CF
  unfold f_X11_readsFirst at hf
  refine lv_aload_n hx hb dX11_readsFirst_0 rfl (lv_at hl 0 rfl) ?_
  obtain ⟨o1, e2, hf⟩ := lp_bind hf
  refine wr_Wv (ws' := (wd_m a_m a_m_refused a_m_codes a_m_noted a_m_marked a_m_masks a_m_text a_m_before a_m_ahead a_m_aside a_m_sure a_m_wrongs a_m_says a_m_evening a_m_images cI cB cT m_words m_kindNow m_secretNow m_guessed m_left m_wrong m_noteMany m_markMany m_typed o1 m_readNumber m_undoMany m_lastGuesses m_above m_below m_refused m_codes m_noted m_marked m_masks m_text m_before m_ahead m_aside m_sure m_wrongs m_says m_evening m_images)) (As := []) (rest := []) CF (c_X11_skip l D cI cB cT H.size a_m a_m_refused a_m_codes a_m_noted a_m_marked a_m_masks a_m_text a_m_before a_m_ahead a_m_aside a_m_sure a_m_wrongs a_m_says a_m_evening a_m_images m_words m_kindNow m_secretNow m_guessed m_left m_wrong m_noteMany m_markMany m_typed m_readAt m_readNumber m_undoMany m_lastGuesses m_above m_below m_refused m_codes m_noted m_marked m_masks m_text m_before m_ahead m_aside m_sure m_wrongs m_says m_evening m_images e2) ok_X11_skip wm_1083 ⟨rfl, rfl, Nat.le_of_ble_eq_true rfl, Nat.le_of_ble_eq_true rfl⟩ hG hP hD hS hA fs_m 0 9 vq_9 rfl ce_m_0 rfl hl.1 rfl (Nat.le_of_ble_eq_true rfl) ⟨Nat.zero_le _, Nat.zero_le _⟩ dX11_readsFirst_1 (fun H locs hP hD hS => ?_)
  refine lv_aload_n hx hb dX11_readsFirst_4 rfl (lv_at hl 0 rfl) ?_
  obtain ⟨o3, e4, hf⟩ := lp_bind hf
  refine ro_Vi (x := o3) (As := []) (rest := []) CF (c_X11_wordHere l D cI cB cT a_m a_m_refused a_m_codes a_m_noted a_m_marked a_m_masks a_m_text a_m_before a_m_ahead a_m_aside a_m_sure a_m_wrongs a_m_says a_m_evening a_m_images m_words m_kindNow m_secretNow m_guessed m_left m_wrong m_noteMany m_markMany m_typed o1 m_readNumber m_undoMany m_lastGuesses m_above m_below m_refused m_codes m_noted m_marked m_masks m_text m_before m_ahead m_aside m_sure m_wrongs m_says m_evening m_images e4) ok_X11_wordHere wm_1091 ⟨rfl, rfl, Nat.le_of_ble_eq_true rfl, Nat.le_of_ble_eq_true rfl⟩ hG hP 0 9 vq_9 rfl ce_m_0 rfl hl.1 rfl (Nat.le_of_ble_eq_true rfl) ⟨Nat.zero_le _, Nat.zero_le _⟩ dX11_readsFirst_5 ?_
  refine lv_if_eq (tgt := 13) hx hb dX11_readsFirst_8 (by decide) (fun c5 => ?_) (fun c5 => ?_)
  · have hf := tk c5 hf
    refine lv_aload_n hx hb dX11_readsFirst_13 rfl (lv_at hl 0 rfl) ?_
    refine lv_dup hx hb dX11_readsFirst_14 rfl ?_
    refine va_get (D := D) (ci := 9) (v := .int o1) (C := RX11) (T := TX11) (N := 29) hx hb hts fin_X11 hown hG.1 hP 0 ce_m_0 vq_9 15 (by decide) (hts _ wm_937) (fun _ h9 => h9) rfl dX11_readsFirst_15 ?_
    refine lv_iconst (v := (4 : Int32)) hx hb dX11_readsFirst_18 (by decide) ?_
    refine lv_iadd hx hb dX11_readsFirst_19 ?_
    refine va_put (D := D) (ci := 9) (v := .int (o1 + (4 : Int32))) (ty := .int) (C := RX11) (T := TX11) (N := 29) hx hb hts fin_X11 tyX11 tyX11_ok nmX11 hown hG.1 hP hD hS 0 ce_m_0 vq_9 15 (by decide) (hts _ wm_937) (fun _ h9 => h9) rfl (tyX11_ok 15 (by decide)) rfl rfl (Nat.le_of_ble_eq_true rfl) dX11_readsFirst_20 (fun H locs hP _ hS => ?_)
    have hP : va_P D vwCl (wd_m a_m a_m_refused a_m_codes a_m_noted a_m_marked a_m_masks a_m_text a_m_before a_m_ahead a_m_aside a_m_sure a_m_wrongs a_m_says a_m_evening a_m_images cI cB cT m_words m_kindNow m_secretNow m_guessed m_left m_wrong m_noteMany m_markMany m_typed (o1 + (4 : Int32)) m_readNumber m_undoMany m_lastGuesses m_above m_below m_refused m_codes m_noted m_marked m_masks m_text m_before m_ahead m_aside m_sure m_wrongs m_says m_evening m_images) H := va_P_eq se_m_m_readAt hP
    have hD : va_D A (wd_m a_m a_m_refused a_m_codes a_m_noted a_m_marked a_m_masks a_m_text a_m_before a_m_ahead a_m_aside a_m_sure a_m_wrongs a_m_says a_m_evening a_m_images cI cB cT m_words m_kindNow m_secretNow m_guessed m_left m_wrong m_noteMany m_markMany m_typed (o1 + (4 : Int32)) m_readNumber m_undoMany m_lastGuesses m_above m_below m_refused m_codes m_noted m_marked m_masks m_text m_before m_ahead m_aside m_sure m_wrongs m_says m_evening m_images) := va_D_fst fs_m hD
    refine lv_aload_n hx hb dX11_readsFirst_23 rfl (lv_at hl 0 rfl) ?_
    refine lv_iconst (v := (0 : Int32)) hx hb dX11_readsFirst_24 (by decide) ?_
    refine lv_iconst (v := (5 : Int32)) hx hb dX11_readsFirst_25 (by decide) ?_
    obtain ⟨o6, e7, hf⟩ := lp_bind hf
    refine wr_Wi (x := o6.1) (ws' := (wd_m a_m a_m_refused a_m_codes a_m_noted a_m_marked a_m_masks a_m_text a_m_before a_m_ahead a_m_aside a_m_sure a_m_wrongs a_m_says a_m_evening a_m_images cI cB cT m_words m_kindNow m_secretNow m_guessed m_left m_wrong m_noteMany m_markMany m_typed o6.2.1 o6.2.2 m_undoMany m_lastGuesses m_above m_below m_refused m_codes m_noted m_marked m_masks m_text m_before m_ahead m_aside m_sure m_wrongs m_says m_evening m_images)) (As := [.int (0 : Int32), .int (5 : Int32)]) (rest := []) CF (c_X11_number l D cI cB cT H.size a_m a_m_refused a_m_codes a_m_noted a_m_marked a_m_masks a_m_text a_m_before a_m_ahead a_m_aside a_m_sure a_m_wrongs a_m_says a_m_evening a_m_images m_words m_kindNow m_secretNow m_guessed m_left m_wrong m_noteMany m_markMany m_typed (o1 + (4 : Int32)) m_readNumber m_undoMany m_lastGuesses m_above m_below m_refused m_codes m_noted m_marked m_masks m_text m_before m_ahead m_aside m_sure m_wrongs m_says m_evening m_images (0 : Int32) (5 : Int32) e7) ok_X11_number wm_1106 ⟨rfl, rfl, Nat.le_of_ble_eq_true rfl, Nat.le_of_ble_eq_true rfl⟩ hG hP hD hS hA fs_m 0 9 vq_9 rfl ce_m_0 rfl hl.1 rfl (Nat.le_of_ble_eq_true rfl) ⟨Nat.zero_le _, Nat.zero_le _⟩ dX11_readsFirst_26 (fun H locs hP hD hS => ?_)
    refine lv_if_ne (tgt := 34) hx hb dX11_readsFirst_29 (by decide) (fun c8 => ?_) (fun c8 => ?_)
    · have hf := fk c8 hf
      refine lv_aload_n hx hb dX11_readsFirst_34 rfl (lv_at hl 0 rfl) ?_
      refine lv_aload_n hx hb dX11_readsFirst_35 rfl (lv_at hl 0 rfl) ?_
      refine va_get (D := D) (ci := 9) (v := .int o6.2.2) (C := RX11) (T := TX11) (N := 29) hx hb hts fin_X11 hown hG.1 hP 0 ce_m_0 vq_9 16 (by decide) (hts _ wm_938) (fun _ h9 => h9) rfl dX11_readsFirst_36 ?_
      obtain ⟨o9, e10, hf⟩ := lp_bind hf
      refine wr_Wv (ws' := (wd_m a_m a_m_refused a_m_codes a_m_noted a_m_marked a_m_masks a_m_text a_m_before a_m_ahead a_m_aside a_m_sure a_m_wrongs a_m_says a_m_evening a_m_images cI cB cT o9.1 o9.2.1 o9.2.2.1 o9.2.2.2.1 o9.2.2.2.2.1 o9.2.2.2.2.2.1 o9.2.2.2.2.2.2.1 o9.2.2.2.2.2.2.2.1 m_typed o6.2.1 o6.2.2 o9.2.2.2.2.2.2.2.2 m_lastGuesses m_above m_below m_refused m_codes m_noted m_marked m_masks m_text m_before m_ahead m_aside m_sure m_wrongs m_says m_evening m_images)) (As := [.int o6.2.2]) (rest := []) CF (c_X11_begin l D cI cB cT H.size a_m a_m_refused a_m_codes a_m_noted a_m_marked a_m_masks a_m_text a_m_before a_m_ahead a_m_aside a_m_sure a_m_wrongs a_m_says a_m_evening a_m_images m_words m_kindNow m_secretNow m_guessed m_left m_wrong m_noteMany m_markMany m_typed o6.2.1 o6.2.2 m_undoMany m_lastGuesses m_above m_below m_refused m_codes m_noted m_marked m_masks m_text m_before m_ahead m_aside m_sure m_wrongs m_says m_evening m_images o6.2.2 e10) ok_X11_begin wm_914 ⟨rfl, rfl, Nat.le_of_ble_eq_true rfl, Nat.le_of_ble_eq_true rfl⟩ hG hP hD hS hA fs_m 0 9 vq_9 rfl ce_m_0 rfl hl.1 rfl (Nat.le_of_ble_eq_true rfl) ⟨Nat.zero_le _, Nat.zero_le _⟩ dX11_readsFirst_39 (fun H locs hP hD hS => ?_)
      refine lv_aload_n hx hb dX11_readsFirst_42 rfl (lv_at hl 0 rfl) ?_
      obtain ⟨o11, e12, hf⟩ := lp_bind hf
      refine wr_Wi (x := o11.1) (ws' := (wd_m a_m a_m_refused a_m_codes a_m_noted a_m_marked a_m_masks a_m_text a_m_before a_m_ahead a_m_aside a_m_sure a_m_wrongs a_m_says a_m_evening a_m_images cI cB cT o9.1 o9.2.1 o9.2.2.1 o9.2.2.2.1 o9.2.2.2.2.1 o9.2.2.2.2.2.1 o9.2.2.2.2.2.2.1 o9.2.2.2.2.2.2.2.1 m_typed o11.2 o6.2.2 o9.2.2.2.2.2.2.2.2 m_lastGuesses m_above m_below m_refused m_codes m_noted m_marked m_masks m_text m_before m_ahead m_aside m_sure m_wrongs m_says m_evening m_images)) (As := []) (rest := []) CF (c_X11_ends l D cI cB cT H.size a_m a_m_refused a_m_codes a_m_noted a_m_marked a_m_masks a_m_text a_m_before a_m_ahead a_m_aside a_m_sure a_m_wrongs a_m_says a_m_evening a_m_images o9.1 o9.2.1 o9.2.2.1 o9.2.2.2.1 o9.2.2.2.2.1 o9.2.2.2.2.2.1 o9.2.2.2.2.2.2.1 o9.2.2.2.2.2.2.2.1 m_typed o6.2.1 o6.2.2 o9.2.2.2.2.2.2.2.2 m_lastGuesses m_above m_below m_refused m_codes m_noted m_marked m_masks m_text m_before m_ahead m_aside m_sure m_wrongs m_says m_evening m_images e12) ok_X11_ends wm_1113 ⟨rfl, rfl, Nat.le_of_ble_eq_true rfl, Nat.le_of_ble_eq_true rfl⟩ hG hP hD hS hA fs_m 0 9 vq_9 rfl ce_m_0 rfl hl.1 rfl (Nat.le_of_ble_eq_true rfl) ⟨Nat.zero_le _, Nat.zero_le _⟩ dX11_readsFirst_43 (fun H locs hP hD hS => ?_)
      obtain ⟨n13, hf⟩ := yk hf
      obtain rfl := Option.some.inj hf
      exact wr_zret CF hr hlk n13 hP hS dX11_readsFirst_46
    · have hf := tk c8 hf
      refine lv_iconst (v := (0 : Int32)) hx hb dX11_readsFirst_32 (by decide) ?_
      obtain rfl := Option.some.inj hf
      exact wr_zret CF hr hlk (Or.inl rfl) hP hS dX11_readsFirst_33
  · have hf := fk c5 hf
    refine lv_iconst (v := (0 : Int32)) hx hb dX11_readsFirst_11 (by decide) ?_
    obtain rfl := Option.some.inj hf
    exact wr_zret CF hr hlk (Or.inl rfl) hP hS dX11_readsFirst_12
end M_X11_readsFirst
