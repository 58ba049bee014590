section M_X11_luck
variable {p : Program} {l : Launch} {e : Env} {s : State} {m : MethodId} {args : Array Value} {below : List Frame} {meth : Method} {c : Code} {Q : State → Prop} {A : Nat → Prop} {D : va_G} {cI cB cT : ClassId}
variable {a_m a_m_refused a_m_codes a_m_noted a_m_marked a_m_masks a_m_text a_m_before a_m_ahead a_m_aside a_m_sure a_m_wrongs a_m_says a_m_evening a_m_images : Nat}
def rm_X11_luck : Room := { frames := 2, cells := 0, slots := 0, locals := 49 }
def B_X11_luck_72 (m_words : Int32) (m_guessed : Int32) (m_left : Int32) (m_masks : (Nat → Int32)) (x3 : Int32) (x4 : Int32) (x5 : Int64) (x7 : Int64) (x9 : Int32) : Option ((Int64 × Int64 × Int32) ⊕ (Int64 × Int64)) := (if (1024 : Int32) ≤ x9 then some (Sum.inr (x5, x7)) else (if (x9 &&& m_guessed) = 0 then ((f_X11_bits x9).bind fun o14 => (if o14 = x3 then ((f_X11_alikeBy m_words m_masks m_left x4 x9).bind fun o17 => ((f_X11_isOneAtMost o17).bind fun o19 => (if o19 = 0 then some (Sum.inl ((x5 + (0 : Int64)), (x7 + (1 : Int64)), (x9 + (1 : Int32)))) else some (Sum.inl ((x5 + (1 : Int64)), (x7 + (1 : Int64)), (x9 + (1 : Int32))))))) else some (Sum.inl (x5, x7, (x9 + (1 : Int32)))))) else some (Sum.inl (x5, x7, (x9 + (1 : Int32))))))
def J_X11_luck_52 (m_words : Int32) (m_secretNow : Int32) (m_guessed : Int32) (m_left : Int32) (m_refused : (Nat → Int32)) (m_masks : (Nat → Int32)) (y0 : Int32) : Option (Int32 × Int64 × Int64 × (Nat → Int32)) := ((f_X11_keptOf m_secretNow m_left).bind fun o10 => ((lp (fun v => B_X11_luck_72 m_words m_guessed m_left m_masks y0 o10 v.1 v.2.1 v.2.2) KN ((0 : Int64), (0 : Int64), (0 : Int32))).bind fun o22 => ((f_X11_tells o22.1 o22.2).bind fun o24 => some (o24.1, o24.2.1, o24.2.2, m_refused))))
def f_X11_luck (m_words : Int32) (m_secretNow : Int32) (m_guessed : Int32) (m_left : Int32) (m_above : Int64) (m_below : Int64) (m_refused : (Nat → Int32)) (m_masks : (Nat → Int32)) (p1 : Int32) : Option (Int32 × Int64 × Int64 × (Nat → Int32)) := ((f_X11_in p1 (0 : Int32) (3 : Int32)).bind fun o1 => (if o1 = 0 then ((f_X11_bad m_refused).bind fun o28 => some (o28.1, m_above, m_below, o28.2)) else ((f_X11_isOneAtMost m_left).bind fun o4 => (if o4 = 0 then ((f_X11_bits m_guessed).bind fun o7 => (if ((10 : Int32) - o7) ≤ p1 then J_X11_luck_52 m_words m_secretNow m_guessed m_left m_refused m_masks ((10 : Int32) - o7) else J_X11_luck_52 m_words m_secretNow m_guessed m_left m_refused m_masks p1)) else ((f_X11_tells (1 : Int64) (1 : Int64)).bind fun o26 => some (o26.1, o26.2.1, o26.2.2, m_refused))))))
set_option maxHeartbeats 4000000 in
set_option maxRecDepth 100000 in
theorem B_X11_luck_72_W {m_words : Int32} {m_kindNow : Int32} {m_secretNow : Int32} {m_guessed : Int32} {m_left : Int32} {m_wrong : Int32} {m_noteMany : Int32} {m_markMany : Int32} {m_typed : Int32} {m_readAt : Int32} {m_readNumber : Int32} {m_undoMany : Int32} {m_lastGuesses : Int32} {m_above : Int64} {m_below : Int64} {m_refused : (Nat → Int32)} {m_codes : (Nat → Int32)} {m_noted : (Nat → Int32)} {m_marked : (Nat → Int32)} {m_masks : (Nat → Int32)} {m_text : (Nat → Int32)} {m_before : (Nat → Int32)} {m_ahead : (Nat → Int32)} {m_aside : (Nat → Int32)} {m_sure : (Nat → Int32)} {m_wrongs : (Nat → Int32)} {m_says : (Nat → Int32)} {m_evening : (Nat → Int32)} {m_images : (Nat → Int32)} {x3 : Int32} {x4 : Int32} {x5 : Int64} {x7 : Int64} {x9 : Int32} (CF : CallFix p m c cX11_luck 10 s args wsAll RX11) (hG : Gd D cI cB cT s) (hA : ∀ q : Nat, s.heap.size ≤ q → A q) {z : (Int64 × Int64 × Int32) ⊕ (Int64 × Int64)} {H : Heap} {locs : List Loc} (hk : ∀ (v' : Int64 × Int64 × Int32) (H : Heap) (locs : List Loc) (ls : Array Slot), z = Sum.inl v' → va_P D vwCl (wd_m a_m a_m_refused a_m_codes a_m_noted a_m_marked a_m_masks a_m_text a_m_before a_m_ahead a_m_aside a_m_sure a_m_wrongs a_m_says a_m_evening a_m_images cI cB cT m_words m_kindNow m_secretNow m_guessed m_left m_wrong m_noteMany m_markMany m_typed m_readAt m_readNumber m_undoMany m_lastGuesses m_above m_below m_refused m_codes m_noted m_marked m_masks m_text m_before m_ahead m_aside m_sure m_wrongs m_says m_evening m_images) H → va_D A (wd_m a_m a_m_refused a_m_codes a_m_noted a_m_marked a_m_masks a_m_text a_m_before a_m_ahead a_m_aside a_m_sure a_m_wrongs a_m_says a_m_evening a_m_images cI cB cT m_words m_kindNow m_secretNow m_guessed m_left m_wrong m_noteMany m_markMany m_typed m_readAt m_readNumber m_undoMany m_lastGuesses m_above m_below m_refused m_codes m_noted m_marked m_masks m_text m_before m_ahead m_aside m_sure m_wrongs m_says m_evening m_images) → va_S A s.heap H locs → lv_has ls 10 [(0, .ref a_m), (3, .int x3), (4, .int x4), (5, .long (v'.1)), (7, .long (v'.2.1)), (9, .int (v'.2.2))] → W p l e rm_X11_luck s m args below meth c H locs 0 0 Q (F0 m 72 ls [])) (hx0 : ∀ (o' : Int64 × Int64) (H : Heap) (locs : List Loc) (ls : Array Slot), z = Sum.inr o' → va_P D vwCl (wd_m a_m a_m_refused a_m_codes a_m_noted a_m_marked a_m_masks a_m_text a_m_before a_m_ahead a_m_aside a_m_sure a_m_wrongs a_m_says a_m_evening a_m_images cI cB cT m_words m_kindNow m_secretNow m_guessed m_left m_wrong m_noteMany m_markMany m_typed m_readAt m_readNumber m_undoMany m_lastGuesses m_above m_below m_refused m_codes m_noted m_marked m_masks m_text m_before m_ahead m_aside m_sure m_wrongs m_says m_evening m_images) H → va_D A (wd_m a_m a_m_refused a_m_codes a_m_noted a_m_marked a_m_masks a_m_text a_m_before a_m_ahead a_m_aside a_m_sure a_m_wrongs a_m_says a_m_evening a_m_images cI cB cT m_words m_kindNow m_secretNow m_guessed m_left m_wrong m_noteMany m_markMany m_typed m_readAt m_readNumber m_undoMany m_lastGuesses m_above m_below m_refused m_codes m_noted m_marked m_masks m_text m_before m_ahead m_aside m_sure m_wrongs m_says m_evening m_images) → va_S A s.heap H locs → lv_has ls 10 [(0, .ref a_m), (5, .long (o'.1)), (7, .long (o'.2))] → W p l e rm_X11_luck s m args below meth c H locs 0 0 Q (F0 m 139 ls [])) {ls : Array Slot} (hP : va_P D vwCl (wd_m a_m a_m_refused a_m_codes a_m_noted a_m_marked a_m_masks a_m_text a_m_before a_m_ahead a_m_aside a_m_sure a_m_wrongs a_m_says a_m_evening a_m_images cI cB cT m_words m_kindNow m_secretNow m_guessed m_left m_wrong m_noteMany m_markMany m_typed m_readAt m_readNumber m_undoMany m_lastGuesses m_above m_below m_refused m_codes m_noted m_marked m_masks m_text m_before m_ahead m_aside m_sure m_wrongs m_says m_evening m_images) H) (hD : va_D A (wd_m a_m a_m_refused a_m_codes a_m_noted a_m_marked a_m_masks a_m_text a_m_before a_m_ahead a_m_aside a_m_sure a_m_wrongs a_m_says a_m_evening a_m_images cI cB cT m_words m_kindNow m_secretNow m_guessed m_left m_wrong m_noteMany m_markMany m_typed m_readAt m_readNumber m_undoMany m_lastGuesses m_above m_below m_refused m_codes m_noted m_marked m_masks m_text m_before m_ahead m_aside m_sure m_wrongs m_says m_evening m_images)) (hS : va_S A s.heap H locs) (hl : lv_has ls 10 [(0, .ref a_m), (3, .int x3), (4, .int x4), (5, .long x5), (7, .long x7), (9, .int x9)]) (hf : B_X11_luck_72 m_words m_guessed m_left m_masks x3 x4 x5 x7 x9 = some z) : W p l e rm_X11_luck s m args below meth c H locs 0 0 Q (F0 m 72 ls []) := by
  obtain ⟨hx, hb, hml, hown, hts⟩ := id CF
  unfold B_X11_luck_72 at hf
  refine lv_iload hx hb dX11_luck_72 (lv_at hl 5 rfl) ?_
  refine lv_sipush (v := (1024 : Int32)) hx hb dX11_luck_74 (by decide) ?_
  refine lv_icmp_ge (tgt := 139) hx hb dX11_luck_77 (by decide) (fun c12 => ?_) (fun c12 => ?_)
  · have hf := tk c12 hf
    exact hx0 _ _ _ _ (Option.some.inj hf).symm hP hD hS (lv_sub hl [0, 3, 4] rfl)
  · have hf := fk c12 hf
    refine lv_iload hx hb dX11_luck_80 (lv_at hl 5 rfl) ?_
    refine lv_aload_n hx hb dX11_luck_82 rfl (lv_at hl 0 rfl) ?_
    refine va_get (D := D) (ci := 9) (v := .int m_guessed) (C := RX11) (T := TX11) (N := 29) hx hb hts fin_X11 hown hG.1 hP 0 ce_m_0 vq_9 4 (by decide) (hts _ wm_926) (fun _ h9 => h9) rfl dX11_luck_83 ?_
    refine lv_iand hx hb dX11_luck_86 ?_
    refine lv_if_ne (tgt := 133) hx hb dX11_luck_87 (by decide) (fun c13 => ?_) (fun c13 => ?_)
    · have hf := fk c13 hf
      refine lv_iinc (v := (x9 + (1 : Int32))) (lv' := [(9, .int (x9 + (1 : Int32))), (0, .ref a_m), (3, .int x3), (4, .int x4), (5, .long x5), (7, .long x7)]) hx hb dX11_luck_133 hl (k := 5) rfl (iinc_eq (by decide)) (by decide) rfl (fun ls hl => ?_)
      refine lv_goto (tgt := 72) hx hb dX11_luck_136 (by decide) ?_
      exact hk _ _ _ _ (Option.some.inj hf).symm hP hD hS (lv_sub hl [1, 2, 3, 4, 5, 0] rfl)
    · have hf := tk c13 hf
      refine lv_iload hx hb dX11_luck_90 (lv_at hl 5 rfl) ?_
      obtain ⟨o14, e15, hf⟩ := lp_bind hf
      refine ro_Si (x := o14) (As := [.int x9]) (rest := []) CF (c_X11_bits l D cI cB cT x9 e15) ok_X11_bits wm_1144 ⟨rfl, rfl, Nat.le_of_ble_eq_true rfl, Nat.le_of_ble_eq_true rfl⟩ hG wd_E_P rfl hl.1 rfl (Nat.le_of_ble_eq_true rfl) ⟨Nat.zero_le _, Nat.zero_le _⟩ dX11_luck_92 ?_
      refine lv_iload_n hx hb dX11_luck_95 rfl (lv_at hl 1 rfl) ?_
      refine lv_icmp_ne (tgt := 133) hx hb dX11_luck_96 (by decide) (fun c16 => ?_) (fun c16 => ?_)
      · have hf := fk c16 hf
        refine lv_iinc (v := (x9 + (1 : Int32))) (lv' := [(9, .int (x9 + (1 : Int32))), (0, .ref a_m), (3, .int x3), (4, .int x4), (5, .long x5), (7, .long x7)]) hx hb dX11_luck_133 hl (k := 5) rfl (iinc_eq (by decide)) (by decide) rfl (fun ls hl => ?_)
        refine lv_goto (tgt := 72) hx hb dX11_luck_136 (by decide) ?_
        exact hk _ _ _ _ (Option.some.inj hf).symm hP hD hS (lv_sub hl [1, 2, 3, 4, 5, 0] rfl)
      · have hf := tk c16 hf
        refine lv_lload hx hb dX11_luck_99 (lv_at hl 4 rfl) ?_
        refine lv_lconst (v := (1 : Int64)) hx hb dX11_luck_101 (by decide) ?_
        refine lv_ladd hx hb dX11_luck_102 ?_
        refine lv_lstore (lv' := [(7, .long (x7 + (1 : Int64))), (0, .ref a_m), (3, .int x3), (4, .int x4), (5, .long x5), (9, .int x9)]) hx hb dX11_luck_103 hl (by decide) rfl (fun ls hl => ?_)
        refine lv_lload hx hb dX11_luck_105 (lv_at hl 4 rfl) ?_
        refine lv_aload_n hx hb dX11_luck_107 rfl (lv_at hl 1 rfl) ?_
        refine lv_aload_n hx hb dX11_luck_108 rfl (lv_at hl 1 rfl) ?_
        refine va_get (D := D) (ci := 9) (v := .int m_left) (C := RX11) (T := TX11) (N := 29) hx hb hts fin_X11 hown hG.1 hP 0 ce_m_0 vq_9 5 (by decide) (hts _ wm_927) (fun _ h9 => h9) rfl dX11_luck_109 ?_
        refine lv_iload hx hb dX11_luck_112 (lv_at hl 3 rfl) ?_
        refine lv_iload hx hb dX11_luck_114 (lv_at hl 5 rfl) ?_
        obtain ⟨o17, e18, hf⟩ := lp_bind hf
        refine ro_Vi (x := o17) (As := [.int m_left, .int x4, .int x9]) (rest := [.long x5]) CF (c_X11_alikeBy l D cI cB cT a_m a_m_refused a_m_codes a_m_noted a_m_marked a_m_masks a_m_text a_m_before a_m_ahead a_m_aside a_m_sure a_m_wrongs a_m_says a_m_evening a_m_images m_words m_kindNow m_secretNow m_guessed m_left m_wrong m_noteMany m_markMany m_typed m_readAt m_readNumber m_undoMany m_lastGuesses m_above m_below m_refused m_codes m_noted m_marked m_masks m_text m_before m_ahead m_aside m_sure m_wrongs m_says m_evening m_images m_left x4 x9 e18) ok_X11_alikeBy wm_1317 ⟨rfl, rfl, Nat.le_of_ble_eq_true rfl, Nat.le_of_ble_eq_true rfl⟩ hG hP 0 9 vq_9 rfl ce_m_0 rfl hl.1 rfl (Nat.le_of_ble_eq_true rfl) ⟨Nat.zero_le _, Nat.zero_le _⟩ dX11_luck_116 ?_
        obtain ⟨o19, e20, hf⟩ := lp_bind hf
        refine ro_Si (x := o19) (As := [.int o17]) (rest := [.long x5]) CF (c_X11_isOneAtMost l D cI cB cT o17 e20) ok_X11_isOneAtMost wm_1247 ⟨rfl, rfl, Nat.le_of_ble_eq_true rfl, Nat.le_of_ble_eq_true rfl⟩ hG wd_E_P rfl hl.1 rfl (Nat.le_of_ble_eq_true rfl) ⟨Nat.zero_le _, Nat.zero_le _⟩ dX11_luck_119 ?_
        refine lv_if_eq (tgt := 129) hx hb dX11_luck_122 (by decide) (fun c21 => ?_) (fun c21 => ?_)
        · have hf := tk c21 hf
          refine lv_lconst (v := (0 : Int64)) hx hb dX11_luck_129 (by decide) ?_
          refine lv_ladd hx hb dX11_luck_130 ?_
          refine lv_lstore (lv' := [(5, .long (x5 + (0 : Int64))), (7, .long (x7 + (1 : Int64))), (0, .ref a_m), (3, .int x3), (4, .int x4), (9, .int x9)]) hx hb dX11_luck_131 hl (by decide) rfl (fun ls hl => ?_)
          refine lv_iinc (v := (x9 + (1 : Int32))) (lv' := [(9, .int (x9 + (1 : Int32))), (5, .long (x5 + (0 : Int64))), (7, .long (x7 + (1 : Int64))), (0, .ref a_m), (3, .int x3), (4, .int x4)]) hx hb dX11_luck_133 hl (k := 5) rfl (iinc_eq (by decide)) (by decide) rfl (fun ls hl => ?_)
          refine lv_goto (tgt := 72) hx hb dX11_luck_136 (by decide) ?_
          exact hk _ _ _ _ (Option.some.inj hf).symm hP hD hS (lv_sub hl [3, 4, 5, 1, 2, 0] rfl)
        · have hf := fk c21 hf
          refine lv_lconst (v := (1 : Int64)) hx hb dX11_luck_125 (by decide) ?_
          refine lv_goto (tgt := 130) hx hb dX11_luck_126 (by decide) ?_
          refine lv_ladd hx hb dX11_luck_130 ?_
          refine lv_lstore (lv' := [(5, .long (x5 + (1 : Int64))), (7, .long (x7 + (1 : Int64))), (0, .ref a_m), (3, .int x3), (4, .int x4), (9, .int x9)]) hx hb dX11_luck_131 hl (by decide) rfl (fun ls hl => ?_)
          refine lv_iinc (v := (x9 + (1 : Int32))) (lv' := [(9, .int (x9 + (1 : Int32))), (5, .long (x5 + (1 : Int64))), (7, .long (x7 + (1 : Int64))), (0, .ref a_m), (3, .int x3), (4, .int x4)]) hx hb dX11_luck_133 hl (k := 5) rfl (iinc_eq (by decide)) (by decide) rfl (fun ls hl => ?_)
          refine lv_goto (tgt := 72) hx hb dX11_luck_136 (by decide) ?_
          exact hk _ _ _ _ (Option.some.inj hf).symm hP hD hS (lv_sub hl [3, 4, 5, 1, 2, 0] rfl)
set_option maxHeartbeats 4000000 in
set_option maxRecDepth 100000 in
theorem L_X11_luck_72_W {m_words : Int32} {m_kindNow : Int32} {m_secretNow : Int32} {m_guessed : Int32} {m_left : Int32} {m_wrong : Int32} {m_noteMany : Int32} {m_markMany : Int32} {m_typed : Int32} {m_readAt : Int32} {m_readNumber : Int32} {m_undoMany : Int32} {m_lastGuesses : Int32} {m_above : Int64} {m_below : Int64} {m_refused : (Nat → Int32)} {m_codes : (Nat → Int32)} {m_noted : (Nat → Int32)} {m_marked : (Nat → Int32)} {m_masks : (Nat → Int32)} {m_text : (Nat → Int32)} {m_before : (Nat → Int32)} {m_ahead : (Nat → Int32)} {m_aside : (Nat → Int32)} {m_sure : (Nat → Int32)} {m_wrongs : (Nat → Int32)} {m_says : (Nat → Int32)} {m_evening : (Nat → Int32)} {m_images : (Nat → Int32)} {x3 : Int32} {x4 : Int32} (CF : CallFix p m c cX11_luck 10 s args wsAll RX11) (hG : Gd D cI cB cT s) (hA : ∀ q : Nat, s.heap.size ≤ q → A q) {o : Int64 × Int64} (hx0 : ∀ (H : Heap) (locs : List Loc) (ls : Array Slot), va_P D vwCl (wd_m a_m a_m_refused a_m_codes a_m_noted a_m_marked a_m_masks a_m_text a_m_before a_m_ahead a_m_aside a_m_sure a_m_wrongs a_m_says a_m_evening a_m_images cI cB cT m_words m_kindNow m_secretNow m_guessed m_left m_wrong m_noteMany m_markMany m_typed m_readAt m_readNumber m_undoMany m_lastGuesses m_above m_below m_refused m_codes m_noted m_marked m_masks m_text m_before m_ahead m_aside m_sure m_wrongs m_says m_evening m_images) H → va_D A (wd_m a_m a_m_refused a_m_codes a_m_noted a_m_marked a_m_masks a_m_text a_m_before a_m_ahead a_m_aside a_m_sure a_m_wrongs a_m_says a_m_evening a_m_images cI cB cT m_words m_kindNow m_secretNow m_guessed m_left m_wrong m_noteMany m_markMany m_typed m_readAt m_readNumber m_undoMany m_lastGuesses m_above m_below m_refused m_codes m_noted m_marked m_masks m_text m_before m_ahead m_aside m_sure m_wrongs m_says m_evening m_images) → va_S A s.heap H locs → lv_has ls 10 [(0, .ref a_m), (5, .long o.1), (7, .long o.2)] → W p l e rm_X11_luck s m args below meth c H locs 0 0 Q (F0 m 139 ls [])) : ∀ (n : Nat) (x5 : Int64) (x7 : Int64) (x9 : Int32) (H : Heap) (locs : List Loc) (ls : Array Slot), va_P D vwCl (wd_m a_m a_m_refused a_m_codes a_m_noted a_m_marked a_m_masks a_m_text a_m_before a_m_ahead a_m_aside a_m_sure a_m_wrongs a_m_says a_m_evening a_m_images cI cB cT m_words m_kindNow m_secretNow m_guessed m_left m_wrong m_noteMany m_markMany m_typed m_readAt m_readNumber m_undoMany m_lastGuesses m_above m_below m_refused m_codes m_noted m_marked m_masks m_text m_before m_ahead m_aside m_sure m_wrongs m_says m_evening m_images) H → va_D A (wd_m a_m a_m_refused a_m_codes a_m_noted a_m_marked a_m_masks a_m_text a_m_before a_m_ahead a_m_aside a_m_sure a_m_wrongs a_m_says a_m_evening a_m_images cI cB cT m_words m_kindNow m_secretNow m_guessed m_left m_wrong m_noteMany m_markMany m_typed m_readAt m_readNumber m_undoMany m_lastGuesses m_above m_below m_refused m_codes m_noted m_marked m_masks m_text m_before m_ahead m_aside m_sure m_wrongs m_says m_evening m_images) → va_S A s.heap H locs → lv_has ls 10 [(0, .ref a_m), (3, .int x3), (4, .int x4), (5, .long x5), (7, .long x7), (9, .int x9)] → lp (fun v => B_X11_luck_72 m_words m_guessed m_left m_masks x3 x4 v.1 v.2.1 v.2.2) n (x5, x7, x9) = some o → W p l e rm_X11_luck s m args below meth c H locs 0 0 Q (F0 m 72 ls []) := by
  intro n
  induction n with
  | zero =>
    intro x5 x7 x9 H locs ls hP hD hS hl hf
    exact (lp_zero hf).elim
  | succ n ih =>
    intro x5 x7 x9 H locs ls hP hD hS hl hf
    obtain ⟨z, hz, hf⟩ := lp_succ hf
    refine B_X11_luck_72_W CF hG hA ?_ ?_ hP hD hS hl hz
    · intro v' H locs ls ez hP hD hS hl
      rcases hf with ⟨v2, ev, hf⟩ | ev
      · cases Sum.inl.inj (ez.symm.trans ev)
        exact ih v'.1 v'.2.1 v'.2.2 H locs ls hP hD hS hl hf
      · exact (lp_lr (ez.symm.trans ev)).elim
    · intro o' H locs ls ez hP hD hS hl
      rcases hf with ⟨v2, ev, hf⟩ | ev
      · exact (lp_lr (ev.symm.trans ez)).elim
      · cases Sum.inr.inj (ez.symm.trans ev)
        exact hx0 H locs ls hP hD hS hl
set_option maxHeartbeats 4000000 in
set_option maxRecDepth 100000 in
theorem J_X11_luck_52_W {m_words : Int32} {m_kindNow : Int32} {m_secretNow : Int32} {m_guessed : Int32} {m_left : Int32} {m_wrong : Int32} {m_noteMany : Int32} {m_markMany : Int32} {m_typed : Int32} {m_readAt : Int32} {m_readNumber : Int32} {m_undoMany : Int32} {m_lastGuesses : Int32} {m_above : Int64} {m_below : Int64} {m_refused : (Nat → Int32)} {m_codes : (Nat → Int32)} {m_noted : (Nat → Int32)} {m_marked : (Nat → Int32)} {m_masks : (Nat → Int32)} {m_text : (Nat → Int32)} {m_before : (Nat → Int32)} {m_ahead : (Nat → Int32)} {m_aside : (Nat → Int32)} {m_sure : (Nat → Int32)} {m_wrongs : (Nat → Int32)} {m_says : (Nat → Int32)} {m_evening : (Nat → Int32)} {m_images : (Nat → Int32)} {y0 : Int32} (CF : CallFix p m c cX11_luck 10 s args wsAll RX11) (hG : Gd D cI cB cT s) (hA : ∀ q : Nat, s.heap.size ≤ q → A q) {z : Int32 × Int64 × Int64 × (Nat → Int32)} {H : Heap} {locs : List Loc} (hr : meth.sig.returnType = some .int) (hlk : meth.locks = false) {ls : Array Slot} (hP : va_P D vwCl (wd_m a_m a_m_refused a_m_codes a_m_noted a_m_marked a_m_masks a_m_text a_m_before a_m_ahead a_m_aside a_m_sure a_m_wrongs a_m_says a_m_evening a_m_images cI cB cT m_words m_kindNow m_secretNow m_guessed m_left m_wrong m_noteMany m_markMany m_typed m_readAt m_readNumber m_undoMany m_lastGuesses m_above m_below m_refused m_codes m_noted m_marked m_masks m_text m_before m_ahead m_aside m_sure m_wrongs m_says m_evening m_images) H) (hD : va_D A (wd_m a_m a_m_refused a_m_codes a_m_noted a_m_marked a_m_masks a_m_text a_m_before a_m_ahead a_m_aside a_m_sure a_m_wrongs a_m_says a_m_evening a_m_images cI cB cT m_words m_kindNow m_secretNow m_guessed m_left m_wrong m_noteMany m_markMany m_typed m_readAt m_readNumber m_undoMany m_lastGuesses m_above m_below m_refused m_codes m_noted m_marked m_masks m_text m_before m_ahead m_aside m_sure m_wrongs m_says m_evening m_images)) (hS : va_S A s.heap H locs) (hl : lv_has ls 10 [(0, .ref a_m)]) (hf : J_X11_luck_52 m_words m_secretNow m_guessed m_left m_refused m_masks y0 = some z) : W p l e rm_X11_luck s m args below meth c H locs 0 0 (MQ below (Qw (some (.int z.1)) D (wd_m a_m a_m_refused a_m_codes a_m_noted a_m_marked a_m_masks a_m_text a_m_before a_m_ahead a_m_aside a_m_sure a_m_wrongs a_m_says a_m_evening a_m_images cI cB cT m_words m_kindNow m_secretNow m_guessed m_left m_wrong m_noteMany m_markMany m_typed m_readAt m_readNumber m_undoMany m_lastGuesses z.2.1 z.2.2.1 z.2.2.2 m_codes m_noted m_marked m_masks m_text m_before m_ahead m_aside m_sure m_wrongs m_says m_evening m_images) A) args s 0 0 A) (F0 m 52 ls [.int y0]) := by
  obtain ⟨hx, hb, hml, hown, hts⟩ := id CF
  unfold J_X11_luck_52 at hf
  refine lv_istore_n (lv' := [(3, .int y0), (0, .ref a_m)]) hx hb dX11_luck_52 rfl hl (by decide) rfl (fun ls hl => ?_)
  refine lv_aload_n hx hb dX11_luck_53 rfl (lv_at hl 1 rfl) ?_
  refine lv_aload_n hx hb dX11_luck_54 rfl (lv_at hl 1 rfl) ?_
  refine va_get (D := D) (ci := 9) (v := .int m_left) (C := RX11) (T := TX11) (N := 29) hx hb hts fin_X11 hown hG.1 hP 0 ce_m_0 vq_9 5 (by decide) (hts _ wm_927) (fun _ h9 => h9) rfl dX11_luck_55 ?_
  obtain ⟨o10, e11, hf⟩ := lp_bind hf
  refine ro_Vi (x := o10) (As := [.int m_left]) (rest := []) CF (c_X11_keptOf l D cI cB cT a_m a_m_refused a_m_codes a_m_noted a_m_marked a_m_masks a_m_text a_m_before a_m_ahead a_m_aside a_m_sure a_m_wrongs a_m_says a_m_evening a_m_images m_words m_kindNow m_secretNow m_guessed m_left m_wrong m_noteMany m_markMany m_typed m_readAt m_readNumber m_undoMany m_lastGuesses m_above m_below m_refused m_codes m_noted m_marked m_masks m_text m_before m_ahead m_aside m_sure m_wrongs m_says m_evening m_images m_left e11) ok_X11_keptOf wm_1151 ⟨rfl, rfl, Nat.le_of_ble_eq_true rfl, Nat.le_of_ble_eq_true rfl⟩ hG hP 0 9 vq_9 rfl ce_m_0 rfl hl.1 rfl (Nat.le_of_ble_eq_true rfl) ⟨Nat.zero_le _, Nat.zero_le _⟩ dX11_luck_58 ?_
  refine lv_istore (lv' := [(4, .int o10), (3, .int y0), (0, .ref a_m)]) hx hb dX11_luck_61 hl (by decide) rfl (fun ls hl => ?_)
  refine lv_lconst (v := (0 : Int64)) hx hb dX11_luck_63 (by decide) ?_
  refine lv_lstore (lv' := [(5, .long (0 : Int64)), (4, .int o10), (3, .int y0), (0, .ref a_m)]) hx hb dX11_luck_64 hl (by decide) rfl (fun ls hl => ?_)
  refine lv_lconst (v := (0 : Int64)) hx hb dX11_luck_66 (by decide) ?_
  refine lv_lstore (lv' := [(7, .long (0 : Int64)), (5, .long (0 : Int64)), (4, .int o10), (3, .int y0), (0, .ref a_m)]) hx hb dX11_luck_67 hl (by decide) rfl (fun ls hl => ?_)
  refine lv_iconst (v := (0 : Int32)) hx hb dX11_luck_69 (by decide) ?_
  refine lv_istore (lv' := [(9, .int (0 : Int32)), (7, .long (0 : Int64)), (5, .long (0 : Int64)), (4, .int o10), (3, .int y0), (0, .ref a_m)]) hx hb dX11_luck_70 hl (by decide) rfl (fun ls hl => ?_)
  obtain ⟨o22, e23, hf⟩ := lp_bind hf
  refine L_X11_luck_72_W CF hG hA ?_ KN _ _ _ _ _ _ hP hD hS (lv_sub hl [5, 4, 3, 2, 1, 0] rfl) e23
  intro H locs ls hP hD hS hl
  refine lv_aload_n hx hb dX11_luck_139 rfl (lv_at hl 0 rfl) ?_
  refine lv_lload hx hb dX11_luck_140 (lv_at hl 1 rfl) ?_
  refine lv_lload hx hb dX11_luck_142 (lv_at hl 2 rfl) ?_
  obtain ⟨o24, e25, hf⟩ := lp_bind hf
  refine wr_Wi (x := o24.1) (ws' := (wd_m a_m a_m_refused a_m_codes a_m_noted a_m_marked a_m_masks a_m_text a_m_before a_m_ahead a_m_aside a_m_sure a_m_wrongs a_m_says a_m_evening a_m_images cI cB cT m_words m_kindNow m_secretNow m_guessed m_left m_wrong m_noteMany m_markMany m_typed m_readAt m_readNumber m_undoMany m_lastGuesses o24.2.1 o24.2.2 m_refused m_codes m_noted m_marked m_masks m_text m_before m_ahead m_aside m_sure m_wrongs m_says m_evening m_images)) (As := [.long o22.1, .long o22.2]) (rest := []) CF (c_X11_tells l D cI cB cT H.size a_m a_m_refused a_m_codes a_m_noted a_m_marked a_m_masks a_m_text a_m_before a_m_ahead a_m_aside a_m_sure a_m_wrongs a_m_says a_m_evening a_m_images m_words m_kindNow m_secretNow m_guessed m_left m_wrong m_noteMany m_markMany m_typed m_readAt m_readNumber m_undoMany m_lastGuesses m_above m_below m_refused m_codes m_noted m_marked m_masks m_text m_before m_ahead m_aside m_sure m_wrongs m_says m_evening m_images o22.1 o22.2 e25) ok_X11_tells wm_1309 ⟨rfl, rfl, Nat.le_of_ble_eq_true rfl, Nat.le_of_ble_eq_true rfl⟩ hG hP hD hS hA fs_m 0 9 vq_9 rfl ce_m_0 rfl hl.1 rfl (Nat.le_of_ble_eq_true rfl) ⟨Nat.zero_le _, Nat.zero_le _⟩ dX11_luck_144 (fun H locs hP hD hS => ?_)
  obtain rfl := Option.some.inj hf
  exact wr_iret CF hr hlk hP hS dX11_luck_147
set_option maxHeartbeats 4000000 in
set_option maxRecDepth 100000 in
theorem c_X11_luck (l : Launch) (D : va_G) (cI cB cT : ClassId) (sz : Nat) (a_m a_m_refused a_m_codes a_m_noted a_m_marked a_m_masks a_m_text a_m_before a_m_ahead a_m_aside a_m_sure a_m_wrongs a_m_says a_m_evening a_m_images : Nat) (m_words : Int32) (m_kindNow : Int32) (m_secretNow : Int32) (m_guessed : Int32) (m_left : Int32) (m_wrong : Int32) (m_noteMany : Int32) (m_markMany : Int32) (m_typed : Int32) (m_readAt : Int32) (m_readNumber : Int32) (m_undoMany : Int32) (m_lastGuesses : Int32) (m_above : Int64) (m_below : Int64) (m_refused : (Nat → Int32)) (m_codes : (Nat → Int32)) (m_noted : (Nat → Int32)) (m_marked : (Nat → Int32)) (m_masks : (Nat → Int32)) (m_text : (Nat → Int32)) (m_before : (Nat → Int32)) (m_ahead : (Nat → Int32)) (m_aside : (Nat → Int32)) (m_sure : (Nat → Int32)) (m_wrongs : (Nat → Int32)) (m_says : (Nat → Int32)) (m_evening : (Nat → Int32)) (m_images : (Nat → Int32)) (p1 : Int32) {z : Int32 × Int64 × Int64 × (Nat → Int32)} (hf : f_X11_luck m_words m_secretNow m_guessed m_left m_above m_below m_refused m_masks p1 = some z) :
    Met l yX11_luck (Cond.code yX11_luck cX11_luck 10 (some .int) :: wsAll) rm_X11_luck (Pwr [.ref a_m, .int p1] D cI cB cT (wd_m a_m a_m_refused a_m_codes a_m_noted a_m_marked a_m_masks a_m_text a_m_before a_m_ahead a_m_aside a_m_sure a_m_wrongs a_m_says a_m_evening a_m_images cI cB cT m_words m_kindNow m_secretNow m_guessed m_left m_wrong m_noteMany m_markMany m_typed m_readAt m_readNumber m_undoMany m_lastGuesses m_above m_below m_refused m_codes m_noted m_marked m_masks m_text m_before m_ahead m_aside m_sure m_wrongs m_says m_evening m_images) sz) (Qw (some (.int z.1)) D (wd_m a_m a_m_refused a_m_codes a_m_noted a_m_marked a_m_masks a_m_text a_m_before a_m_ahead a_m_aside a_m_sure a_m_wrongs a_m_says a_m_evening a_m_images cI cB cT m_words m_kindNow m_secretNow m_guessed m_left m_wrong m_noteMany m_markMany m_typed m_readAt m_readNumber m_undoMany m_lastGuesses z.2.1 z.2.2.1 z.2.2.2 m_codes m_noted m_marked m_masks m_text m_before m_ahead m_aside m_sure m_wrongs m_says m_evening m_images) (va_A (wd_m a_m a_m_refused a_m_codes a_m_noted a_m_marked a_m_masks a_m_text a_m_before a_m_ahead a_m_aside a_m_sure a_m_wrongs a_m_says a_m_evening a_m_images cI cB cT m_words m_kindNow m_secretNow m_guessed m_left m_wrong m_noteMany m_markMany m_typed m_readAt m_readNumber m_undoMany m_lastGuesses m_above m_below m_refused m_codes m_noted m_marked m_masks m_text m_before m_ahead m_aside m_sure m_wrongs m_says m_evening m_images) sz)) 0 0 (va_A (wd_m a_m a_m_refused a_m_codes a_m_noted a_m_marked a_m_masks a_m_text a_m_before a_m_ahead a_m_aside a_m_sure a_m_wrongs a_m_says a_m_evening a_m_images cI cB cT m_words m_kindNow m_secretNow m_guessed m_left m_wrong m_noteMany m_markMany m_typed m_readAt m_readNumber m_undoMany m_lastGuesses m_above m_below m_refused m_codes m_noted m_marked m_masks m_text m_before m_ahead m_aside m_sure m_wrongs m_says m_evening m_images) sz) := by
  refine wr_intro RX11 (by decide +kernel) rfl (Nat.le_of_ble_eq_true rfl) ?_
  intro p e s m below meth c ls A H locs CF hr hlk hG hP hD hS hA hl
  have hl : lv_has ls 10 [(0, .ref a_m), (1, .int p1)] := hl
  obtain ⟨hx, hb, hml, hown, hts⟩ := id CF
  unfold f_X11_luck at hf
  refine lv_iload_n hx hb dX11_luck_0 rfl (lv_at hl 1 rfl) ?_
  refine lv_iconst (v := (0 : Int32)) hx hb dX11_luck_1 (by decide) ?_
  refine lv_iconst (v := (3 : Int32)) hx hb dX11_luck_2 (by decide) ?_
  obtain ⟨o1, e2, hf⟩ := lp_bind hf
  refine ro_Si (x := o1) (As := [.int p1, .int (0 : Int32), .int (3 : Int32)]) (rest := []) CF (c_X11_in l D cI cB cT p1 (0 : Int32) (3 : Int32) e2) ok_X11_in wm_1017 ⟨rfl, rfl, Nat.le_of_ble_eq_true rfl, Nat.le_of_ble_eq_true rfl⟩ hG wd_E_P rfl hl.1 rfl (Nat.le_of_ble_eq_true rfl) ⟨Nat.zero_le _, Nat.zero_le _⟩ dX11_luck_3 ?_
  refine lv_if_ne (tgt := 14) hx hb dX11_luck_6 (by decide) (fun c3 => ?_) (fun c3 => ?_)
  · have hf := fk c3 hf
    refine lv_aload_n hx hb dX11_luck_14 rfl (lv_at hl 0 rfl) ?_
    refine va_get (D := D) (ci := 9) (v := .int m_left) (C := RX11) (T := TX11) (N := 29) hx hb hts fin_X11 hown hG.1 hP 0 ce_m_0 vq_9 5 (by decide) (hts _ wm_927) (fun _ h9 => h9) rfl dX11_luck_15 ?_
    obtain ⟨o4, e5, hf⟩ := lp_bind hf
    refine ro_Si (x := o4) (As := [.int m_left]) (rest := []) CF (c_X11_isOneAtMost l D cI cB cT m_left e5) ok_X11_isOneAtMost wm_1247 ⟨rfl, rfl, Nat.le_of_ble_eq_true rfl, Nat.le_of_ble_eq_true rfl⟩ hG wd_E_P rfl hl.1 rfl (Nat.le_of_ble_eq_true rfl) ⟨Nat.zero_le _, Nat.zero_le _⟩ dX11_luck_18 ?_
    refine lv_if_eq (tgt := 31) hx hb dX11_luck_21 (by decide) (fun c6 => ?_) (fun c6 => ?_)
    · have hf := tk c6 hf
      refine lv_bipush (v := (10 : Int32)) hx hb dX11_luck_31 (by decide) ?_
      refine lv_aload_n hx hb dX11_luck_33 rfl (lv_at hl 0 rfl) ?_
      refine va_get (D := D) (ci := 9) (v := .int m_guessed) (C := RX11) (T := TX11) (N := 29) hx hb hts fin_X11 hown hG.1 hP 0 ce_m_0 vq_9 4 (by decide) (hts _ wm_926) (fun _ h9 => h9) rfl dX11_luck_34 ?_
      obtain ⟨o7, e8, hf⟩ := lp_bind hf
      refine ro_Si (x := o7) (As := [.int m_guessed]) (rest := [.int (10 : Int32)]) CF (c_X11_bits l D cI cB cT m_guessed e8) ok_X11_bits wm_1144 ⟨rfl, rfl, Nat.le_of_ble_eq_true rfl, Nat.le_of_ble_eq_true rfl⟩ hG wd_E_P rfl hl.1 rfl (Nat.le_of_ble_eq_true rfl) ⟨Nat.zero_le _, Nat.zero_le _⟩ dX11_luck_37 ?_
      refine lv_isub hx hb dX11_luck_40 ?_
      refine lv_istore_n (lv' := [(2, .int ((10 : Int32) - o7)), (0, .ref a_m), (1, .int p1)]) hx hb dX11_luck_41 rfl hl (by decide) rfl (fun ls hl => ?_)
      refine lv_iload_n hx hb dX11_luck_42 rfl (lv_at hl 2 rfl) ?_
      refine lv_iload_n hx hb dX11_luck_43 rfl (lv_at hl 0 rfl) ?_
      refine lv_icmp_ge (tgt := 51) hx hb dX11_luck_44 (by decide) (fun c9 => ?_) (fun c9 => ?_)
      · have hf := tk c9 hf
        refine lv_iload_n hx hb dX11_luck_51 rfl (lv_at hl 0 rfl) ?_
        exact J_X11_luck_52_W CF hG hA hr hlk hP hD hS (lv_sub hl [1] rfl) hf
      · have hf := fk c9 hf
        refine lv_iload_n hx hb dX11_luck_47 rfl (lv_at hl 2 rfl) ?_
        refine lv_goto (tgt := 52) hx hb dX11_luck_48 (by decide) ?_
        exact J_X11_luck_52_W CF hG hA hr hlk hP hD hS (lv_sub hl [1] rfl) hf
    · have hf := fk c6 hf
      refine lv_aload_n hx hb dX11_luck_24 rfl (lv_at hl 0 rfl) ?_
      refine lv_lconst (v := (1 : Int64)) hx hb dX11_luck_25 (by decide) ?_
      refine lv_lconst (v := (1 : Int64)) hx hb dX11_luck_26 (by decide) ?_
      obtain ⟨o26, e27, hf⟩ := lp_bind hf
      refine wr_Wi (x := o26.1) (ws' := (wd_m a_m a_m_refused a_m_codes a_m_noted a_m_marked a_m_masks a_m_text a_m_before a_m_ahead a_m_aside a_m_sure a_m_wrongs a_m_says a_m_evening a_m_images cI cB cT m_words m_kindNow m_secretNow m_guessed m_left m_wrong m_noteMany m_markMany m_typed m_readAt m_readNumber m_undoMany m_lastGuesses o26.2.1 o26.2.2 m_refused m_codes m_noted m_marked m_masks m_text m_before m_ahead m_aside m_sure m_wrongs m_says m_evening m_images)) (As := [.long (1 : Int64), .long (1 : Int64)]) (rest := []) CF (c_X11_tells l D cI cB cT H.size a_m a_m_refused a_m_codes a_m_noted a_m_marked a_m_masks a_m_text a_m_before a_m_ahead a_m_aside a_m_sure a_m_wrongs a_m_says a_m_evening a_m_images m_words m_kindNow m_secretNow m_guessed m_left m_wrong m_noteMany m_markMany m_typed m_readAt m_readNumber m_undoMany m_lastGuesses m_above m_below m_refused m_codes m_noted m_marked m_masks m_text m_before m_ahead m_aside m_sure m_wrongs m_says m_evening m_images (1 : Int64) (1 : Int64) e27) ok_X11_tells wm_1309 ⟨rfl, rfl, Nat.le_of_ble_eq_true rfl, Nat.le_of_ble_eq_true rfl⟩ hG hP hD hS hA fs_m 0 9 vq_9 rfl ce_m_0 rfl hl.1 rfl (Nat.le_of_ble_eq_true rfl) ⟨Nat.zero_le _, Nat.zero_le _⟩ dX11_luck_27 (fun H locs hP hD hS => ?_)
      obtain rfl := Option.some.inj hf
      exact wr_iret CF hr hlk hP hS dX11_luck_30
  · have hf := tk c3 hf
    refine lv_aload_n hx hb dX11_luck_9 rfl (lv_at hl 0 rfl) ?_
    obtain ⟨o28, e29, hf⟩ := lp_bind hf
    refine wr_Wi (x := o28.1) (ws' := (wd_m a_m a_m_refused a_m_codes a_m_noted a_m_marked a_m_masks a_m_text a_m_before a_m_ahead a_m_aside a_m_sure a_m_wrongs a_m_says a_m_evening a_m_images cI cB cT m_words m_kindNow m_secretNow m_guessed m_left m_wrong m_noteMany m_markMany m_typed m_readAt m_readNumber m_undoMany m_lastGuesses m_above m_below o28.2 m_codes m_noted m_marked m_masks m_text m_before m_ahead m_aside m_sure m_wrongs m_says m_evening m_images)) (As := []) (rest := []) CF (c_X11_bad l D cI cB cT H.size a_m a_m_refused a_m_codes a_m_noted a_m_marked a_m_masks a_m_text a_m_before a_m_ahead a_m_aside a_m_sure a_m_wrongs a_m_says a_m_evening a_m_images m_words m_kindNow m_secretNow m_guessed m_left m_wrong m_noteMany m_markMany m_typed m_readAt m_readNumber m_undoMany m_lastGuesses m_above m_below m_refused m_codes m_noted m_marked m_masks m_text m_before m_ahead m_aside m_sure m_wrongs m_says m_evening m_images e29) ok_X11_bad wm_1020 ⟨rfl, rfl, Nat.le_of_ble_eq_true rfl, Nat.le_of_ble_eq_true rfl⟩ hG hP hD hS hA fs_m 0 9 vq_9 rfl ce_m_0 rfl hl.1 rfl (Nat.le_of_ble_eq_true rfl) ⟨Nat.zero_le _, Nat.zero_le _⟩ dX11_luck_10 (fun H locs hP hD hS => ?_)
    obtain rfl := Option.some.inj hf
    exact wr_iret CF hr hlk hP hS dX11_luck_13
end M_X11_luck
section M_X11_ten
variable {p : Program} {l : Launch} {e : Env} {s : State} {m : MethodId} {args : Array Value} {below : List Frame} {meth : Method} {c : Code} {Q : State → Prop} {A : Nat → Prop} {D : va_G} {cI cB cT : ClassId}
variable {a_m a_m_refused a_m_codes a_m_noted a_m_marked a_m_masks a_m_text a_m_before a_m_ahead a_m_aside a_m_sure a_m_wrongs a_m_says a_m_evening a_m_images : Nat}
def rm_X11_ten : Room := { frames := 0, cells := 0, slots := 0, locals := 0 }
def f_X11_ten (m_refused : (Nat → Int32)) : Option (Int32 × (Nat → Int32)) := (if oob (0 : Int32) 3 then none else (if oob (0 : Int32) 3 then none else some ((-10 : Int32), (upd m_refused ((0 : Int32)).toNatClampNeg ((m_refused ((0 : Int32)).toNatClampNeg) + (1 : Int32))))))
set_option maxHeartbeats 4000000 in
set_option maxRecDepth 100000 in
theorem c_X11_ten (l : Launch) (D : va_G) (cI cB cT : ClassId) (sz : Nat) (a_m a_m_refused a_m_codes a_m_noted a_m_marked a_m_masks a_m_text a_m_before a_m_ahead a_m_aside a_m_sure a_m_wrongs a_m_says a_m_evening a_m_images : Nat) (m_words : Int32) (m_kindNow : Int32) (m_secretNow : Int32) (m_guessed : Int32) (m_left : Int32) (m_wrong : Int32) (m_noteMany : Int32) (m_markMany : Int32) (m_typed : Int32) (m_readAt : Int32) (m_readNumber : Int32) (m_undoMany : Int32) (m_lastGuesses : Int32) (m_above : Int64) (m_below : Int64) (m_refused : (Nat → Int32)) (m_codes : (Nat → Int32)) (m_noted : (Nat → Int32)) (m_marked : (Nat → Int32)) (m_masks : (Nat → Int32)) (m_text : (Nat → Int32)) (m_before : (Nat → Int32)) (m_ahead : (Nat → Int32)) (m_aside : (Nat → Int32)) (m_sure : (Nat → Int32)) (m_wrongs : (Nat → Int32)) (m_says : (Nat → Int32)) (m_evening : (Nat → Int32)) (m_images : (Nat → Int32)) {z : Int32 × (Nat → Int32)} (hf : f_X11_ten m_refused = some z) :
    Met l yX11_ten (Cond.code yX11_ten cX11_ten 1 (some .int) :: wsAll) rm_X11_ten (Pwr [.ref a_m] D cI cB cT (wd_m a_m a_m_refused a_m_codes a_m_noted a_m_marked a_m_masks a_m_text a_m_before a_m_ahead a_m_aside a_m_sure a_m_wrongs a_m_says a_m_evening a_m_images cI cB cT m_words m_kindNow m_secretNow m_guessed m_left m_wrong m_noteMany m_markMany m_typed m_readAt m_readNumber m_undoMany m_lastGuesses m_above m_below m_refused m_codes m_noted m_marked m_masks m_text m_before m_ahead m_aside m_sure m_wrongs m_says m_evening m_images) sz) (Qw (some (.int z.1)) D (wd_m a_m a_m_refused a_m_codes a_m_noted a_m_marked a_m_masks a_m_text a_m_before a_m_ahead a_m_aside a_m_sure a_m_wrongs a_m_says a_m_evening a_m_images cI cB cT m_words m_kindNow m_secretNow m_guessed m_left m_wrong m_noteMany m_markMany m_typed m_readAt m_readNumber m_undoMany m_lastGuesses m_above m_below z.2 m_codes m_noted m_marked m_masks m_text m_before m_ahead m_aside m_sure m_wrongs m_says m_evening m_images) (va_A (wd_m a_m a_m_refused a_m_codes a_m_noted a_m_marked a_m_masks a_m_text a_m_before a_m_ahead a_m_aside a_m_sure a_m_wrongs a_m_says a_m_evening a_m_images cI cB cT m_words m_kindNow m_secretNow m_guessed m_left m_wrong m_noteMany m_markMany m_typed m_readAt m_readNumber m_undoMany m_lastGuesses m_above m_below m_refused m_codes m_noted m_marked m_masks m_text m_before m_ahead m_aside m_sure m_wrongs m_says m_evening m_images) sz)) 0 0 (va_A (wd_m a_m a_m_refused a_m_codes a_m_noted a_m_marked a_m_masks a_m_text a_m_before a_m_ahead a_m_aside a_m_sure a_m_wrongs a_m_says a_m_evening a_m_images cI cB cT m_words m_kindNow m_secretNow m_guessed m_left m_wrong m_noteMany m_markMany m_typed m_readAt m_readNumber m_undoMany m_lastGuesses m_above m_below m_refused m_codes m_noted m_marked m_masks m_text m_before m_ahead m_aside m_sure m_wrongs m_says m_evening m_images) sz) := by
  refine wr_intro RX11 (by decide +kernel) rfl (Nat.le_of_ble_eq_true rfl) ?_
  intro p e s m below meth c ls A H locs CF hr hlk hG hP hD hS hA hl
  have hl : lv_has ls 1 [(0, .ref a_m)] := hl
  obtain ⟨hx, hb, hml, hown, hts⟩ := id CF
  unfold f_X11_ten at hf
  refine lv_aload_n hx hb dX11_ten_0 rfl (lv_at hl 0 rfl) ?_
  refine va_get (D := D) (ci := 9) (v := .ref a_m_refused) (C := RX11) (T := TX11) (N := 29) hx hb hts fin_X11 hown hG.1 hP 0 ce_m_0 vq_9 0 (by decide) (hts _ wm_922) (fun _ h9 => h9) rfl dX11_ten_1 ?_
  refine lv_iconst (v := (0 : Int32)) hx hb dX11_ten_4 (by decide) ?_
  refine lv_dup2_11 hx hb dX11_ten_5 rfl rfl ?_
  obtain ⟨n1, hf⟩ := nk hf
  refine va_iald (f := m_refused) hx hb hG.1 hP 1 0 ce_m_1 rfl n1 dX11_ten_6 ?_
  refine lv_iconst (v := (1 : Int32)) hx hb dX11_ten_7 (by decide) ?_
  refine lv_iadd hx hb dX11_ten_8 ?_
  obtain ⟨n2, hf⟩ := nk hf
  refine va_iast (f := m_refused) hx hb hG.1 hP hD hS 1 0 ce_m_1 rfl n2 dX11_ten_9 (fun H locs hP _ hS => ?_)
  have hP : va_P D vwCl (wd_m a_m a_m_refused a_m_codes a_m_noted a_m_marked a_m_masks a_m_text a_m_before a_m_ahead a_m_aside a_m_sure a_m_wrongs a_m_says a_m_evening a_m_images cI cB cT m_words m_kindNow m_secretNow m_guessed m_left m_wrong m_noteMany m_markMany m_typed m_readAt m_readNumber m_undoMany m_lastGuesses m_above m_below (upd m_refused ((0 : Int32)).toNatClampNeg ((m_refused ((0 : Int32)).toNatClampNeg) + (1 : Int32))) m_codes m_noted m_marked m_masks m_text m_before m_ahead m_aside m_sure m_wrongs m_says m_evening m_images) H := va_P_eq se_m_m_refused hP
  have hD : va_D A (wd_m a_m a_m_refused a_m_codes a_m_noted a_m_marked a_m_masks a_m_text a_m_before a_m_ahead a_m_aside a_m_sure a_m_wrongs a_m_says a_m_evening a_m_images cI cB cT m_words m_kindNow m_secretNow m_guessed m_left m_wrong m_noteMany m_markMany m_typed m_readAt m_readNumber m_undoMany m_lastGuesses m_above m_below (upd m_refused ((0 : Int32)).toNatClampNeg ((m_refused ((0 : Int32)).toNatClampNeg) + (1 : Int32))) m_codes m_noted m_marked m_masks m_text m_before m_ahead m_aside m_sure m_wrongs m_says m_evening m_images) := va_D_fst fs_m hD
  refine lv_bipush (v := (-10 : Int32)) hx hb dX11_ten_10 (by decide) ?_
  obtain rfl := Option.some.inj hf
  exact wr_iret CF hr hlk hP hS dX11_ten_12
end M_X11_ten
section M_X11_rests
variable {p : Program} {l : Launch} {e : Env} {s : State} {m : MethodId} {args : Array Value} {below : List Frame} {meth : Method} {c : Code} {Q : State → Prop} {A : Nat → Prop} {D : va_G} {cI cB cT : ClassId}
variable {a_m a_m_refused a_m_codes a_m_noted a_m_marked a_m_masks a_m_text a_m_before a_m_ahead a_m_aside a_m_sure a_m_wrongs a_m_says a_m_evening a_m_images : Nat}
def rm_X11_rests : Room := { frames := 0, cells := 0, slots := 0, locals := 0 }
def B_X11_rests_5 (m_wrongs : (Nat → Int32)) (x1 : Int32) (x2 : Int32) (x3 : Int32) (x4 : Int32) : Option ((Int32 × Int32) ⊕ (Int32)) := (if (6 : Int32) ≤ x4 then some (Sum.inr x3) else (if x3 = 0 then some (Sum.inl ((0 : Int32), (x4 + (1 : Int32)))) else (if oob (((6 : Int32) * x4) + x2) 36 then none else (if oob (((6 : Int32) * x1) + x2) 36 then none else (if (m_wrongs ((((6 : Int32) * x4) + x2)).toNatClampNeg) < (m_wrongs ((((6 : Int32) * x1) + x2)).toNatClampNeg) then some (Sum.inl ((0 : Int32), (x4 + (1 : Int32)))) else (if oob (((6 : Int32) * x1) + x4) 36 then none else (if oob (((6 : Int32) * x1) + x2) 36 then none else (if (m_wrongs ((((6 : Int32) * x1) + x2)).toNatClampNeg) < (m_wrongs ((((6 : Int32) * x1) + x4)).toNatClampNeg) then some (Sum.inl ((0 : Int32), (x4 + (1 : Int32)))) else some (Sum.inl ((1 : Int32), (x4 + (1 : Int32))))))))))))
def f_X11_rests (m_wrongs : (Nat → Int32)) (p1 : Int32) (p2 : Int32) : Option (Int32) := ((lp (fun v => B_X11_rests_5 m_wrongs p1 p2 v.1 v.2) KN ((1 : Int32), (0 : Int32))).bind fun o9 => (if (o9 = 0 ∨ o9 = 1) then some o9 else none))
set_option maxHeartbeats 4000000 in
set_option maxRecDepth 100000 in
theorem B_X11_rests_5_W {m_words : Int32} {m_kindNow : Int32} {m_secretNow : Int32} {m_guessed : Int32} {m_left : Int32} {m_wrong : Int32} {m_noteMany : Int32} {m_markMany : Int32} {m_typed : Int32} {m_readAt : Int32} {m_readNumber : Int32} {m_undoMany : Int32} {m_lastGuesses : Int32} {m_above : Int64} {m_below : Int64} {m_refused : (Nat → Int32)} {m_codes : (Nat → Int32)} {m_noted : (Nat → Int32)} {m_marked : (Nat → Int32)} {m_masks : (Nat → Int32)} {m_text : (Nat → Int32)} {m_before : (Nat → Int32)} {m_ahead : (Nat → Int32)} {m_aside : (Nat → Int32)} {m_sure : (Nat → Int32)} {m_wrongs : (Nat → Int32)} {m_says : (Nat → Int32)} {m_evening : (Nat → Int32)} {m_images : (Nat → Int32)} {x1 : Int32} {x2 : Int32} {x3 : Int32} {x4 : Int32} (CF : CallFix p m c cX11_rests 5 s args wsAll RX11) (hG : Gd D cI cB cT s) {z : (Int32 × Int32) ⊕ (Int32)} (hk : ∀ (v' : Int32 × Int32) (ls : Array Slot), z = Sum.inl v' → lv_has ls 5 [(0, .ref a_m), (1, .int x1), (2, .int x2), (3, .int (v'.1)), (4, .int (v'.2))] → W p l e rm_X11_rests s m args below meth c s.heap [] 0 0 Q (F0 m 5 ls [])) (hx0 : ∀ (o' : Int32) (ls : Array Slot), z = Sum.inr o' → lv_has ls 5 [(3, .int (o'))] → W p l e rm_X11_rests s m args below meth c s.heap [] 0 0 Q (F0 m 80 ls [])) {ls : Array Slot} (hP : va_P D vwCl (wd_m a_m a_m_refused a_m_codes a_m_noted a_m_marked a_m_masks a_m_text a_m_before a_m_ahead a_m_aside a_m_sure a_m_wrongs a_m_says a_m_evening a_m_images cI cB cT m_words m_kindNow m_secretNow m_guessed m_left m_wrong m_noteMany m_markMany m_typed m_readAt m_readNumber m_undoMany m_lastGuesses m_above m_below m_refused m_codes m_noted m_marked m_masks m_text m_before m_ahead m_aside m_sure m_wrongs m_says m_evening m_images) s.heap) (hl : lv_has ls 5 [(0, .ref a_m), (1, .int x1), (2, .int x2), (3, .int x3), (4, .int x4)]) (hf : B_X11_rests_5 m_wrongs x1 x2 x3 x4 = some z) : W p l e rm_X11_rests s m args below meth c s.heap [] 0 0 Q (F0 m 5 ls []) := by
  obtain ⟨hx, hb, hml, hown, hts⟩ := id CF
  unfold B_X11_rests_5 at hf
  refine lv_iload hx hb dX11_rests_5 (lv_at hl 4 rfl) ?_
  refine lv_bipush (v := (6 : Int32)) hx hb dX11_rests_7 (by decide) ?_
  refine lv_icmp_ge (tgt := 80) hx hb dX11_rests_9 (by decide) (fun c1 => ?_) (fun c1 => ?_)
  · have hf := tk c1 hf
    exact hx0 _ _ (Option.some.inj hf).symm (lv_sub hl [3] rfl)
  · have hf := fk c1 hf
    refine lv_iload_n hx hb dX11_rests_12 rfl (lv_at hl 3 rfl) ?_
    refine lv_if_eq (tgt := 72) hx hb dX11_rests_13 (by decide) (fun c2 => ?_) (fun c2 => ?_)
    · have hf := tk c2 hf
      refine lv_iconst (v := (0 : Int32)) hx hb dX11_rests_72 (by decide) ?_
      refine lv_istore_n (lv' := [(3, .int (0 : Int32)), (0, .ref a_m), (1, .int x1), (2, .int x2), (4, .int x4)]) hx hb dX11_rests_73 rfl hl (by decide) rfl (fun ls hl => ?_)
      refine lv_iinc (v := (x4 + (1 : Int32))) (lv' := [(4, .int (x4 + (1 : Int32))), (3, .int (0 : Int32)), (0, .ref a_m), (1, .int x1), (2, .int x2)]) hx hb dX11_rests_74 hl (k := 4) rfl (iinc_eq (by decide)) (by decide) rfl (fun ls hl => ?_)
      refine lv_goto (tgt := 5) hx hb dX11_rests_77 (by decide) ?_
      exact hk _ _ (Option.some.inj hf).symm (lv_sub hl [2, 3, 4, 1, 0] rfl)
    · have hf := fk c2 hf
      refine lv_aload_n hx hb dX11_rests_16 rfl (lv_at hl 0 rfl) ?_
      refine va_get (D := D) (ci := 9) (v := .ref a_m_wrongs) (C := RX11) (T := TX11) (N := 29) hx hb hts fin_X11 hown hG.1 hP 0 ce_m_0 vq_9 25 (by decide) (hts _ wm_947) (fun _ h9 => h9) rfl dX11_rests_17 ?_
      refine lv_bipush (v := (6 : Int32)) hx hb dX11_rests_20 (by decide) ?_
      refine lv_iload hx hb dX11_rests_22 (lv_at hl 4 rfl) ?_
      refine lv_imul hx hb dX11_rests_24 ?_
      refine lv_iload_n hx hb dX11_rests_25 rfl (lv_at hl 2 rfl) ?_
      refine lv_iadd hx hb dX11_rests_26 ?_
      obtain ⟨n3, hf⟩ := nk hf
      refine va_iald (f := m_wrongs) hx hb hG.1 hP 11 0 ce_m_11 rfl n3 dX11_rests_27 ?_
      refine lv_aload_n hx hb dX11_rests_28 rfl (lv_at hl 0 rfl) ?_
      refine va_get (D := D) (ci := 9) (v := .ref a_m_wrongs) (C := RX11) (T := TX11) (N := 29) hx hb hts fin_X11 hown hG.1 hP 0 ce_m_0 vq_9 25 (by decide) (hts _ wm_947) (fun _ h9 => h9) rfl dX11_rests_29 ?_
      refine lv_bipush (v := (6 : Int32)) hx hb dX11_rests_32 (by decide) ?_
      refine lv_iload_n hx hb dX11_rests_34 rfl (lv_at hl 1 rfl) ?_
      refine lv_imul hx hb dX11_rests_35 ?_
      refine lv_iload_n hx hb dX11_rests_36 rfl (lv_at hl 2 rfl) ?_
      refine lv_iadd hx hb dX11_rests_37 ?_
      obtain ⟨n4, hf⟩ := nk hf
      refine va_iald (f := m_wrongs) hx hb hG.1 hP 11 0 ce_m_11 rfl n4 dX11_rests_38 ?_
      refine lv_icmp_lt (tgt := 72) hx hb dX11_rests_39 (by decide) (fun c5 => ?_) (fun c5 => ?_)
      · have hf := tk c5 hf
        refine lv_iconst (v := (0 : Int32)) hx hb dX11_rests_72 (by decide) ?_
        refine lv_istore_n (lv' := [(3, .int (0 : Int32)), (0, .ref a_m), (1, .int x1), (2, .int x2), (4, .int x4)]) hx hb dX11_rests_73 rfl hl (by decide) rfl (fun ls hl => ?_)
        refine lv_iinc (v := (x4 + (1 : Int32))) (lv' := [(4, .int (x4 + (1 : Int32))), (3, .int (0 : Int32)), (0, .ref a_m), (1, .int x1), (2, .int x2)]) hx hb dX11_rests_74 hl (k := 4) rfl (iinc_eq (by decide)) (by decide) rfl (fun ls hl => ?_)
        refine lv_goto (tgt := 5) hx hb dX11_rests_77 (by decide) ?_
        exact hk _ _ (Option.some.inj hf).symm (lv_sub hl [2, 3, 4, 1, 0] rfl)
      · have hf := fk c5 hf
        refine lv_aload_n hx hb dX11_rests_42 rfl (lv_at hl 0 rfl) ?_
        refine va_get (D := D) (ci := 9) (v := .ref a_m_wrongs) (C := RX11) (T := TX11) (N := 29) hx hb hts fin_X11 hown hG.1 hP 0 ce_m_0 vq_9 25 (by decide) (hts _ wm_947) (fun _ h9 => h9) rfl dX11_rests_43 ?_
        refine lv_bipush (v := (6 : Int32)) hx hb dX11_rests_46 (by decide) ?_
        refine lv_iload_n hx hb dX11_rests_48 rfl (lv_at hl 1 rfl) ?_
        refine lv_imul hx hb dX11_rests_49 ?_
        refine lv_iload hx hb dX11_rests_50 (lv_at hl 4 rfl) ?_
        refine lv_iadd hx hb dX11_rests_52 ?_
        obtain ⟨n6, hf⟩ := nk hf
        refine va_iald (f := m_wrongs) hx hb hG.1 hP 11 0 ce_m_11 rfl n6 dX11_rests_53 ?_
        refine lv_aload_n hx hb dX11_rests_54 rfl (lv_at hl 0 rfl) ?_
        refine va_get (D := D) (ci := 9) (v := .ref a_m_wrongs) (C := RX11) (T := TX11) (N := 29) hx hb hts fin_X11 hown hG.1 hP 0 ce_m_0 vq_9 25 (by decide) (hts _ wm_947) (fun _ h9 => h9) rfl dX11_rests_55 ?_
        refine lv_bipush (v := (6 : Int32)) hx hb dX11_rests_58 (by decide) ?_
        refine lv_iload_n hx hb dX11_rests_60 rfl (lv_at hl 1 rfl) ?_
        refine lv_imul hx hb dX11_rests_61 ?_
        refine lv_iload_n hx hb dX11_rests_62 rfl (lv_at hl 2 rfl) ?_
        refine lv_iadd hx hb dX11_rests_63 ?_
        obtain ⟨n7, hf⟩ := nk hf
        refine va_iald (f := m_wrongs) hx hb hG.1 hP 11 0 ce_m_11 rfl n7 dX11_rests_64 ?_
        refine lv_icmp_gt (tgt := 72) hx hb dX11_rests_65 (by decide) (fun c8 => ?_) (fun c8 => ?_)
        · have hf := tk c8 hf
          refine lv_iconst (v := (0 : Int32)) hx hb dX11_rests_72 (by decide) ?_
          refine lv_istore_n (lv' := [(3, .int (0 : Int32)), (0, .ref a_m), (1, .int x1), (2, .int x2), (4, .int x4)]) hx hb dX11_rests_73 rfl hl (by decide) rfl (fun ls hl => ?_)
          refine lv_iinc (v := (x4 + (1 : Int32))) (lv' := [(4, .int (x4 + (1 : Int32))), (3, .int (0 : Int32)), (0, .ref a_m), (1, .int x1), (2, .int x2)]) hx hb dX11_rests_74 hl (k := 4) rfl (iinc_eq (by decide)) (by decide) rfl (fun ls hl => ?_)
          refine lv_goto (tgt := 5) hx hb dX11_rests_77 (by decide) ?_
          exact hk _ _ (Option.some.inj hf).symm (lv_sub hl [2, 3, 4, 1, 0] rfl)
        · have hf := fk c8 hf
          refine lv_iconst (v := (1 : Int32)) hx hb dX11_rests_68 (by decide) ?_
          refine lv_goto (tgt := 73) hx hb dX11_rests_69 (by decide) ?_
          refine lv_istore_n (lv' := [(3, .int (1 : Int32)), (0, .ref a_m), (1, .int x1), (2, .int x2), (4, .int x4)]) hx hb dX11_rests_73 rfl hl (by decide) rfl (fun ls hl => ?_)
          refine lv_iinc (v := (x4 + (1 : Int32))) (lv' := [(4, .int (x4 + (1 : Int32))), (3, .int (1 : Int32)), (0, .ref a_m), (1, .int x1), (2, .int x2)]) hx hb dX11_rests_74 hl (k := 4) rfl (iinc_eq (by decide)) (by decide) rfl (fun ls hl => ?_)
          refine lv_goto (tgt := 5) hx hb dX11_rests_77 (by decide) ?_
          exact hk _ _ (Option.some.inj hf).symm (lv_sub hl [2, 3, 4, 1, 0] rfl)
set_option maxHeartbeats 4000000 in
set_option maxRecDepth 100000 in
theorem L_X11_rests_5_W {m_words : Int32} {m_kindNow : Int32} {m_secretNow : Int32} {m_guessed : Int32} {m_left : Int32} {m_wrong : Int32} {m_noteMany : Int32} {m_markMany : Int32} {m_typed : Int32} {m_readAt : Int32} {m_readNumber : Int32} {m_undoMany : Int32} {m_lastGuesses : Int32} {m_above : Int64} {m_below : Int64} {m_refused : (Nat → Int32)} {m_codes : (Nat → Int32)} {m_noted : (Nat → Int32)} {m_marked : (Nat → Int32)} {m_masks : (Nat → Int32)} {m_text : (Nat → Int32)} {m_before : (Nat → Int32)} {m_ahead : (Nat → Int32)} {m_aside : (Nat → Int32)} {m_sure : (Nat → Int32)} {m_wrongs : (Nat → Int32)} {m_says : (Nat → Int32)} {m_evening : (Nat → Int32)} {m_images : (Nat → Int32)} {x1 : Int32} {x2 : Int32} (CF : CallFix p m c cX11_rests 5 s args wsAll RX11) (hG : Gd D cI cB cT s) {o : Int32} (hx0 : ∀ (ls : Array Slot), lv_has ls 5 [(3, .int o)] → W p l e rm_X11_rests s m args below meth c s.heap [] 0 0 Q (F0 m 80 ls [])) : ∀ (n : Nat) (x3 : Int32) (x4 : Int32) (ls : Array Slot), va_P D vwCl (wd_m a_m a_m_refused a_m_codes a_m_noted a_m_marked a_m_masks a_m_text a_m_before a_m_ahead a_m_aside a_m_sure a_m_wrongs a_m_says a_m_evening a_m_images cI cB cT m_words m_kindNow m_secretNow m_guessed m_left m_wrong m_noteMany m_markMany m_typed m_readAt m_readNumber m_undoMany m_lastGuesses m_above m_below m_refused m_codes m_noted m_marked m_masks m_text m_before m_ahead m_aside m_sure m_wrongs m_says m_evening m_images) s.heap → lv_has ls 5 [(0, .ref a_m), (1, .int x1), (2, .int x2), (3, .int x3), (4, .int x4)] → lp (fun v => B_X11_rests_5 m_wrongs x1 x2 v.1 v.2) n (x3, x4) = some o → W p l e rm_X11_rests s m args below meth c s.heap [] 0 0 Q (F0 m 5 ls []) := by
  intro n
  induction n with
  | zero =>
    intro x3 x4 ls hP hl hf
    exact (lp_zero hf).elim
  | succ n ih =>
    intro x3 x4 ls hP hl hf
    obtain ⟨z, hz, hf⟩ := lp_succ hf
    refine B_X11_rests_5_W CF hG ?_ ?_ hP hl hz
    · intro v' ls ez hl
      rcases hf with ⟨v2, ev, hf⟩ | ev
      · cases Sum.inl.inj (ez.symm.trans ev)
        exact ih v'.1 v'.2 ls hP hl hf
      · exact (lp_lr (ez.symm.trans ev)).elim
    · intro o' ls ez hl
      rcases hf with ⟨v2, ev, hf⟩ | ev
      · exact (lp_lr (ev.symm.trans ez)).elim
      · cases Sum.inr.inj (ez.symm.trans ev)
        exact hx0 ls  hl
set_option maxHeartbeats 4000000 in
set_option maxRecDepth 100000 in
theorem c_X11_rests (l : Launch) (D : va_G) (cI cB cT : ClassId) (a_m a_m_refused a_m_codes a_m_noted a_m_marked a_m_masks a_m_text a_m_before a_m_ahead a_m_aside a_m_sure a_m_wrongs a_m_says a_m_evening a_m_images : Nat) (m_words : Int32) (m_kindNow : Int32) (m_secretNow : Int32) (m_guessed : Int32) (m_left : Int32) (m_wrong : Int32) (m_noteMany : Int32) (m_markMany : Int32) (m_typed : Int32) (m_readAt : Int32) (m_readNumber : Int32) (m_undoMany : Int32) (m_lastGuesses : Int32) (m_above : Int64) (m_below : Int64) (m_refused : (Nat → Int32)) (m_codes : (Nat → Int32)) (m_noted : (Nat → Int32)) (m_marked : (Nat → Int32)) (m_masks : (Nat → Int32)) (m_text : (Nat → Int32)) (m_before : (Nat → Int32)) (m_ahead : (Nat → Int32)) (m_aside : (Nat → Int32)) (m_sure : (Nat → Int32)) (m_wrongs : (Nat → Int32)) (m_says : (Nat → Int32)) (m_evening : (Nat → Int32)) (m_images : (Nat → Int32)) (p1 : Int32) (p2 : Int32) {z : Int32} (hf : f_X11_rests m_wrongs p1 p2 = some z) :
    Met l yX11_rests (Cond.code yX11_rests cX11_rests 5 (some .boolean) :: wsAll) rm_X11_rests (Pro [.ref a_m, .int p1, .int p2] D cI cB cT (wd_m a_m a_m_refused a_m_codes a_m_noted a_m_marked a_m_masks a_m_text a_m_before a_m_ahead a_m_aside a_m_sure a_m_wrongs a_m_says a_m_evening a_m_images cI cB cT m_words m_kindNow m_secretNow m_guessed m_left m_wrong m_noteMany m_markMany m_typed m_readAt m_readNumber m_undoMany m_lastGuesses m_above m_below m_refused m_codes m_noted m_marked m_masks m_text m_before m_ahead m_aside m_sure m_wrongs m_says m_evening m_images)) (Qr (some (.int z))) 0 0 (fun _ => False) := by
  refine ro_intro RX11 (by decide +kernel) rfl (Nat.le_of_ble_eq_true rfl) ?_
  intro p e s m below meth c ls CF hr hlk hG hP hl
  have hl : lv_has ls 5 [(0, .ref a_m), (1, .int p1), (2, .int p2)] := hl
  obtain ⟨hx, hb, hml, hown, hts⟩ := id CF
  unfold f_X11_rests at hf
  refine lv_iconst (v := (1 : Int32)) hx hb dX11_rests_0 (by decide) ?_
  refine lv_istore_n (lv' := [(3, .int (1 : Int32)), (0, .ref a_m), (1, .int p1), (2, .int p2)]) hx hb dX11_rests_1 rfl hl (by decide) rfl (fun ls hl => ?_)
  refine lv_iconst (v := (0 : Int32)) hx hb dX11_rests_2 (by decide) ?_
  refine lv_istore (lv' := [(4, .int (0 : Int32)), (3, .int (1 : Int32)), (0, .ref a_m), (1, .int p1), (2, .int p2)]) hx hb dX11_rests_3 hl (by decide) rfl (fun ls hl => ?_)
  obtain ⟨o9, e10, hf⟩ := lp_bind hf
  refine L_X11_rests_5_W CF hG ?_ KN _ _ _ hP (lv_sub hl [2, 3, 4, 1, 0] rfl) e10
  intro ls hl
  refine lv_iload_n hx hb dX11_rests_80 rfl (lv_at hl 0 rfl) ?_
  obtain ⟨n11, hf⟩ := yk hf
  obtain rfl := Option.some.inj hf
  exact ro_zret CF hr hlk n11 dX11_rests_81
end M_X11_rests
