section M_X11_firstOf
variable {p : Program} {l : Launch} {e : Env} {s : State} {m : MethodId} {args : Array Value} {below : List Frame} {meth : Method} {c : Code} {Q : State → Prop} {A : Nat → Prop} {D : va_G} {cI cB cT : ClassId}
variable {a_m a_m_refused a_m_codes a_m_noted a_m_marked a_m_masks a_m_text a_m_before a_m_ahead a_m_aside a_m_sure a_m_wrongs a_m_says a_m_evening a_m_images : Nat}
def rm_X11_firstOf : Room := { frames := 4, cells := 0, slots := 0, locals := 95 }
def B_X11_firstOf_13 (x1 : Int32) (x3 : Int32) : Option ((Int32) ⊕ (Int32)) := ((f_X11_has x1 x3).bind fun o2 => (if o2 = 0 then some (Sum.inl (x3 + (1 : Int32))) else some (Sum.inr x3)))
def f_X11_firstOf (m_words : Int32) (m_codes : (Nat → Int32)) (m_masks : (Nat → Int32)) (p1 : Int32) (p2 : Int32) : Option (Int32) := (if p1 = 0 then ((f_X11_often m_words m_masks p1 p2).bind fun o15 => some o15) else ((lp (fun v => B_X11_firstOf_13 p1 v) KN (0 : Int32)).bind fun o5 => (if oob o5 8 then none else ((f_X11_letterAt (m_codes (o5).toNatClampNeg) (0 : Int32)).bind fun o8 => ((f_X11_has p2 o8).bind fun o10 => (if o10 = 0 then some o8 else ((f_X11_often m_words m_masks p1 p2).bind fun o13 => some o13)))))))
set_option maxHeartbeats 4000000 in
set_option maxRecDepth 100000 in
theorem B_X11_firstOf_13_W {m_words : Int32} {m_kindNow : Int32} {m_secretNow : Int32} {m_guessed : Int32} {m_left : Int32} {m_wrong : Int32} {m_noteMany : Int32} {m_markMany : Int32} {m_typed : Int32} {m_readAt : Int32} {m_readNumber : Int32} {m_undoMany : Int32} {m_lastGuesses : Int32} {m_above : Int64} {m_below : Int64} {m_refused : (Nat → Int32)} {m_codes : (Nat → Int32)} {m_noted : (Nat → Int32)} {m_marked : (Nat → Int32)} {m_masks : (Nat → Int32)} {m_text : (Nat → Int32)} {m_before : (Nat → Int32)} {m_ahead : (Nat → Int32)} {m_aside : (Nat → Int32)} {m_sure : (Nat → Int32)} {m_wrongs : (Nat → Int32)} {m_says : (Nat → Int32)} {m_evening : (Nat → Int32)} {m_images : (Nat → Int32)} {x1 : Int32} {x2 : Int32} {x3 : Int32} (CF : CallFix p m c cX11_firstOf 5 s args wsAll RX11) (hG : Gd D cI cB cT s) {z : (Int32) ⊕ (Int32)} (hk : ∀ (v' : Int32) (ls : Array Slot), z = Sum.inl v' → lv_has ls 5 [(0, .ref a_m), (1, .int x1), (2, .int x2), (3, .int (v'))] → W p l e rm_X11_firstOf s m args below meth c s.heap [] 0 0 Q (F0 m 13 ls [])) (hx0 : ∀ (o' : Int32) (ls : Array Slot), z = Sum.inr o' → lv_has ls 5 [(0, .ref a_m), (1, .int x1), (2, .int x2), (3, .int (o'))] → W p l e rm_X11_firstOf s m args below meth c s.heap [] 0 0 Q (F0 m 27 ls [])) {ls : Array Slot} (hP : va_P D vwCl (wd_m a_m a_m_refused a_m_codes a_m_noted a_m_marked a_m_masks a_m_text a_m_before a_m_ahead a_m_aside a_m_sure a_m_wrongs a_m_says a_m_evening a_m_images cI cB cT m_words m_kindNow m_secretNow m_guessed m_left m_wrong m_noteMany m_markMany m_typed m_readAt m_readNumber m_undoMany m_lastGuesses m_above m_below m_refused m_codes m_noted m_marked m_masks m_text m_before m_ahead m_aside m_sure m_wrongs m_says m_evening m_images) s.heap) (hl : lv_has ls 5 [(0, .ref a_m), (1, .int x1), (2, .int x2), (3, .int x3)]) (hf : B_X11_firstOf_13 x1 x3 = some z) : W p l e rm_X11_firstOf s m args below meth c s.heap [] 0 0 Q (F0 m 13 ls []) := by
  obtain ⟨hx, hb, hml, hown, hts⟩ := id CF
  unfold B_X11_firstOf_13 at hf
  refine lv_iload_n hx hb dX11_firstOf_13 rfl (lv_at hl 1 rfl) ?_
  refine lv_iload_n hx hb dX11_firstOf_14 rfl (lv_at hl 3 rfl) ?_
  obtain ⟨o2, e3, hf⟩ := lp_bind hf
  refine ro_Si (x := o2) (As := [.int x1, .int x3]) (rest := []) CF (c_X11_has l D cI cB cT x1 x3 e3) ok_X11_has wm_1133 ⟨rfl, rfl, Nat.le_of_ble_eq_true rfl, Nat.le_of_ble_eq_true rfl⟩ hG wd_E_P rfl hl.1 rfl (Nat.le_of_ble_eq_true rfl) ⟨Nat.zero_le _, Nat.zero_le _⟩ dX11_firstOf_15 ?_
  refine lv_if_ne (tgt := 27) hx hb dX11_firstOf_18 (by decide) (fun c4 => ?_) (fun c4 => ?_)
  · have hf := fk c4 hf
    exact hx0 _ _ (Option.some.inj hf).symm (lv_sub hl [0, 1, 2, 3] rfl)
  · have hf := tk c4 hf
    refine lv_iinc (v := (x3 + (1 : Int32))) (lv' := [(3, .int (x3 + (1 : Int32))), (0, .ref a_m), (1, .int x1), (2, .int x2)]) hx hb dX11_firstOf_21 hl (k := 3) rfl (iinc_eq (by decide)) (by decide) rfl (fun ls hl => ?_)
    refine lv_goto (tgt := 13) hx hb dX11_firstOf_24 (by decide) ?_
    exact hk _ _ (Option.some.inj hf).symm (lv_sub hl [1, 2, 3, 0] rfl)
set_option maxHeartbeats 4000000 in
set_option maxRecDepth 100000 in
theorem L_X11_firstOf_13_W {m_words : Int32} {m_kindNow : Int32} {m_secretNow : Int32} {m_guessed : Int32} {m_left : Int32} {m_wrong : Int32} {m_noteMany : Int32} {m_markMany : Int32} {m_typed : Int32} {m_readAt : Int32} {m_readNumber : Int32} {m_undoMany : Int32} {m_lastGuesses : Int32} {m_above : Int64} {m_below : Int64} {m_refused : (Nat → Int32)} {m_codes : (Nat → Int32)} {m_noted : (Nat → Int32)} {m_marked : (Nat → Int32)} {m_masks : (Nat → Int32)} {m_text : (Nat → Int32)} {m_before : (Nat → Int32)} {m_ahead : (Nat → Int32)} {m_aside : (Nat → Int32)} {m_sure : (Nat → Int32)} {m_wrongs : (Nat → Int32)} {m_says : (Nat → Int32)} {m_evening : (Nat → Int32)} {m_images : (Nat → Int32)} {x1 : Int32} {x2 : Int32} (CF : CallFix p m c cX11_firstOf 5 s args wsAll RX11) (hG : Gd D cI cB cT s) {o : Int32} (hx0 : ∀ (ls : Array Slot), lv_has ls 5 [(0, .ref a_m), (1, .int x1), (2, .int x2), (3, .int o)] → W p l e rm_X11_firstOf s m args below meth c s.heap [] 0 0 Q (F0 m 27 ls [])) : ∀ (n : Nat) (x3 : Int32) (ls : Array Slot), va_P D vwCl (wd_m a_m a_m_refused a_m_codes a_m_noted a_m_marked a_m_masks a_m_text a_m_before a_m_ahead a_m_aside a_m_sure a_m_wrongs a_m_says a_m_evening a_m_images cI cB cT m_words m_kindNow m_secretNow m_guessed m_left m_wrong m_noteMany m_markMany m_typed m_readAt m_readNumber m_undoMany m_lastGuesses m_above m_below m_refused m_codes m_noted m_marked m_masks m_text m_before m_ahead m_aside m_sure m_wrongs m_says m_evening m_images) s.heap → lv_has ls 5 [(0, .ref a_m), (1, .int x1), (2, .int x2), (3, .int x3)] → lp (fun v => B_X11_firstOf_13 x1 v) n x3 = some o → W p l e rm_X11_firstOf s m args below meth c s.heap [] 0 0 Q (F0 m 13 ls []) := by
  intro n
  induction n with
  | zero =>
    intro x3 ls hP hl hf
    exact (lp_zero hf).elim
  | succ n ih =>
    intro x3 ls hP hl hf
    obtain ⟨z, hz, hf⟩ := lp_succ hf
    refine B_X11_firstOf_13_W CF hG ?_ ?_ hP hl hz
    · intro v' ls ez hl
      rcases hf with ⟨v2, ev, hf⟩ | ev
      · cases Sum.inl.inj (ez.symm.trans ev)
        exact ih v' ls hP hl hf
      · exact (lp_lr (ez.symm.trans ev)).elim
    · intro o' ls ez hl
      rcases hf with ⟨v2, ev, hf⟩ | ev
      · exact (lp_lr (ev.symm.trans ez)).elim
      · cases Sum.inr.inj (ez.symm.trans ev)
        exact hx0 ls  hl
set_option maxHeartbeats 4000000 in
set_option maxRecDepth 100000 in
theorem c_X11_firstOf (l : Launch) (D : va_G) (cI cB cT : ClassId) (a_m a_m_refused a_m_codes a_m_noted a_m_marked a_m_masks a_m_text a_m_before a_m_ahead a_m_aside a_m_sure a_m_wrongs a_m_says a_m_evening a_m_images : Nat) (m_words : Int32) (m_kindNow : Int32) (m_secretNow : Int32) (m_guessed : Int32) (m_left : Int32) (m_wrong : Int32) (m_noteMany : Int32) (m_markMany : Int32) (m_typed : Int32) (m_readAt : Int32) (m_readNumber : Int32) (m_undoMany : Int32) (m_lastGuesses : Int32) (m_above : Int64) (m_below : Int64) (m_refused : (Nat → Int32)) (m_codes : (Nat → Int32)) (m_noted : (Nat → Int32)) (m_marked : (Nat → Int32)) (m_masks : (Nat → Int32)) (m_text : (Nat → Int32)) (m_before : (Nat → Int32)) (m_ahead : (Nat → Int32)) (m_aside : (Nat → Int32)) (m_sure : (Nat → Int32)) (m_wrongs : (Nat → Int32)) (m_says : (Nat → Int32)) (m_evening : (Nat → Int32)) (m_images : (Nat → Int32)) (p1 : Int32) (p2 : Int32) {z : Int32} (hf : f_X11_firstOf m_words m_codes m_masks p1 p2 = some z) :
    Met l yX11_firstOf (Cond.code yX11_firstOf cX11_firstOf 5 (some .int) :: wsAll) rm_X11_firstOf (Pro [.ref a_m, .int p1, .int p2] D cI cB cT (wd_m a_m a_m_refused a_m_codes a_m_noted a_m_marked a_m_masks a_m_text a_m_before a_m_ahead a_m_aside a_m_sure a_m_wrongs a_m_says a_m_evening a_m_images cI cB cT m_words m_kindNow m_secretNow m_guessed m_left m_wrong m_noteMany m_markMany m_typed m_readAt m_readNumber m_undoMany m_lastGuesses m_above m_below m_refused m_codes m_noted m_marked m_masks m_text m_before m_ahead m_aside m_sure m_wrongs m_says m_evening m_images)) (Qr (some (.int z))) 0 0 (fun _ => False) := by
  refine ro_intro RX11 (by decide +kernel) rfl (Nat.le_of_ble_eq_true rfl) ?_
  intro p e s m below meth c ls CF hr hlk hG hP hl
  have hl : lv_has ls 5 [(0, .ref a_m), (1, .int p1), (2, .int p2)] := hl
  obtain ⟨hx, hb, hml, hown, hts⟩ := id CF
  unfold f_X11_firstOf at hf
  refine lv_iload_n hx hb dX11_firstOf_0 rfl (lv_at hl 1 rfl) ?_
  refine lv_if_ne (tgt := 11) hx hb dX11_firstOf_1 (by decide) (fun c1 => ?_) (fun c1 => ?_)
  · have hf := fk c1 hf
    refine lv_iconst (v := (0 : Int32)) hx hb dX11_firstOf_11 (by decide) ?_
    refine lv_istore_n (lv' := [(3, .int (0 : Int32)), (0, .ref a_m), (1, .int p1), (2, .int p2)]) hx hb dX11_firstOf_12 rfl hl (by decide) rfl (fun ls hl => ?_)
    obtain ⟨o5, e6, hf⟩ := lp_bind hf
    refine L_X11_firstOf_13_W CF hG ?_ KN _ _ hP (lv_sub hl [1, 2, 3, 0] rfl) e6
    intro ls hl
    refine lv_aload_n hx hb dX11_firstOf_27 rfl (lv_at hl 0 rfl) ?_
    refine va_get (D := D) (ci := 9) (v := .ref a_m_codes) (C := RX11) (T := TX11) (N := 29) hx hb hts fin_X11 hown hG.1 hP 0 ce_m_0 vq_9 9 (by decide) (hts _ wm_931) (fun _ h9 => h9) rfl dX11_firstOf_28 ?_
    refine lv_iload_n hx hb dX11_firstOf_31 rfl (lv_at hl 3 rfl) ?_
    obtain ⟨n7, hf⟩ := nk hf
    refine va_iald (f := m_codes) hx hb hG.1 hP 2 0 ce_m_2 rfl n7 dX11_firstOf_32 ?_
    refine lv_iconst (v := (0 : Int32)) hx hb dX11_firstOf_33 (by decide) ?_
    obtain ⟨o8, e9, hf⟩ := lp_bind hf
    refine ro_Si (x := o8) (As := [.int (m_codes (o5).toNatClampNeg), .int (0 : Int32)]) (rest := []) CF (c_X11_letterAt l D cI cB cT (m_codes (o5).toNatClampNeg) (0 : Int32) e9) ok_X11_letterAt wm_1052 ⟨rfl, rfl, Nat.le_of_ble_eq_true rfl, Nat.le_of_ble_eq_true rfl⟩ hG wd_E_P rfl hl.1 rfl (Nat.le_of_ble_eq_true rfl) ⟨Nat.zero_le _, Nat.zero_le _⟩ dX11_firstOf_34 ?_
    refine lv_istore (lv' := [(4, .int o8), (0, .ref a_m), (1, .int p1), (2, .int p2), (3, .int o5)]) hx hb dX11_firstOf_37 hl (by decide) rfl (fun ls hl => ?_)
    refine lv_iload_n hx hb dX11_firstOf_39 rfl (lv_at hl 3 rfl) ?_
    refine lv_iload hx hb dX11_firstOf_40 (lv_at hl 0 rfl) ?_
    obtain ⟨o10, e11, hf⟩ := lp_bind hf
    refine ro_Si (x := o10) (As := [.int p2, .int o8]) (rest := []) CF (c_X11_has l D cI cB cT p2 o8 e11) ok_X11_has wm_1133 ⟨rfl, rfl, Nat.le_of_ble_eq_true rfl, Nat.le_of_ble_eq_true rfl⟩ hG wd_E_P rfl hl.1 rfl (Nat.le_of_ble_eq_true rfl) ⟨Nat.zero_le _, Nat.zero_le _⟩ dX11_firstOf_42 ?_
    refine lv_if_eq (tgt := 57) hx hb dX11_firstOf_45 (by decide) (fun c12 => ?_) (fun c12 => ?_)
    · have hf := tk c12 hf
      refine lv_iload hx hb dX11_firstOf_57 (lv_at hl 0 rfl) ?_
      obtain rfl := Option.some.inj hf
      exact ro_iret CF hr hlk dX11_firstOf_59
    · have hf := fk c12 hf
      refine lv_aload_n hx hb dX11_firstOf_48 rfl (lv_at hl 1 rfl) ?_
      refine lv_iload_n hx hb dX11_firstOf_49 rfl (lv_at hl 2 rfl) ?_
      refine lv_iload_n hx hb dX11_firstOf_50 rfl (lv_at hl 3 rfl) ?_
      obtain ⟨o13, e14, hf⟩ := lp_bind hf
      refine ro_Vi (x := o13) (As := [.int p1, .int p2]) (rest := []) CF (c_X11_often l D cI cB cT a_m a_m_refused a_m_codes a_m_noted a_m_marked a_m_masks a_m_text a_m_before a_m_ahead a_m_aside a_m_sure a_m_wrongs a_m_says a_m_evening a_m_images m_words m_kindNow m_secretNow m_guessed m_left m_wrong m_noteMany m_markMany m_typed m_readAt m_readNumber m_undoMany m_lastGuesses m_above m_below m_refused m_codes m_noted m_marked m_masks m_text m_before m_ahead m_aside m_sure m_wrongs m_says m_evening m_images p1 p2 e14) ok_X11_often wm_1270 ⟨rfl, rfl, Nat.le_of_ble_eq_true rfl, Nat.le_of_ble_eq_true rfl⟩ hG hP 0 9 vq_9 rfl ce_m_0 rfl hl.1 rfl (Nat.le_of_ble_eq_true rfl) ⟨Nat.zero_le _, Nat.zero_le _⟩ dX11_firstOf_51 ?_
      refine lv_goto (tgt := 59) hx hb dX11_firstOf_54 (by decide) ?_
      obtain rfl := Option.some.inj hf
      exact ro_iret CF hr hlk dX11_firstOf_59
  · have hf := tk c1 hf
    refine lv_aload_n hx hb dX11_firstOf_4 rfl (lv_at hl 0 rfl) ?_
    refine lv_iload_n hx hb dX11_firstOf_5 rfl (lv_at hl 1 rfl) ?_
    refine lv_iload_n hx hb dX11_firstOf_6 rfl (lv_at hl 2 rfl) ?_
    obtain ⟨o15, e16, hf⟩ := lp_bind hf
    refine ro_Vi (x := o15) (As := [.int p1, .int p2]) (rest := []) CF (c_X11_often l D cI cB cT a_m a_m_refused a_m_codes a_m_noted a_m_marked a_m_masks a_m_text a_m_before a_m_ahead a_m_aside a_m_sure a_m_wrongs a_m_says a_m_evening a_m_images m_words m_kindNow m_secretNow m_guessed m_left m_wrong m_noteMany m_markMany m_typed m_readAt m_readNumber m_undoMany m_lastGuesses m_above m_below m_refused m_codes m_noted m_marked m_masks m_text m_before m_ahead m_aside m_sure m_wrongs m_says m_evening m_images p1 p2 e16) ok_X11_often wm_1270 ⟨rfl, rfl, Nat.le_of_ble_eq_true rfl, Nat.le_of_ble_eq_true rfl⟩ hG hP 0 9 vq_9 rfl ce_m_0 rfl hl.1 rfl (Nat.le_of_ble_eq_true rfl) ⟨Nat.zero_le _, Nat.zero_le _⟩ dX11_firstOf_7 ?_
    obtain rfl := Option.some.inj hf
    exact ro_iret CF hr hlk dX11_firstOf_10
end M_X11_firstOf
section M_X11_halving
variable {p : Program} {l : Launch} {e : Env} {s : State} {m : MethodId} {args : Array Value} {below : List Frame} {meth : Method} {c : Code} {Q : State → Prop} {A : Nat → Prop} {D : va_G} {cI cB cT : ClassId}
variable {a_m a_m_refused a_m_codes a_m_noted a_m_marked a_m_masks a_m_text a_m_before a_m_ahead a_m_aside a_m_sure a_m_wrongs a_m_says a_m_evening a_m_images : Nat}
def rm_X11_halving : Room := { frames := 3, cells := 0, slots := 0, locals := 69 }
def J_X11_halving_59 (x3 : Int32) (x4 : Int32) (x5 : Int32) (y0 : Int32) : Option ((Int32 × Int32 × Int32) ⊕ (Int32)) := (if x4 ≤ y0 then (if x4 ≤ y0 then some (Sum.inl (x3, x4, (x5 + (1 : Int32)))) else some (Sum.inl (x3, y0, (x5 + (1 : Int32))))) else (if x4 ≤ y0 then some (Sum.inl (x5, x4, (x5 + (1 : Int32)))) else some (Sum.inl (x5, y0, (x5 + (1 : Int32))))))
def B_X11_halving_9 (m_words : Int32) (m_masks : (Nat → Int32)) (x1 : Int32) (x2 : Int32) (x3 : Int32) (x4 : Int32) (x5 : Int32) : Option ((Int32 × Int32 × Int32) ⊕ (Int32)) := (if (10 : Int32) ≤ x5 then some (Sum.inr x3) else ((f_X11_haveLetter m_words m_masks x1 x5).bind fun o2 => ((f_X11_bits x1).bind fun o4 => ((f_X11_has x2 x5).bind fun o6 => (if o6 = 0 then (if 0 ≤ (((2 : Int32) * o2) - o4) then J_X11_halving_59 x3 x4 x5 (((2 : Int32) * o2) - o4) else J_X11_halving_59 x3 x4 x5 (-(((2 : Int32) * o2) - o4))) else J_X11_halving_59 x3 x4 x5 (1048576 : Int32))))))
def f_X11_halving (m_words : Int32) (m_masks : (Nat → Int32)) (p1 : Int32) (p2 : Int32) : Option (Int32) := ((lp (fun v => B_X11_halving_9 m_words m_masks p1 p2 v.1 v.2.1 v.2.2) KN ((-1 : Int32), (1048576 : Int32), (0 : Int32))).bind fun o13 => some o13)
set_option maxHeartbeats 4000000 in
set_option maxRecDepth 100000 in
theorem J_X11_halving_59_W {m_words : Int32} {m_kindNow : Int32} {m_secretNow : Int32} {m_guessed : Int32} {m_left : Int32} {m_wrong : Int32} {m_noteMany : Int32} {m_markMany : Int32} {m_typed : Int32} {m_readAt : Int32} {m_readNumber : Int32} {m_undoMany : Int32} {m_lastGuesses : Int32} {m_above : Int64} {m_below : Int64} {m_refused : (Nat → Int32)} {m_codes : (Nat → Int32)} {m_noted : (Nat → Int32)} {m_marked : (Nat → Int32)} {m_masks : (Nat → Int32)} {m_text : (Nat → Int32)} {m_before : (Nat → Int32)} {m_ahead : (Nat → Int32)} {m_aside : (Nat → Int32)} {m_sure : (Nat → Int32)} {m_wrongs : (Nat → Int32)} {m_says : (Nat → Int32)} {m_evening : (Nat → Int32)} {m_images : (Nat → Int32)} {x1 : Int32} {x2 : Int32} {x3 : Int32} {x4 : Int32} {x5 : Int32} {y0 : Int32} (CF : CallFix p m c cX11_halving 8 s args wsAll RX11) (hG : Gd D cI cB cT s) {z : (Int32 × Int32 × Int32) ⊕ (Int32)} (hk : ∀ (v' : Int32 × Int32 × Int32) (ls : Array Slot), z = Sum.inl v' → lv_has ls 8 [(0, .ref a_m), (1, .int x1), (2, .int x2), (3, .int (v'.1)), (4, .int (v'.2.1)), (5, .int (v'.2.2))] → W p l e rm_X11_halving s m args below meth c s.heap [] 0 0 Q (F0 m 9 ls [])) (hx0 : ∀ (o' : Int32) (ls : Array Slot), z = Sum.inr o' → lv_has ls 8 [(3, .int (o'))] → W p l e rm_X11_halving s m args below meth c s.heap [] 0 0 Q (F0 m 97 ls [])) {ls : Array Slot} (hP : va_P D vwCl (wd_m a_m a_m_refused a_m_codes a_m_noted a_m_marked a_m_masks a_m_text a_m_before a_m_ahead a_m_aside a_m_sure a_m_wrongs a_m_says a_m_evening a_m_images cI cB cT m_words m_kindNow m_secretNow m_guessed m_left m_wrong m_noteMany m_markMany m_typed m_readAt m_readNumber m_undoMany m_lastGuesses m_above m_below m_refused m_codes m_noted m_marked m_masks m_text m_before m_ahead m_aside m_sure m_wrongs m_says m_evening m_images) s.heap) (hl : lv_has ls 8 [(0, .ref a_m), (1, .int x1), (2, .int x2), (3, .int x3), (4, .int x4), (5, .int x5)]) (hf : J_X11_halving_59 x3 x4 x5 y0 = some z) : W p l e rm_X11_halving s m args below meth c s.heap [] 0 0 Q (F0 m 59 ls [.int y0]) := by
  obtain ⟨hx, hb, hml, hown, hts⟩ := id CF
  unfold J_X11_halving_59 at hf
  refine lv_istore (lv' := [(7, .int y0), (0, .ref a_m), (1, .int x1), (2, .int x2), (3, .int x3), (4, .int x4), (5, .int x5)]) hx hb dX11_halving_59 hl (by decide) rfl (fun ls hl => ?_)
  refine lv_iload hx hb dX11_halving_61 (lv_at hl 0 rfl) ?_
  refine lv_iload hx hb dX11_halving_63 (lv_at hl 5 rfl) ?_
  refine lv_icmp_ge (tgt := 73) hx hb dX11_halving_65 (by decide) (fun c10 => ?_) (fun c10 => ?_)
  · have hf := tk c10 hf
    refine lv_iload_n hx hb dX11_halving_73 rfl (lv_at hl 4 rfl) ?_
    refine lv_istore_n (lv' := [(3, .int x3), (7, .int y0), (0, .ref a_m), (1, .int x1), (2, .int x2), (4, .int x4), (5, .int x5)]) hx hb dX11_halving_74 rfl hl (by decide) rfl (fun ls hl => ?_)
    refine lv_iload hx hb dX11_halving_75 (lv_at hl 1 rfl) ?_
    refine lv_iload hx hb dX11_halving_77 (lv_at hl 5 rfl) ?_
    refine lv_icmp_ge (tgt := 87) hx hb dX11_halving_79 (by decide) (fun c11 => ?_) (fun c11 => ?_)
    · have hf := tk c11 hf
      refine lv_iload hx hb dX11_halving_87 (lv_at hl 5 rfl) ?_
      refine lv_istore (lv' := [(4, .int x4), (3, .int x3), (7, .int y0), (0, .ref a_m), (1, .int x1), (2, .int x2), (5, .int x5)]) hx hb dX11_halving_89 hl (by decide) rfl (fun ls hl => ?_)
      refine lv_iinc (v := (x5 + (1 : Int32))) (lv' := [(5, .int (x5 + (1 : Int32))), (4, .int x4), (3, .int x3), (7, .int y0), (0, .ref a_m), (1, .int x1), (2, .int x2)]) hx hb dX11_halving_91 hl (k := 6) rfl (iinc_eq (by decide)) (by decide) rfl (fun ls hl => ?_)
      refine lv_goto (tgt := 9) hx hb dX11_halving_94 (by decide) ?_
      exact hk _ _ (Option.some.inj hf).symm (lv_sub hl [4, 5, 6, 2, 1, 0] rfl)
    · have hf := fk c11 hf
      refine lv_iload hx hb dX11_halving_82 (lv_at hl 1 rfl) ?_
      refine lv_goto (tgt := 89) hx hb dX11_halving_84 (by decide) ?_
      refine lv_istore (lv' := [(4, .int y0), (3, .int x3), (7, .int y0), (0, .ref a_m), (1, .int x1), (2, .int x2), (5, .int x5)]) hx hb dX11_halving_89 hl (by decide) rfl (fun ls hl => ?_)
      refine lv_iinc (v := (x5 + (1 : Int32))) (lv' := [(5, .int (x5 + (1 : Int32))), (4, .int y0), (3, .int x3), (7, .int y0), (0, .ref a_m), (1, .int x1), (2, .int x2)]) hx hb dX11_halving_91 hl (k := 6) rfl (iinc_eq (by decide)) (by decide) rfl (fun ls hl => ?_)
      refine lv_goto (tgt := 9) hx hb dX11_halving_94 (by decide) ?_
      exact hk _ _ (Option.some.inj hf).symm (lv_sub hl [4, 5, 6, 2, 1, 0] rfl)
  · have hf := fk c10 hf
    refine lv_iload hx hb dX11_halving_68 (lv_at hl 6 rfl) ?_
    refine lv_goto (tgt := 74) hx hb dX11_halving_70 (by decide) ?_
    refine lv_istore_n (lv' := [(3, .int x5), (7, .int y0), (0, .ref a_m), (1, .int x1), (2, .int x2), (4, .int x4), (5, .int x5)]) hx hb dX11_halving_74 rfl hl (by decide) rfl (fun ls hl => ?_)
    refine lv_iload hx hb dX11_halving_75 (lv_at hl 1 rfl) ?_
    refine lv_iload hx hb dX11_halving_77 (lv_at hl 5 rfl) ?_
    refine lv_icmp_ge (tgt := 87) hx hb dX11_halving_79 (by decide) (fun c12 => ?_) (fun c12 => ?_)
    · have hf := tk c12 hf
      refine lv_iload hx hb dX11_halving_87 (lv_at hl 5 rfl) ?_
      refine lv_istore (lv' := [(4, .int x4), (3, .int x5), (7, .int y0), (0, .ref a_m), (1, .int x1), (2, .int x2), (5, .int x5)]) hx hb dX11_halving_89 hl (by decide) rfl (fun ls hl => ?_)
      refine lv_iinc (v := (x5 + (1 : Int32))) (lv' := [(5, .int (x5 + (1 : Int32))), (4, .int x4), (3, .int x5), (7, .int y0), (0, .ref a_m), (1, .int x1), (2, .int x2)]) hx hb dX11_halving_91 hl (k := 6) rfl (iinc_eq (by decide)) (by decide) rfl (fun ls hl => ?_)
      refine lv_goto (tgt := 9) hx hb dX11_halving_94 (by decide) ?_
      exact hk _ _ (Option.some.inj hf).symm (lv_sub hl [4, 5, 6, 2, 1, 0] rfl)
    · have hf := fk c12 hf
      refine lv_iload hx hb dX11_halving_82 (lv_at hl 1 rfl) ?_
      refine lv_goto (tgt := 89) hx hb dX11_halving_84 (by decide) ?_
      refine lv_istore (lv' := [(4, .int y0), (3, .int x5), (7, .int y0), (0, .ref a_m), (1, .int x1), (2, .int x2), (5, .int x5)]) hx hb dX11_halving_89 hl (by decide) rfl (fun ls hl => ?_)
      refine lv_iinc (v := (x5 + (1 : Int32))) (lv' := [(5, .int (x5 + (1 : Int32))), (4, .int y0), (3, .int x5), (7, .int y0), (0, .ref a_m), (1, .int x1), (2, .int x2)]) hx hb dX11_halving_91 hl (k := 6) rfl (iinc_eq (by decide)) (by decide) rfl (fun ls hl => ?_)
      refine lv_goto (tgt := 9) hx hb dX11_halving_94 (by decide) ?_
      exact hk _ _ (Option.some.inj hf).symm (lv_sub hl [4, 5, 6, 2, 1, 0] rfl)
set_option maxHeartbeats 4000000 in
set_option maxRecDepth 100000 in
theorem B_X11_halving_9_W {m_words : Int32} {m_kindNow : Int32} {m_secretNow : Int32} {m_guessed : Int32} {m_left : Int32} {m_wrong : Int32} {m_noteMany : Int32} {m_markMany : Int32} {m_typed : Int32} {m_readAt : Int32} {m_readNumber : Int32} {m_undoMany : Int32} {m_lastGuesses : Int32} {m_above : Int64} {m_below : Int64} {m_refused : (Nat → Int32)} {m_codes : (Nat → Int32)} {m_noted : (Nat → Int32)} {m_marked : (Nat → Int32)} {m_masks : (Nat → Int32)} {m_text : (Nat → Int32)} {m_before : (Nat → Int32)} {m_ahead : (Nat → Int32)} {m_aside : (Nat → Int32)} {m_sure : (Nat → Int32)} {m_wrongs : (Nat → Int32)} {m_says : (Nat → Int32)} {m_evening : (Nat → Int32)} {m_images : (Nat → Int32)} {x1 : Int32} {x2 : Int32} {x3 : Int32} {x4 : Int32} {x5 : Int32} (CF : CallFix p m c cX11_halving 8 s args wsAll RX11) (hG : Gd D cI cB cT s) {z : (Int32 × Int32 × Int32) ⊕ (Int32)} (hk : ∀ (v' : Int32 × Int32 × Int32) (ls : Array Slot), z = Sum.inl v' → lv_has ls 8 [(0, .ref a_m), (1, .int x1), (2, .int x2), (3, .int (v'.1)), (4, .int (v'.2.1)), (5, .int (v'.2.2))] → W p l e rm_X11_halving s m args below meth c s.heap [] 0 0 Q (F0 m 9 ls [])) (hx0 : ∀ (o' : Int32) (ls : Array Slot), z = Sum.inr o' → lv_has ls 8 [(3, .int (o'))] → W p l e rm_X11_halving s m args below meth c s.heap [] 0 0 Q (F0 m 97 ls [])) {ls : Array Slot} (hP : va_P D vwCl (wd_m a_m a_m_refused a_m_codes a_m_noted a_m_marked a_m_masks a_m_text a_m_before a_m_ahead a_m_aside a_m_sure a_m_wrongs a_m_says a_m_evening a_m_images cI cB cT m_words m_kindNow m_secretNow m_guessed m_left m_wrong m_noteMany m_markMany m_typed m_readAt m_readNumber m_undoMany m_lastGuesses m_above m_below m_refused m_codes m_noted m_marked m_masks m_text m_before m_ahead m_aside m_sure m_wrongs m_says m_evening m_images) s.heap) (hl : lv_has ls 8 [(0, .ref a_m), (1, .int x1), (2, .int x2), (3, .int x3), (4, .int x4), (5, .int x5)]) (hf : B_X11_halving_9 m_words m_masks x1 x2 x3 x4 x5 = some z) : W p l e rm_X11_halving s m args below meth c s.heap [] 0 0 Q (F0 m 9 ls []) := by
  obtain ⟨hx, hb, hml, hown, hts⟩ := id CF
  unfold B_X11_halving_9 at hf
  refine lv_iload hx hb dX11_halving_9 (lv_at hl 5 rfl) ?_
  refine lv_bipush (v := (10 : Int32)) hx hb dX11_halving_11 (by decide) ?_
  refine lv_icmp_ge (tgt := 97) hx hb dX11_halving_13 (by decide) (fun c1 => ?_) (fun c1 => ?_)
  · have hf := tk c1 hf
    exact hx0 _ _ (Option.some.inj hf).symm (lv_sub hl [3] rfl)
  · have hf := fk c1 hf
    refine lv_iconst (v := (2 : Int32)) hx hb dX11_halving_16 (by decide) ?_
    refine lv_aload_n hx hb dX11_halving_17 rfl (lv_at hl 0 rfl) ?_
    refine lv_iload_n hx hb dX11_halving_18 rfl (lv_at hl 1 rfl) ?_
    refine lv_iload hx hb dX11_halving_19 (lv_at hl 5 rfl) ?_
    obtain ⟨o2, e3, hf⟩ := lp_bind hf
    refine ro_Vi (x := o2) (As := [.int x1, .int x5]) (rest := [.int (2 : Int32)]) CF (c_X11_haveLetter l D cI cB cT a_m a_m_refused a_m_codes a_m_noted a_m_marked a_m_masks a_m_text a_m_before a_m_ahead a_m_aside a_m_sure a_m_wrongs a_m_says a_m_evening a_m_images m_words m_kindNow m_secretNow m_guessed m_left m_wrong m_noteMany m_markMany m_typed m_readAt m_readNumber m_undoMany m_lastGuesses m_above m_below m_refused m_codes m_noted m_marked m_masks m_text m_before m_ahead m_aside m_sure m_wrongs m_says m_evening m_images x1 x5 e3) ok_X11_haveLetter wm_1274 ⟨rfl, rfl, Nat.le_of_ble_eq_true rfl, Nat.le_of_ble_eq_true rfl⟩ hG hP 0 9 vq_9 rfl ce_m_0 rfl hl.1 rfl (Nat.le_of_ble_eq_true rfl) ⟨Nat.zero_le _, Nat.zero_le _⟩ dX11_halving_21 ?_
    refine lv_imul hx hb dX11_halving_24 ?_
    refine lv_iload_n hx hb dX11_halving_25 rfl (lv_at hl 1 rfl) ?_
    obtain ⟨o4, e5, hf⟩ := lp_bind hf
    refine ro_Si (x := o4) (As := [.int x1]) (rest := [.int ((2 : Int32) * o2)]) CF (c_X11_bits l D cI cB cT x1 e5) ok_X11_bits wm_1144 ⟨rfl, rfl, Nat.le_of_ble_eq_true rfl, Nat.le_of_ble_eq_true rfl⟩ hG wd_E_P rfl hl.1 rfl (Nat.le_of_ble_eq_true rfl) ⟨Nat.zero_le _, Nat.zero_le _⟩ dX11_halving_26 ?_
    refine lv_isub hx hb dX11_halving_29 ?_
    refine lv_istore (lv' := [(6, .int (((2 : Int32) * o2) - o4)), (0, .ref a_m), (1, .int x1), (2, .int x2), (3, .int x3), (4, .int x4), (5, .int x5)]) hx hb dX11_halving_30 hl (by decide) rfl (fun ls hl => ?_)
    refine lv_iload_n hx hb dX11_halving_32 rfl (lv_at hl 3 rfl) ?_
    refine lv_iload hx hb dX11_halving_33 (lv_at hl 6 rfl) ?_
    obtain ⟨o6, e7, hf⟩ := lp_bind hf
    refine ro_Si (x := o6) (As := [.int x2, .int x5]) (rest := []) CF (c_X11_has l D cI cB cT x2 x5 e7) ok_X11_has wm_1133 ⟨rfl, rfl, Nat.le_of_ble_eq_true rfl, Nat.le_of_ble_eq_true rfl⟩ hG wd_E_P rfl hl.1 rfl (Nat.le_of_ble_eq_true rfl) ⟨Nat.zero_le _, Nat.zero_le _⟩ dX11_halving_35 ?_
    refine lv_if_eq (tgt := 46) hx hb dX11_halving_38 (by decide) (fun c8 => ?_) (fun c8 => ?_)
    · have hf := tk c8 hf
      refine lv_iload hx hb dX11_halving_46 (lv_at hl 0 rfl) ?_
      refine lv_if_ge (tgt := 57) hx hb dX11_halving_48 (by decide) (fun c9 => ?_) (fun c9 => ?_)
      · have hf := tk c9 hf
        refine lv_iload hx hb dX11_halving_57 (lv_at hl 0 rfl) ?_
        exact J_X11_halving_59_W CF hG hk hx0 hP (lv_sub hl [1, 2, 3, 4, 5, 6] rfl) hf
      · have hf := fk c9 hf
        refine lv_iload hx hb dX11_halving_51 (lv_at hl 0 rfl) ?_
        refine lv_ineg hx hb dX11_halving_53 ?_
        refine lv_goto (tgt := 59) hx hb dX11_halving_54 (by decide) ?_
        exact J_X11_halving_59_W CF hG hk hx0 hP (lv_sub hl [1, 2, 3, 4, 5, 6] rfl) hf
    · have hf := fk c8 hf
      refine lv_ldc (v := (1048576 : Int32)) hx hb hown (hts _ wm_1242) dX11_halving_41 ?_
      refine lv_goto (tgt := 59) hx hb dX11_halving_43 (by decide) ?_
      exact J_X11_halving_59_W CF hG hk hx0 hP (lv_sub hl [1, 2, 3, 4, 5, 6] rfl) hf
set_option maxHeartbeats 4000000 in
set_option maxRecDepth 100000 in
theorem L_X11_halving_9_W {m_words : Int32} {m_kindNow : Int32} {m_secretNow : Int32} {m_guessed : Int32} {m_left : Int32} {m_wrong : Int32} {m_noteMany : Int32} {m_markMany : Int32} {m_typed : Int32} {m_readAt : Int32} {m_readNumber : Int32} {m_undoMany : Int32} {m_lastGuesses : Int32} {m_above : Int64} {m_below : Int64} {m_refused : (Nat → Int32)} {m_codes : (Nat → Int32)} {m_noted : (Nat → Int32)} {m_marked : (Nat → Int32)} {m_masks : (Nat → Int32)} {m_text : (Nat → Int32)} {m_before : (Nat → Int32)} {m_ahead : (Nat → Int32)} {m_aside : (Nat → Int32)} {m_sure : (Nat → Int32)} {m_wrongs : (Nat → Int32)} {m_says : (Nat → Int32)} {m_evening : (Nat → Int32)} {m_images : (Nat → Int32)} {x1 : Int32} {x2 : Int32} (CF : CallFix p m c cX11_halving 8 s args wsAll RX11) (hG : Gd D cI cB cT s) {o : Int32} (hx0 : ∀ (ls : Array Slot), lv_has ls 8 [(3, .int o)] → W p l e rm_X11_halving s m args below meth c s.heap [] 0 0 Q (F0 m 97 ls [])) : ∀ (n : Nat) (x3 : Int32) (x4 : Int32) (x5 : Int32) (ls : Array Slot), va_P D vwCl (wd_m a_m a_m_refused a_m_codes a_m_noted a_m_marked a_m_masks a_m_text a_m_before a_m_ahead a_m_aside a_m_sure a_m_wrongs a_m_says a_m_evening a_m_images cI cB cT m_words m_kindNow m_secretNow m_guessed m_left m_wrong m_noteMany m_markMany m_typed m_readAt m_readNumber m_undoMany m_lastGuesses m_above m_below m_refused m_codes m_noted m_marked m_masks m_text m_before m_ahead m_aside m_sure m_wrongs m_says m_evening m_images) s.heap → lv_has ls 8 [(0, .ref a_m), (1, .int x1), (2, .int x2), (3, .int x3), (4, .int x4), (5, .int x5)] → lp (fun v => B_X11_halving_9 m_words m_masks x1 x2 v.1 v.2.1 v.2.2) n (x3, x4, x5) = some o → W p l e rm_X11_halving s m args below meth c s.heap [] 0 0 Q (F0 m 9 ls []) := by
  intro n
  induction n with
  | zero =>
    intro x3 x4 x5 ls hP hl hf
    exact (lp_zero hf).elim
  | succ n ih =>
    intro x3 x4 x5 ls hP hl hf
    obtain ⟨z, hz, hf⟩ := lp_succ hf
    refine B_X11_halving_9_W CF hG ?_ ?_ hP hl hz
    · intro v' ls ez hl
      rcases hf with ⟨v2, ev, hf⟩ | ev
      · cases Sum.inl.inj (ez.symm.trans ev)
        exact ih v'.1 v'.2.1 v'.2.2 ls hP hl hf
      · exact (lp_lr (ez.symm.trans ev)).elim
    · intro o' ls ez hl
      rcases hf with ⟨v2, ev, hf⟩ | ev
      · exact (lp_lr (ev.symm.trans ez)).elim
      · cases Sum.inr.inj (ez.symm.trans ev)
        exact hx0 ls  hl
set_option maxHeartbeats 4000000 in
set_option maxRecDepth 100000 in
theorem c_X11_halving (l : Launch) (D : va_G) (cI cB cT : ClassId) (a_m a_m_refused a_m_codes a_m_noted a_m_marked a_m_masks a_m_text a_m_before a_m_ahead a_m_aside a_m_sure a_m_wrongs a_m_says a_m_evening a_m_images : Nat) (m_words : Int32) (m_kindNow : Int32) (m_secretNow : Int32) (m_guessed : Int32) (m_left : Int32) (m_wrong : Int32) (m_noteMany : Int32) (m_markMany : Int32) (m_typed : Int32) (m_readAt : Int32) (m_readNumber : Int32) (m_undoMany : Int32) (m_lastGuesses : Int32) (m_above : Int64) (m_below : Int64) (m_refused : (Nat → Int32)) (m_codes : (Nat → Int32)) (m_noted : (Nat → Int32)) (m_marked : (Nat → Int32)) (m_masks : (Nat → Int32)) (m_text : (Nat → Int32)) (m_before : (Nat → Int32)) (m_ahead : (Nat → Int32)) (m_aside : (Nat → Int32)) (m_sure : (Nat → Int32)) (m_wrongs : (Nat → Int32)) (m_says : (Nat → Int32)) (m_evening : (Nat → Int32)) (m_images : (Nat → Int32)) (p1 : Int32) (p2 : Int32) {z : Int32} (hf : f_X11_halving m_words m_masks p1 p2 = some z) :
    Met l yX11_halving (Cond.code yX11_halving cX11_halving 8 (some .int) :: wsAll) rm_X11_halving (Pro [.ref a_m, .int p1, .int p2] D cI cB cT (wd_m a_m a_m_refused a_m_codes a_m_noted a_m_marked a_m_masks a_m_text a_m_before a_m_ahead a_m_aside a_m_sure a_m_wrongs a_m_says a_m_evening a_m_images cI cB cT m_words m_kindNow m_secretNow m_guessed m_left m_wrong m_noteMany m_markMany m_typed m_readAt m_readNumber m_undoMany m_lastGuesses m_above m_below m_refused m_codes m_noted m_marked m_masks m_text m_before m_ahead m_aside m_sure m_wrongs m_says m_evening m_images)) (Qr (some (.int z))) 0 0 (fun _ => False) := by
  refine ro_intro RX11 (by decide +kernel) rfl (Nat.le_of_ble_eq_true rfl) ?_
  intro p e s m below meth c ls CF hr hlk hG hP hl
  have hl : lv_has ls 8 [(0, .ref a_m), (1, .int p1), (2, .int p2)] := hl
  obtain ⟨hx, hb, hml, hown, hts⟩ := id CF
  unfold f_X11_halving at hf
  refine lv_iconst (v := (-1 : Int32)) hx hb dX11_halving_0 (by decide) ?_
  refine lv_istore_n (lv' := [(3, .int (-1 : Int32)), (0, .ref a_m), (1, .int p1), (2, .int p2)]) hx hb dX11_halving_1 rfl hl (by decide) rfl (fun ls hl => ?_)
  refine lv_ldc (v := (1048576 : Int32)) hx hb hown (hts _ wm_1242) dX11_halving_2 ?_
  refine lv_istore (lv' := [(4, .int (1048576 : Int32)), (3, .int (-1 : Int32)), (0, .ref a_m), (1, .int p1), (2, .int p2)]) hx hb dX11_halving_4 hl (by decide) rfl (fun ls hl => ?_)
  refine lv_iconst (v := (0 : Int32)) hx hb dX11_halving_6 (by decide) ?_
  refine lv_istore (lv' := [(5, .int (0 : Int32)), (4, .int (1048576 : Int32)), (3, .int (-1 : Int32)), (0, .ref a_m), (1, .int p1), (2, .int p2)]) hx hb dX11_halving_7 hl (by decide) rfl (fun ls hl => ?_)
  obtain ⟨o13, e14, hf⟩ := lp_bind hf
  refine L_X11_halving_9_W CF hG ?_ KN _ _ _ _ hP (lv_sub hl [3, 4, 5, 2, 1, 0] rfl) e14
  intro ls hl
  refine lv_iload_n hx hb dX11_halving_97 rfl (lv_at hl 0 rfl) ?_
  obtain rfl := Option.some.inj hf
  exact ro_iret CF hr hlk dX11_halving_98
end M_X11_halving
section M_X11_surest
variable {p : Program} {l : Launch} {e : Env} {s : State} {m : MethodId} {args : Array Value} {below : List Frame} {meth : Method} {c : Code} {Q : State → Prop} {A : Nat → Prop} {D : va_G} {cI cB cT : ClassId}
variable {a_m a_m_refused a_m_codes a_m_noted a_m_marked a_m_masks a_m_text a_m_before a_m_ahead a_m_aside a_m_sure a_m_wrongs a_m_says a_m_evening a_m_images : Nat}
def rm_X11_surest : Room := { frames := 4, cells := 0, slots := 0, locals := 95 }
def B_X11_surest_2 (m_words : Int32) (m_masks : (Nat → Int32)) (x1 : Int32) (x2 : Int32) (x3 : Int32) : Option ((Int32) ⊕ (Nat × Int32)) := (if (10 : Int32) ≤ x3 then some (Sum.inr (1, x3)) else ((f_X11_has x2 x3).bind fun o2 => (if o2 = 0 then ((f_X11_haveLetter m_words m_masks x1 x3).bind fun o5 => ((f_X11_bits x1).bind fun o7 => (if o5 = o7 then some (Sum.inr (0, x3)) else some (Sum.inl (x3 + (1 : Int32)))))) else some (Sum.inl (x3 + (1 : Int32))))))
def f_X11_surest (m_words : Int32) (m_masks : (Nat → Int32)) (p1 : Int32) (p2 : Int32) : Option (Int32) := ((lp (fun v => B_X11_surest_2 m_words m_masks p1 p2 v) KN (0 : Int32)).bind fun o10 => (if o10.1 = 0 then some o10.2 else ((f_X11_often m_words m_masks p1 p2).bind fun o12 => some o12)))
set_option maxHeartbeats 4000000 in
set_option maxRecDepth 100000 in
theorem B_X11_surest_2_W {m_words : Int32} {m_kindNow : Int32} {m_secretNow : Int32} {m_guessed : Int32} {m_left : Int32} {m_wrong : Int32} {m_noteMany : Int32} {m_markMany : Int32} {m_typed : Int32} {m_readAt : Int32} {m_readNumber : Int32} {m_undoMany : Int32} {m_lastGuesses : Int32} {m_above : Int64} {m_below : Int64} {m_refused : (Nat → Int32)} {m_codes : (Nat → Int32)} {m_noted : (Nat → Int32)} {m_marked : (Nat → Int32)} {m_masks : (Nat → Int32)} {m_text : (Nat → Int32)} {m_before : (Nat → Int32)} {m_ahead : (Nat → Int32)} {m_aside : (Nat → Int32)} {m_sure : (Nat → Int32)} {m_wrongs : (Nat → Int32)} {m_says : (Nat → Int32)} {m_evening : (Nat → Int32)} {m_images : (Nat → Int32)} {x1 : Int32} {x2 : Int32} {x3 : Int32} (CF : CallFix p m c cX11_surest 4 s args wsAll RX11) (hG : Gd D cI cB cT s) {z : (Int32) ⊕ (Nat × Int32)} (hk : ∀ (v' : Int32) (ls : Array Slot), z = Sum.inl v' → lv_has ls 4 [(0, .ref a_m), (1, .int x1), (2, .int x2), (3, .int (v'))] → W p l e rm_X11_surest s m args below meth c s.heap [] 0 0 Q (F0 m 2 ls [])) (hx0 : ∀ (o' : Nat × Int32) (ls : Array Slot), z = Sum.inr o' → o'.1 = 0 → lv_has ls 4 [(3, .int (o'.2))] → W p l e rm_X11_surest s m args below meth c s.heap [] 0 0 Q (F0 m 29 ls [])) (hx1 : ∀ (o' : Nat × Int32) (ls : Array Slot), z = Sum.inr o' → o'.1 = 1 → lv_has ls 4 [(0, .ref a_m), (1, .int x1), (2, .int x2)] → W p l e rm_X11_surest s m args below meth c s.heap [] 0 0 Q (F0 m 37 ls [])) {ls : Array Slot} (hP : va_P D vwCl (wd_m a_m a_m_refused a_m_codes a_m_noted a_m_marked a_m_masks a_m_text a_m_before a_m_ahead a_m_aside a_m_sure a_m_wrongs a_m_says a_m_evening a_m_images cI cB cT m_words m_kindNow m_secretNow m_guessed m_left m_wrong m_noteMany m_markMany m_typed m_readAt m_readNumber m_undoMany m_lastGuesses m_above m_below m_refused m_codes m_noted m_marked m_masks m_text m_before m_ahead m_aside m_sure m_wrongs m_says m_evening m_images) s.heap) (hl : lv_has ls 4 [(0, .ref a_m), (1, .int x1), (2, .int x2), (3, .int x3)]) (hf : B_X11_surest_2 m_words m_masks x1 x2 x3 = some z) : W p l e rm_X11_surest s m args below meth c s.heap [] 0 0 Q (F0 m 2 ls []) := by
  obtain ⟨hx, hb, hml, hown, hts⟩ := id CF
  unfold B_X11_surest_2 at hf
  refine lv_iload_n hx hb dX11_surest_2 rfl (lv_at hl 3 rfl) ?_
  refine lv_bipush (v := (10 : Int32)) hx hb dX11_surest_3 (by decide) ?_
  refine lv_icmp_ge (tgt := 37) hx hb dX11_surest_5 (by decide) (fun c1 => ?_) (fun c1 => ?_)
  · have hf := tk c1 hf
    exact hx1 _ _ (Option.some.inj hf).symm rfl (lv_sub hl [0, 1, 2] rfl)
  · have hf := fk c1 hf
    refine lv_iload_n hx hb dX11_surest_8 rfl (lv_at hl 2 rfl) ?_
    refine lv_iload_n hx hb dX11_surest_9 rfl (lv_at hl 3 rfl) ?_
    obtain ⟨o2, e3, hf⟩ := lp_bind hf
    refine ro_Si (x := o2) (As := [.int x2, .int x3]) (rest := []) CF (c_X11_has l D cI cB cT x2 x3 e3) ok_X11_has wm_1133 ⟨rfl, rfl, Nat.le_of_ble_eq_true rfl, Nat.le_of_ble_eq_true rfl⟩ hG wd_E_P rfl hl.1 rfl (Nat.le_of_ble_eq_true rfl) ⟨Nat.zero_le _, Nat.zero_le _⟩ dX11_surest_10 ?_
    refine lv_if_ne (tgt := 31) hx hb dX11_surest_13 (by decide) (fun c4 => ?_) (fun c4 => ?_)
    · have hf := fk c4 hf
      refine lv_iinc (v := (x3 + (1 : Int32))) (lv' := [(3, .int (x3 + (1 : Int32))), (0, .ref a_m), (1, .int x1), (2, .int x2)]) hx hb dX11_surest_31 hl (k := 3) rfl (iinc_eq (by decide)) (by decide) rfl (fun ls hl => ?_)
      refine lv_goto (tgt := 2) hx hb dX11_surest_34 (by decide) ?_
      exact hk _ _ (Option.some.inj hf).symm (lv_sub hl [1, 2, 3, 0] rfl)
    · have hf := tk c4 hf
      refine lv_aload_n hx hb dX11_surest_16 rfl (lv_at hl 0 rfl) ?_
      refine lv_iload_n hx hb dX11_surest_17 rfl (lv_at hl 1 rfl) ?_
      refine lv_iload_n hx hb dX11_surest_18 rfl (lv_at hl 3 rfl) ?_
      obtain ⟨o5, e6, hf⟩ := lp_bind hf
      refine ro_Vi (x := o5) (As := [.int x1, .int x3]) (rest := []) CF (c_X11_haveLetter l D cI cB cT a_m a_m_refused a_m_codes a_m_noted a_m_marked a_m_masks a_m_text a_m_before a_m_ahead a_m_aside a_m_sure a_m_wrongs a_m_says a_m_evening a_m_images m_words m_kindNow m_secretNow m_guessed m_left m_wrong m_noteMany m_markMany m_typed m_readAt m_readNumber m_undoMany m_lastGuesses m_above m_below m_refused m_codes m_noted m_marked m_masks m_text m_before m_ahead m_aside m_sure m_wrongs m_says m_evening m_images x1 x3 e6) ok_X11_haveLetter wm_1274 ⟨rfl, rfl, Nat.le_of_ble_eq_true rfl, Nat.le_of_ble_eq_true rfl⟩ hG hP 0 9 vq_9 rfl ce_m_0 rfl hl.1 rfl (Nat.le_of_ble_eq_true rfl) ⟨Nat.zero_le _, Nat.zero_le _⟩ dX11_surest_19 ?_
      refine lv_iload_n hx hb dX11_surest_22 rfl (lv_at hl 1 rfl) ?_
      obtain ⟨o7, e8, hf⟩ := lp_bind hf
      refine ro_Si (x := o7) (As := [.int x1]) (rest := [.int o5]) CF (c_X11_bits l D cI cB cT x1 e8) ok_X11_bits wm_1144 ⟨rfl, rfl, Nat.le_of_ble_eq_true rfl, Nat.le_of_ble_eq_true rfl⟩ hG wd_E_P rfl hl.1 rfl (Nat.le_of_ble_eq_true rfl) ⟨Nat.zero_le _, Nat.zero_le _⟩ dX11_surest_23 ?_
      refine lv_icmp_ne (tgt := 31) hx hb dX11_surest_26 (by decide) (fun c9 => ?_) (fun c9 => ?_)
      · have hf := fk c9 hf
        refine lv_iinc (v := (x3 + (1 : Int32))) (lv' := [(3, .int (x3 + (1 : Int32))), (0, .ref a_m), (1, .int x1), (2, .int x2)]) hx hb dX11_surest_31 hl (k := 3) rfl (iinc_eq (by decide)) (by decide) rfl (fun ls hl => ?_)
        refine lv_goto (tgt := 2) hx hb dX11_surest_34 (by decide) ?_
        exact hk _ _ (Option.some.inj hf).symm (lv_sub hl [1, 2, 3, 0] rfl)
      · have hf := tk c9 hf
        exact hx0 _ _ (Option.some.inj hf).symm rfl (lv_sub hl [3] rfl)
set_option maxHeartbeats 4000000 in
set_option maxRecDepth 100000 in
theorem L_X11_surest_2_W {m_words : Int32} {m_kindNow : Int32} {m_secretNow : Int32} {m_guessed : Int32} {m_left : Int32} {m_wrong : Int32} {m_noteMany : Int32} {m_markMany : Int32} {m_typed : Int32} {m_readAt : Int32} {m_readNumber : Int32} {m_undoMany : Int32} {m_lastGuesses : Int32} {m_above : Int64} {m_below : Int64} {m_refused : (Nat → Int32)} {m_codes : (Nat → Int32)} {m_noted : (Nat → Int32)} {m_marked : (Nat → Int32)} {m_masks : (Nat → Int32)} {m_text : (Nat → Int32)} {m_before : (Nat → Int32)} {m_ahead : (Nat → Int32)} {m_aside : (Nat → Int32)} {m_sure : (Nat → Int32)} {m_wrongs : (Nat → Int32)} {m_says : (Nat → Int32)} {m_evening : (Nat → Int32)} {m_images : (Nat → Int32)} {x1 : Int32} {x2 : Int32} (CF : CallFix p m c cX11_surest 4 s args wsAll RX11) (hG : Gd D cI cB cT s) {o : Nat × Int32} (hx0 : ∀ (ls : Array Slot), o.1 = 0 → lv_has ls 4 [(3, .int o.2)] → W p l e rm_X11_surest s m args below meth c s.heap [] 0 0 Q (F0 m 29 ls [])) (hx1 : ∀ (ls : Array Slot), o.1 = 1 → lv_has ls 4 [(0, .ref a_m), (1, .int x1), (2, .int x2)] → W p l e rm_X11_surest s m args below meth c s.heap [] 0 0 Q (F0 m 37 ls [])) : ∀ (n : Nat) (x3 : Int32) (ls : Array Slot), va_P D vwCl (wd_m a_m a_m_refused a_m_codes a_m_noted a_m_marked a_m_masks a_m_text a_m_before a_m_ahead a_m_aside a_m_sure a_m_wrongs a_m_says a_m_evening a_m_images cI cB cT m_words m_kindNow m_secretNow m_guessed m_left m_wrong m_noteMany m_markMany m_typed m_readAt m_readNumber m_undoMany m_lastGuesses m_above m_below m_refused m_codes m_noted m_marked m_masks m_text m_before m_ahead m_aside m_sure m_wrongs m_says m_evening m_images) s.heap → lv_has ls 4 [(0, .ref a_m), (1, .int x1), (2, .int x2), (3, .int x3)] → lp (fun v => B_X11_surest_2 m_words m_masks x1 x2 v) n x3 = some o → W p l e rm_X11_surest s m args below meth c s.heap [] 0 0 Q (F0 m 2 ls []) := by
  intro n
  induction n with
  | zero =>
    intro x3 ls hP hl hf
    exact (lp_zero hf).elim
  | succ n ih =>
    intro x3 ls hP hl hf
    obtain ⟨z, hz, hf⟩ := lp_succ hf
    refine B_X11_surest_2_W CF hG ?_ ?_ ?_ hP hl hz
    · intro v' ls ez hl
      rcases hf with ⟨v2, ev, hf⟩ | ev
      · cases Sum.inl.inj (ez.symm.trans ev)
        exact ih v' ls hP hl hf
      · exact (lp_lr (ez.symm.trans ev)).elim
    · intro o' ls ez et hl
      rcases hf with ⟨v2, ev, hf⟩ | ev
      · exact (lp_lr (ev.symm.trans ez)).elim
      · cases Sum.inr.inj (ez.symm.trans ev)
        exact hx0 ls et  hl
    · intro o' ls ez et hl
      rcases hf with ⟨v2, ev, hf⟩ | ev
      · exact (lp_lr (ev.symm.trans ez)).elim
      · cases Sum.inr.inj (ez.symm.trans ev)
        exact hx1 ls et  hl
set_option maxHeartbeats 4000000 in
set_option maxRecDepth 100000 in
theorem c_X11_surest (l : Launch) (D : va_G) (cI cB cT : ClassId) (a_m a_m_refused a_m_codes a_m_noted a_m_marked a_m_masks a_m_text a_m_before a_m_ahead a_m_aside a_m_sure a_m_wrongs a_m_says a_m_evening a_m_images : Nat) (m_words : Int32) (m_kindNow : Int32) (m_secretNow : Int32) (m_guessed : Int32) (m_left : Int32) (m_wrong : Int32) (m_noteMany : Int32) (m_markMany : Int32) (m_typed : Int32) (m_readAt : Int32) (m_readNumber : Int32) (m_undoMany : Int32) (m_lastGuesses : Int32) (m_above : Int64) (m_below : Int64) (m_refused : (Nat → Int32)) (m_codes : (Nat → Int32)) (m_noted : (Nat → Int32)) (m_marked : (Nat → Int32)) (m_masks : (Nat → Int32)) (m_text : (Nat → Int32)) (m_before : (Nat → Int32)) (m_ahead : (Nat → Int32)) (m_aside : (Nat → Int32)) (m_sure : (Nat → Int32)) (m_wrongs : (Nat → Int32)) (m_says : (Nat → Int32)) (m_evening : (Nat → Int32)) (m_images : (Nat → Int32)) (p1 : Int32) (p2 : Int32) {z : Int32} (hf : f_X11_surest m_words m_masks p1 p2 = some z) :
    Met l yX11_surest (Cond.code yX11_surest cX11_surest 4 (some .int) :: wsAll) rm_X11_surest (Pro [.ref a_m, .int p1, .int p2] D cI cB cT (wd_m a_m a_m_refused a_m_codes a_m_noted a_m_marked a_m_masks a_m_text a_m_before a_m_ahead a_m_aside a_m_sure a_m_wrongs a_m_says a_m_evening a_m_images cI cB cT m_words m_kindNow m_secretNow m_guessed m_left m_wrong m_noteMany m_markMany m_typed m_readAt m_readNumber m_undoMany m_lastGuesses m_above m_below m_refused m_codes m_noted m_marked m_masks m_text m_before m_ahead m_aside m_sure m_wrongs m_says m_evening m_images)) (Qr (some (.int z))) 0 0 (fun _ => False) := by
  refine ro_intro RX11 (by decide +kernel) rfl (Nat.le_of_ble_eq_true rfl) ?_
  intro p e s m below meth c ls CF hr hlk hG hP hl
  have hl : lv_has ls 4 [(0, .ref a_m), (1, .int p1), (2, .int p2)] := hl
  obtain ⟨hx, hb, hml, hown, hts⟩ := id CF
  unfold f_X11_surest at hf
  refine lv_iconst (v := (0 : Int32)) hx hb dX11_surest_0 (by decide) ?_
  refine lv_istore_n (lv' := [(3, .int (0 : Int32)), (0, .ref a_m), (1, .int p1), (2, .int p2)]) hx hb dX11_surest_1 rfl hl (by decide) rfl (fun ls hl => ?_)
  obtain ⟨o10, e11, hf⟩ := lp_bind hf
  refine L_X11_surest_2_W CF hG ?_ ?_ KN _ _ hP (lv_sub hl [1, 2, 3, 0] rfl) e11
  · intro ls et hl
    have hf := tk et hf
    refine lv_iload_n hx hb dX11_surest_29 rfl (lv_at hl 0 rfl) ?_
    obtain rfl := Option.some.inj hf
    exact ro_iret CF hr hlk dX11_surest_30
  · intro ls et hl
    have hf := fk (by rw [et]; decide) hf
    refine lv_aload_n hx hb dX11_surest_37 rfl (lv_at hl 0 rfl) ?_
    refine lv_iload_n hx hb dX11_surest_38 rfl (lv_at hl 1 rfl) ?_
    refine lv_iload_n hx hb dX11_surest_39 rfl (lv_at hl 2 rfl) ?_
    obtain ⟨o12, e13, hf⟩ := lp_bind hf
    refine ro_Vi (x := o12) (As := [.int p1, .int p2]) (rest := []) CF (c_X11_often l D cI cB cT a_m a_m_refused a_m_codes a_m_noted a_m_marked a_m_masks a_m_text a_m_before a_m_ahead a_m_aside a_m_sure a_m_wrongs a_m_says a_m_evening a_m_images m_words m_kindNow m_secretNow m_guessed m_left m_wrong m_noteMany m_markMany m_typed m_readAt m_readNumber m_undoMany m_lastGuesses m_above m_below m_refused m_codes m_noted m_marked m_masks m_text m_before m_ahead m_aside m_sure m_wrongs m_says m_evening m_images p1 p2 e13) ok_X11_often wm_1270 ⟨rfl, rfl, Nat.le_of_ble_eq_true rfl, Nat.le_of_ble_eq_true rfl⟩ hG hP 0 9 vq_9 rfl ce_m_0 rfl hl.1 rfl (Nat.le_of_ble_eq_true rfl) ⟨Nat.zero_le _, Nat.zero_le _⟩ dX11_surest_40 ?_
    obtain rfl := Option.some.inj hf
    exact ro_iret CF hr hlk dX11_surest_43
end M_X11_surest
section M_X11_nextBy
variable {p : Program} {l : Launch} {e : Env} {s : State} {m : MethodId} {args : Array Value} {below : List Frame} {meth : Method} {c : Code} {Q : State → Prop} {A : Nat → Prop} {D : va_G} {cI cB cT : ClassId}
variable {a_m a_m_refused a_m_codes a_m_noted a_m_marked a_m_masks a_m_text a_m_before a_m_ahead a_m_aside a_m_sure a_m_wrongs a_m_says a_m_evening a_m_images : Nat}
def rm_X11_nextBy : Room := { frames := 5, cells := 0, slots := 0, locals := 119 }
def f_X11_nextBy (m_words : Int32) (m_codes : (Nat → Int32)) (m_masks : (Nat → Int32)) (p1 : Int32) (p2 : Int32) (p3 : Int32) : Option (Int32) := (if p1 = (1 : Int32) then ((f_X11_often m_words m_masks p2 p3).bind fun o2 => some o2) else (if p1 = (2 : Int32) then ((f_X11_surest m_words m_masks p2 p3).bind fun o5 => some o5) else (if p1 = (3 : Int32) then ((f_X11_halving m_words m_masks p2 p3).bind fun o8 => some o8) else (if p1 = (4 : Int32) then ((f_X11_letterNotOf p3 (1 : Int32)).bind fun o11 => some o11) else (if p1 = (5 : Int32) then ((f_X11_firstOf m_words m_codes m_masks p2 p3).bind fun o14 => some o14) else ((f_X11_letterNotOf p3 (0 : Int32)).bind fun o16 => some o16))))))
set_option maxHeartbeats 4000000 in
set_option maxRecDepth 100000 in
theorem c_X11_nextBy (l : Launch) (D : va_G) (cI cB cT : ClassId) (a_m a_m_refused a_m_codes a_m_noted a_m_marked a_m_masks a_m_text a_m_before a_m_ahead a_m_aside a_m_sure a_m_wrongs a_m_says a_m_evening a_m_images : Nat) (m_words : Int32) (m_kindNow : Int32) (m_secretNow : Int32) (m_guessed : Int32) (m_left : Int32) (m_wrong : Int32) (m_noteMany : Int32) (m_markMany : Int32) (m_typed : Int32) (m_readAt : Int32) (m_readNumber : Int32) (m_undoMany : Int32) (m_lastGuesses : Int32) (m_above : Int64) (m_below : Int64) (m_refused : (Nat → Int32)) (m_codes : (Nat → Int32)) (m_noted : (Nat → Int32)) (m_marked : (Nat → Int32)) (m_masks : (Nat → Int32)) (m_text : (Nat → Int32)) (m_before : (Nat → Int32)) (m_ahead : (Nat → Int32)) (m_aside : (Nat → Int32)) (m_sure : (Nat → Int32)) (m_wrongs : (Nat → Int32)) (m_says : (Nat → Int32)) (m_evening : (Nat → Int32)) (m_images : (Nat → Int32)) (p1 : Int32) (p2 : Int32) (p3 : Int32) {z : Int32} (hf : f_X11_nextBy m_words m_codes m_masks p1 p2 p3 = some z) :
    Met l yX11_nextBy (Cond.code yX11_nextBy cX11_nextBy 4 (some .int) :: wsAll) rm_X11_nextBy (Pro [.ref a_m, .int p1, .int p2, .int p3] D cI cB cT (wd_m a_m a_m_refused a_m_codes a_m_noted a_m_marked a_m_masks a_m_text a_m_before a_m_ahead a_m_aside a_m_sure a_m_wrongs a_m_says a_m_evening a_m_images cI cB cT m_words m_kindNow m_secretNow m_guessed m_left m_wrong m_noteMany m_markMany m_typed m_readAt m_readNumber m_undoMany m_lastGuesses m_above m_below m_refused m_codes m_noted m_marked m_masks m_text m_before m_ahead m_aside m_sure m_wrongs m_says m_evening m_images)) (Qr (some (.int z))) 0 0 (fun _ => False) := by
  refine ro_intro RX11 (by decide +kernel) rfl (Nat.le_of_ble_eq_true rfl) ?_
  intro p e s m below meth c ls CF hr hlk hG hP hl
  have hl : lv_has ls 4 [(0, .ref a_m), (1, .int p1), (2, .int p2), (3, .int p3)] := hl
  obtain ⟨hx, hb, hml, hown, hts⟩ := id CF
  unfold f_X11_nextBy at hf
  refine lv_iload_n hx hb dX11_nextBy_0 rfl (lv_at hl 1 rfl) ?_
  by_cases c1 : p1 = (1 : Int32)
  · have hf := tk c1 hf
    refine lv_tableIn (off := 35) (tgt := 36) hx hb dX11_nextBy_1 (by rw [c1]; decide) (by rw [c1]; decide) (by rw [c1]; decide) (by decide) ?_
    refine lv_aload_n hx hb dX11_nextBy_36 rfl (lv_at hl 0 rfl) ?_
    refine lv_iload_n hx hb dX11_nextBy_37 rfl (lv_at hl 2 rfl) ?_
    refine lv_iload_n hx hb dX11_nextBy_38 rfl (lv_at hl 3 rfl) ?_
    obtain ⟨o2, e3, hf⟩ := lp_bind hf
    refine ro_Vi (x := o2) (As := [.int p2, .int p3]) (rest := []) CF (c_X11_often l D cI cB cT a_m a_m_refused a_m_codes a_m_noted a_m_marked a_m_masks a_m_text a_m_before a_m_ahead a_m_aside a_m_sure a_m_wrongs a_m_says a_m_evening a_m_images m_words m_kindNow m_secretNow m_guessed m_left m_wrong m_noteMany m_markMany m_typed m_readAt m_readNumber m_undoMany m_lastGuesses m_above m_below m_refused m_codes m_noted m_marked m_masks m_text m_before m_ahead m_aside m_sure m_wrongs m_says m_evening m_images p2 p3 e3) ok_X11_often wm_1270 ⟨rfl, rfl, Nat.le_of_ble_eq_true rfl, Nat.le_of_ble_eq_true rfl⟩ hG hP 0 9 vq_9 rfl ce_m_0 rfl hl.1 rfl (Nat.le_of_ble_eq_true rfl) ⟨Nat.zero_le _, Nat.zero_le _⟩ dX11_nextBy_39 ?_
    obtain rfl := Option.some.inj hf
    exact ro_iret CF hr hlk dX11_nextBy_42
  · have hf := fk c1 hf
    by_cases c4 : p1 = (2 : Int32)
    · have hf := tk c4 hf
      refine lv_tableIn (off := 42) (tgt := 43) hx hb dX11_nextBy_1 (by rw [c4]; decide) (by rw [c4]; decide) (by rw [c4]; decide) (by decide) ?_
      refine lv_aload_n hx hb dX11_nextBy_43 rfl (lv_at hl 0 rfl) ?_
      refine lv_iload_n hx hb dX11_nextBy_44 rfl (lv_at hl 2 rfl) ?_
      refine lv_iload_n hx hb dX11_nextBy_45 rfl (lv_at hl 3 rfl) ?_
      obtain ⟨o5, e6, hf⟩ := lp_bind hf
      refine ro_Vi (x := o5) (As := [.int p2, .int p3]) (rest := []) CF (c_X11_surest l D cI cB cT a_m a_m_refused a_m_codes a_m_noted a_m_marked a_m_masks a_m_text a_m_before a_m_ahead a_m_aside a_m_sure a_m_wrongs a_m_says a_m_evening a_m_images m_words m_kindNow m_secretNow m_guessed m_left m_wrong m_noteMany m_markMany m_typed m_readAt m_readNumber m_undoMany m_lastGuesses m_above m_below m_refused m_codes m_noted m_marked m_masks m_text m_before m_ahead m_aside m_sure m_wrongs m_says m_evening m_images p2 p3 e6) ok_X11_surest wm_1278 ⟨rfl, rfl, Nat.le_of_ble_eq_true rfl, Nat.le_of_ble_eq_true rfl⟩ hG hP 0 9 vq_9 rfl ce_m_0 rfl hl.1 rfl (Nat.le_of_ble_eq_true rfl) ⟨Nat.zero_le _, Nat.zero_le _⟩ dX11_nextBy_46 ?_
      obtain rfl := Option.some.inj hf
      exact ro_iret CF hr hlk dX11_nextBy_49
    · have hf := fk c4 hf
      by_cases c7 : p1 = (3 : Int32)
      · have hf := tk c7 hf
        refine lv_tableIn (off := 49) (tgt := 50) hx hb dX11_nextBy_1 (by rw [c7]; decide) (by rw [c7]; decide) (by rw [c7]; decide) (by decide) ?_
        refine lv_aload_n hx hb dX11_nextBy_50 rfl (lv_at hl 0 rfl) ?_
        refine lv_iload_n hx hb dX11_nextBy_51 rfl (lv_at hl 2 rfl) ?_
        refine lv_iload_n hx hb dX11_nextBy_52 rfl (lv_at hl 3 rfl) ?_
        obtain ⟨o8, e9, hf⟩ := lp_bind hf
        refine ro_Vi (x := o8) (As := [.int p2, .int p3]) (rest := []) CF (c_X11_halving l D cI cB cT a_m a_m_refused a_m_codes a_m_noted a_m_marked a_m_masks a_m_text a_m_before a_m_ahead a_m_aside a_m_sure a_m_wrongs a_m_says a_m_evening a_m_images m_words m_kindNow m_secretNow m_guessed m_left m_wrong m_noteMany m_markMany m_typed m_readAt m_readNumber m_undoMany m_lastGuesses m_above m_below m_refused m_codes m_noted m_marked m_masks m_text m_before m_ahead m_aside m_sure m_wrongs m_says m_evening m_images p2 p3 e9) ok_X11_halving wm_1282 ⟨rfl, rfl, Nat.le_of_ble_eq_true rfl, Nat.le_of_ble_eq_true rfl⟩ hG hP 0 9 vq_9 rfl ce_m_0 rfl hl.1 rfl (Nat.le_of_ble_eq_true rfl) ⟨Nat.zero_le _, Nat.zero_le _⟩ dX11_nextBy_53 ?_
        obtain rfl := Option.some.inj hf
        exact ro_iret CF hr hlk dX11_nextBy_56
      · have hf := fk c7 hf
        by_cases c10 : p1 = (4 : Int32)
        · have hf := tk c10 hf
          refine lv_tableIn (off := 56) (tgt := 57) hx hb dX11_nextBy_1 (by rw [c10]; decide) (by rw [c10]; decide) (by rw [c10]; decide) (by decide) ?_
          refine lv_iload_n hx hb dX11_nextBy_57 rfl (lv_at hl 3 rfl) ?_
          refine lv_iconst (v := (1 : Int32)) hx hb dX11_nextBy_58 (by decide) ?_
          obtain ⟨o11, e12, hf⟩ := lp_bind hf
          refine ro_Si (x := o11) (As := [.int p3, .int (1 : Int32)]) (rest := []) CF (c_X11_letterNotOf l D cI cB cT p3 (1 : Int32) e12) ok_X11_letterNotOf wm_1286 ⟨rfl, rfl, Nat.le_of_ble_eq_true rfl, Nat.le_of_ble_eq_true rfl⟩ hG wd_E_P rfl hl.1 rfl (Nat.le_of_ble_eq_true rfl) ⟨Nat.zero_le _, Nat.zero_le _⟩ dX11_nextBy_59 ?_
          obtain rfl := Option.some.inj hf
          exact ro_iret CF hr hlk dX11_nextBy_62
        · have hf := fk c10 hf
          by_cases c13 : p1 = (5 : Int32)
          · have hf := tk c13 hf
            refine lv_tableIn (off := 62) (tgt := 63) hx hb dX11_nextBy_1 (by rw [c13]; decide) (by rw [c13]; decide) (by rw [c13]; decide) (by decide) ?_
            refine lv_aload_n hx hb dX11_nextBy_63 rfl (lv_at hl 0 rfl) ?_
            refine lv_iload_n hx hb dX11_nextBy_64 rfl (lv_at hl 2 rfl) ?_
            refine lv_iload_n hx hb dX11_nextBy_65 rfl (lv_at hl 3 rfl) ?_
            obtain ⟨o14, e15, hf⟩ := lp_bind hf
            refine ro_Vi (x := o14) (As := [.int p2, .int p3]) (rest := []) CF (c_X11_firstOf l D cI cB cT a_m a_m_refused a_m_codes a_m_noted a_m_marked a_m_masks a_m_text a_m_before a_m_ahead a_m_aside a_m_sure a_m_wrongs a_m_says a_m_evening a_m_images m_words m_kindNow m_secretNow m_guessed m_left m_wrong m_noteMany m_markMany m_typed m_readAt m_readNumber m_undoMany m_lastGuesses m_above m_below m_refused m_codes m_noted m_marked m_masks m_text m_before m_ahead m_aside m_sure m_wrongs m_says m_evening m_images p2 p3 e15) ok_X11_firstOf wm_1289 ⟨rfl, rfl, Nat.le_of_ble_eq_true rfl, Nat.le_of_ble_eq_true rfl⟩ hG hP 0 9 vq_9 rfl ce_m_0 rfl hl.1 rfl (Nat.le_of_ble_eq_true rfl) ⟨Nat.zero_le _, Nat.zero_le _⟩ dX11_nextBy_66 ?_
            obtain rfl := Option.some.inj hf
            exact ro_iret CF hr hlk dX11_nextBy_69
          · have hf := fk c13 hf
            refine lv_tableOut (tgt := 70) hx hb dX11_nextBy_1 (sw_out (fun z h1 h2 h3 => ?_)) (by decide) ?_
            · have h4 : z = 1 ∨ z = 2 ∨ z = 3 ∨ z = 4 ∨ z = 5 := by omega
              rcases h4 with h4 | h4 | h4 | h4 | h4
              · exact c1 (Int32.toInt_inj.mp (by rw [h3, h4]; decide))
              · exact c4 (Int32.toInt_inj.mp (by rw [h3, h4]; decide))
              · exact c7 (Int32.toInt_inj.mp (by rw [h3, h4]; decide))
              · exact c10 (Int32.toInt_inj.mp (by rw [h3, h4]; decide))
              · exact c13 (Int32.toInt_inj.mp (by rw [h3, h4]; decide))
            · refine lv_iload_n hx hb dX11_nextBy_70 rfl (lv_at hl 3 rfl) ?_
              refine lv_iconst (v := (0 : Int32)) hx hb dX11_nextBy_71 (by decide) ?_
              obtain ⟨o16, e17, hf⟩ := lp_bind hf
              refine ro_Si (x := o16) (As := [.int p3, .int (0 : Int32)]) (rest := []) CF (c_X11_letterNotOf l D cI cB cT p3 (0 : Int32) e17) ok_X11_letterNotOf wm_1286 ⟨rfl, rfl, Nat.le_of_ble_eq_true rfl, Nat.le_of_ble_eq_true rfl⟩ hG wd_E_P rfl hl.1 rfl (Nat.le_of_ble_eq_true rfl) ⟨Nat.zero_le _, Nat.zero_le _⟩ dX11_nextBy_72 ?_
              obtain rfl := Option.some.inj hf
              exact ro_iret CF hr hlk dX11_nextBy_75
end M_X11_nextBy
section M_X11_next
variable {p : Program} {l : Launch} {e : Env} {s : State} {m : MethodId} {args : Array Value} {below : List Frame} {meth : Method} {c : Code} {Q : State → Prop} {A : Nat → Prop} {D : va_G} {cI cB cT : ClassId}
variable {a_m a_m_refused a_m_codes a_m_noted a_m_marked a_m_masks a_m_text a_m_before a_m_ahead a_m_aside a_m_sure a_m_wrongs a_m_says a_m_evening a_m_images : Nat}
def rm_X11_next : Room := { frames := 6, cells := 0, slots := 0, locals := 142 }
def f_X11_next (m_words : Int32) (m_guessed : Int32) (m_left : Int32) (m_refused : (Nat → Int32)) (m_codes : (Nat → Int32)) (m_masks : (Nat → Int32)) (p1 : Int32) : Option (Int32 × (Nat → Int32)) := ((f_X11_isKind p1).bind fun o1 => (if o1 = 0 then ((f_X11_bad m_refused).bind fun o4 => some (o4.1, o4.2)) else ((f_X11_nextBy m_words m_codes m_masks p1 m_left m_guessed).bind fun o6 => some (o6, m_refused))))
set_option maxHeartbeats 4000000 in
set_option maxRecDepth 100000 in
theorem c_X11_next (l : Launch) (D : va_G) (cI cB cT : ClassId) (sz : Nat) (a_m a_m_refused a_m_codes a_m_noted a_m_marked a_m_masks a_m_text a_m_before a_m_ahead a_m_aside a_m_sure a_m_wrongs a_m_says a_m_evening a_m_images : Nat) (m_words : Int32) (m_kindNow : Int32) (m_secretNow : Int32) (m_guessed : Int32) (m_left : Int32) (m_wrong : Int32) (m_noteMany : Int32) (m_markMany : Int32) (m_typed : Int32) (m_readAt : Int32) (m_readNumber : Int32) (m_undoMany : Int32) (m_lastGuesses : Int32) (m_above : Int64) (m_below : Int64) (m_refused : (Nat → Int32)) (m_codes : (Nat → Int32)) (m_noted : (Nat → Int32)) (m_marked : (Nat → Int32)) (m_masks : (Nat → Int32)) (m_text : (Nat → Int32)) (m_before : (Nat → Int32)) (m_ahead : (Nat → Int32)) (m_aside : (Nat → Int32)) (m_sure : (Nat → Int32)) (m_wrongs : (Nat → Int32)) (m_says : (Nat → Int32)) (m_evening : (Nat → Int32)) (m_images : (Nat → Int32)) (p1 : Int32) {z : Int32 × (Nat → Int32)} (hf : f_X11_next m_words m_guessed m_left m_refused m_codes m_masks p1 = some z) :
    Met l yX11_next (Cond.code yX11_next cX11_next 2 (some .int) :: wsAll) rm_X11_next (Pwr [.ref a_m, .int p1] D cI cB cT (wd_m a_m a_m_refused a_m_codes a_m_noted a_m_marked a_m_masks a_m_text a_m_before a_m_ahead a_m_aside a_m_sure a_m_wrongs a_m_says a_m_evening a_m_images cI cB cT m_words m_kindNow m_secretNow m_guessed m_left m_wrong m_noteMany m_markMany m_typed m_readAt m_readNumber m_undoMany m_lastGuesses m_above m_below m_refused m_codes m_noted m_marked m_masks m_text m_before m_ahead m_aside m_sure m_wrongs m_says m_evening m_images) sz) (Qw (some (.int z.1)) D (wd_m a_m a_m_refused a_m_codes a_m_noted a_m_marked a_m_masks a_m_text a_m_before a_m_ahead a_m_aside a_m_sure a_m_wrongs a_m_says a_m_evening a_m_images cI cB cT m_words m_kindNow m_secretNow m_guessed m_left m_wrong m_noteMany m_markMany m_typed m_readAt m_readNumber m_undoMany m_lastGuesses m_above m_below z.2 m_codes m_noted m_marked m_masks m_text m_before m_ahead m_aside m_sure m_wrongs m_says m_evening m_images) (va_A (wd_m a_m a_m_refused a_m_codes a_m_noted a_m_marked a_m_masks a_m_text a_m_before a_m_ahead a_m_aside a_m_sure a_m_wrongs a_m_says a_m_evening a_m_images cI cB cT m_words m_kindNow m_secretNow m_guessed m_left m_wrong m_noteMany m_markMany m_typed m_readAt m_readNumber m_undoMany m_lastGuesses m_above m_below m_refused m_codes m_noted m_marked m_masks m_text m_before m_ahead m_aside m_sure m_wrongs m_says m_evening m_images) sz)) 0 0 (va_A (wd_m a_m a_m_refused a_m_codes a_m_noted a_m_marked a_m_masks a_m_text a_m_before a_m_ahead a_m_aside a_m_sure a_m_wrongs a_m_says a_m_evening a_m_images cI cB cT m_words m_kindNow m_secretNow m_guessed m_left m_wrong m_noteMany m_markMany m_typed m_readAt m_readNumber m_undoMany m_lastGuesses m_above m_below m_refused m_codes m_noted m_marked m_masks m_text m_before m_ahead m_aside m_sure m_wrongs m_says m_evening m_images) sz) := by
  refine wr_intro RX11 (by decide +kernel) rfl (Nat.le_of_ble_eq_true rfl) ?_
  intro p e s m below meth c ls A H locs CF hr hlk hG hP hD hS hA hl
  have hl : lv_has ls 2 [(0, .ref a_m), (1, .int p1)] := hl
  obtain ⟨hx, hb, hml, hown, hts⟩ := id CF
  unfold f_X11_next at hf
  refine lv_iload_n hx hb dX11_next_0 rfl (lv_at hl 1 rfl) ?_
  obtain ⟨o1, e2, hf⟩ := lp_bind hf
  refine ro_Si (x := o1) (As := [.int p1]) (rest := []) CF (c_X11_isKind l D cI cB cT p1 e2) ok_X11_isKind wm_1014 ⟨rfl, rfl, Nat.le_of_ble_eq_true rfl, Nat.le_of_ble_eq_true rfl⟩ hG wd_E_P rfl hl.1 rfl (Nat.le_of_ble_eq_true rfl) ⟨Nat.zero_le _, Nat.zero_le _⟩ dX11_next_1 ?_
  refine lv_if_eq (tgt := 23) hx hb dX11_next_4 (by decide) (fun c3 => ?_) (fun c3 => ?_)
  · have hf := tk c3 hf
    refine lv_aload_n hx hb dX11_next_23 rfl (lv_at hl 0 rfl) ?_
    obtain ⟨o4, e5, hf⟩ := lp_bind hf
    refine wr_Wi (x := o4.1) (ws' := (wd_m a_m a_m_refused a_m_codes a_m_noted a_m_marked a_m_masks a_m_text a_m_before a_m_ahead a_m_aside a_m_sure a_m_wrongs a_m_says a_m_evening a_m_images cI cB cT m_words m_kindNow m_secretNow m_guessed m_left m_wrong m_noteMany m_markMany m_typed m_readAt m_readNumber m_undoMany m_lastGuesses m_above m_below o4.2 m_codes m_noted m_marked m_masks m_text m_before m_ahead m_aside m_sure m_wrongs m_says m_evening m_images)) (As := []) (rest := []) CF (c_X11_bad l D cI cB cT H.size a_m a_m_refused a_m_codes a_m_noted a_m_marked a_m_masks a_m_text a_m_before a_m_ahead a_m_aside a_m_sure a_m_wrongs a_m_says a_m_evening a_m_images m_words m_kindNow m_secretNow m_guessed m_left m_wrong m_noteMany m_markMany m_typed m_readAt m_readNumber m_undoMany m_lastGuesses m_above m_below m_refused m_codes m_noted m_marked m_masks m_text m_before m_ahead m_aside m_sure m_wrongs m_says m_evening m_images e5) ok_X11_bad wm_1020 ⟨rfl, rfl, Nat.le_of_ble_eq_true rfl, Nat.le_of_ble_eq_true rfl⟩ hG hP hD hS hA fs_m 0 9 vq_9 rfl ce_m_0 rfl hl.1 rfl (Nat.le_of_ble_eq_true rfl) ⟨Nat.zero_le _, Nat.zero_le _⟩ dX11_next_24 (fun H locs hP hD hS => ?_)
    obtain rfl := Option.some.inj hf
    exact wr_iret CF hr hlk hP hS dX11_next_27
  · have hf := fk c3 hf
    refine lv_aload_n hx hb dX11_next_7 rfl (lv_at hl 0 rfl) ?_
    refine lv_iload_n hx hb dX11_next_8 rfl (lv_at hl 1 rfl) ?_
    refine lv_aload_n hx hb dX11_next_9 rfl (lv_at hl 0 rfl) ?_
    refine va_get (D := D) (ci := 9) (v := .int m_left) (C := RX11) (T := TX11) (N := 29) hx hb hts fin_X11 hown hG.1 hP 0 ce_m_0 vq_9 5 (by decide) (hts _ wm_927) (fun _ h9 => h9) rfl dX11_next_10 ?_
    refine lv_aload_n hx hb dX11_next_13 rfl (lv_at hl 0 rfl) ?_
    refine va_get (D := D) (ci := 9) (v := .int m_guessed) (C := RX11) (T := TX11) (N := 29) hx hb hts fin_X11 hown hG.1 hP 0 ce_m_0 vq_9 4 (by decide) (hts _ wm_926) (fun _ h9 => h9) rfl dX11_next_14 ?_
    obtain ⟨o6, e7, hf⟩ := lp_bind hf
    refine ro_Vi (x := o6) (As := [.int p1, .int m_left, .int m_guessed]) (rest := []) CF (c_X11_nextBy l D cI cB cT a_m a_m_refused a_m_codes a_m_noted a_m_marked a_m_masks a_m_text a_m_before a_m_ahead a_m_aside a_m_sure a_m_wrongs a_m_says a_m_evening a_m_images m_words m_kindNow m_secretNow m_guessed m_left m_wrong m_noteMany m_markMany m_typed m_readAt m_readNumber m_undoMany m_lastGuesses m_above m_below m_refused m_codes m_noted m_marked m_masks m_text m_before m_ahead m_aside m_sure m_wrongs m_says m_evening m_images p1 m_left m_guessed e7) ok_X11_nextBy wm_1266 ⟨rfl, rfl, Nat.le_of_ble_eq_true rfl, Nat.le_of_ble_eq_true rfl⟩ hG hP 0 9 vq_9 rfl ce_m_0 rfl hl.1 rfl (Nat.le_of_ble_eq_true rfl) ⟨Nat.zero_le _, Nat.zero_le _⟩ dX11_next_17 ?_
    refine lv_goto (tgt := 27) hx hb dX11_next_20 (by decide) ?_
    obtain rfl := Option.some.inj hf
    exact wr_iret CF hr hlk hP hS dX11_next_27
end M_X11_next
section M_X11_lays_m_aside
variable {p : Program} {l : Launch} {e : Env} {s : State} {m : MethodId} {args : Array Value} {below : List Frame} {meth : Method} {c : Code} {Q : State → Prop} {A : Nat → Prop} {D : va_G} {cI cB cT : ClassId}
variable {a_m a_m_refused a_m_codes a_m_noted a_m_marked a_m_masks a_m_text a_m_before a_m_ahead a_m_aside a_m_sure a_m_wrongs a_m_says a_m_evening a_m_images : Nat}
def rm_X11_lays_m_aside : Room := { frames := 0, cells := 0, slots := 0, locals := 0 }
def f_X11_lays_m_aside (m_secretNow : Int32) (m_guessed : Int32) (m_left : Int32) (m_wrong : Int32) (m_aside : (Nat → Int32)) (p2 : Int32) : Option ((Nat → Int32)) := (if oob p2 4 then none else (if oob (p2 + (1 : Int32)) 4 then none else (if oob (p2 + (2 : Int32)) 4 then none else (if oob (p2 + (3 : Int32)) 4 then none else some (upd (upd (upd (upd m_aside (p2).toNatClampNeg m_guessed) ((p2 + (1 : Int32))).toNatClampNeg m_left) ((p2 + (2 : Int32))).toNatClampNeg m_wrong) ((p2 + (3 : Int32))).toNatClampNeg m_secretNow)))))
set_option maxHeartbeats 4000000 in
set_option maxRecDepth 100000 in
theorem c_X11_lays_m_aside (l : Launch) (D : va_G) (cI cB cT : ClassId) (sz : Nat) (a_m a_m_refused a_m_codes a_m_noted a_m_marked a_m_masks a_m_text a_m_before a_m_ahead a_m_aside a_m_sure a_m_wrongs a_m_says a_m_evening a_m_images : Nat) (m_words : Int32) (m_kindNow : Int32) (m_secretNow : Int32) (m_guessed : Int32) (m_left : Int32) (m_wrong : Int32) (m_noteMany : Int32) (m_markMany : Int32) (m_typed : Int32) (m_readAt : Int32) (m_readNumber : Int32) (m_undoMany : Int32) (m_lastGuesses : Int32) (m_above : Int64) (m_below : Int64) (m_refused : (Nat → Int32)) (m_codes : (Nat → Int32)) (m_noted : (Nat → Int32)) (m_marked : (Nat → Int32)) (m_masks : (Nat → Int32)) (m_text : (Nat → Int32)) (m_before : (Nat → Int32)) (m_ahead : (Nat → Int32)) (m_aside : (Nat → Int32)) (m_sure : (Nat → Int32)) (m_wrongs : (Nat → Int32)) (m_says : (Nat → Int32)) (m_evening : (Nat → Int32)) (m_images : (Nat → Int32)) (p2 : Int32) {z : (Nat → Int32)} (hf : f_X11_lays_m_aside m_secretNow m_guessed m_left m_wrong m_aside p2 = some z) :
    Met l yX11_lays (Cond.code yX11_lays cX11_lays 3 none :: wsAll) rm_X11_lays_m_aside (Pwr [.ref a_m, .ref a_m_aside, .int p2] D cI cB cT (wd_m a_m a_m_refused a_m_codes a_m_noted a_m_marked a_m_masks a_m_text a_m_before a_m_ahead a_m_aside a_m_sure a_m_wrongs a_m_says a_m_evening a_m_images cI cB cT m_words m_kindNow m_secretNow m_guessed m_left m_wrong m_noteMany m_markMany m_typed m_readAt m_readNumber m_undoMany m_lastGuesses m_above m_below m_refused m_codes m_noted m_marked m_masks m_text m_before m_ahead m_aside m_sure m_wrongs m_says m_evening m_images) sz) (Qw none D (wd_m a_m a_m_refused a_m_codes a_m_noted a_m_marked a_m_masks a_m_text a_m_before a_m_ahead a_m_aside a_m_sure a_m_wrongs a_m_says a_m_evening a_m_images cI cB cT m_words m_kindNow m_secretNow m_guessed m_left m_wrong m_noteMany m_markMany m_typed m_readAt m_readNumber m_undoMany m_lastGuesses m_above m_below m_refused m_codes m_noted m_marked m_masks m_text m_before m_ahead z m_sure m_wrongs m_says m_evening m_images) (va_A (wd_m a_m a_m_refused a_m_codes a_m_noted a_m_marked a_m_masks a_m_text a_m_before a_m_ahead a_m_aside a_m_sure a_m_wrongs a_m_says a_m_evening a_m_images cI cB cT m_words m_kindNow m_secretNow m_guessed m_left m_wrong m_noteMany m_markMany m_typed m_readAt m_readNumber m_undoMany m_lastGuesses m_above m_below m_refused m_codes m_noted m_marked m_masks m_text m_before m_ahead m_aside m_sure m_wrongs m_says m_evening m_images) sz)) 0 0 (va_A (wd_m a_m a_m_refused a_m_codes a_m_noted a_m_marked a_m_masks a_m_text a_m_before a_m_ahead a_m_aside a_m_sure a_m_wrongs a_m_says a_m_evening a_m_images cI cB cT m_words m_kindNow m_secretNow m_guessed m_left m_wrong m_noteMany m_markMany m_typed m_readAt m_readNumber m_undoMany m_lastGuesses m_above m_below m_refused m_codes m_noted m_marked m_masks m_text m_before m_ahead m_aside m_sure m_wrongs m_says m_evening m_images) sz) := by
  refine wr_intro RX11 (by decide +kernel) rfl (Nat.le_of_ble_eq_true rfl) ?_
  intro p e s m below meth c ls A H locs CF hr hlk hG hP hD hS hA hl
  have hl : lv_has ls 3 [(0, .ref a_m), (1, .ref a_m_aside), (2, .int p2)] := hl
  obtain ⟨hx, hb, hml, hown, hts⟩ := id CF
  unfold f_X11_lays_m_aside at hf
  refine lv_aload_n hx hb dX11_lays_0 rfl (lv_at hl 1 rfl) ?_
  refine lv_iload_n hx hb dX11_lays_1 rfl (lv_at hl 2 rfl) ?_
  refine lv_aload_n hx hb dX11_lays_2 rfl (lv_at hl 0 rfl) ?_
  refine va_get (D := D) (ci := 9) (v := .int m_guessed) (C := RX11) (T := TX11) (N := 29) hx hb hts fin_X11 hown hG.1 hP 0 ce_m_0 vq_9 4 (by decide) (hts _ wm_926) (fun _ h9 => h9) rfl dX11_lays_3 ?_
  obtain ⟨n1, hf⟩ := nk hf
  refine va_iast (f := m_aside) hx hb hG.1 hP hD hS 9 0 ce_m_9 rfl n1 dX11_lays_6 (fun H locs hP _ hS => ?_)
  have hP : va_P D vwCl (wd_m a_m a_m_refused a_m_codes a_m_noted a_m_marked a_m_masks a_m_text a_m_before a_m_ahead a_m_aside a_m_sure a_m_wrongs a_m_says a_m_evening a_m_images cI cB cT m_words m_kindNow m_secretNow m_guessed m_left m_wrong m_noteMany m_markMany m_typed m_readAt m_readNumber m_undoMany m_lastGuesses m_above m_below m_refused m_codes m_noted m_marked m_masks m_text m_before m_ahead (upd m_aside (p2).toNatClampNeg m_guessed) m_sure m_wrongs m_says m_evening m_images) H := va_P_eq se_m_m_aside hP
  have hD : va_D A (wd_m a_m a_m_refused a_m_codes a_m_noted a_m_marked a_m_masks a_m_text a_m_before a_m_ahead a_m_aside a_m_sure a_m_wrongs a_m_says a_m_evening a_m_images cI cB cT m_words m_kindNow m_secretNow m_guessed m_left m_wrong m_noteMany m_markMany m_typed m_readAt m_readNumber m_undoMany m_lastGuesses m_above m_below m_refused m_codes m_noted m_marked m_masks m_text m_before m_ahead (upd m_aside (p2).toNatClampNeg m_guessed) m_sure m_wrongs m_says m_evening m_images) := va_D_fst fs_m hD
  refine lv_aload_n hx hb dX11_lays_7 rfl (lv_at hl 1 rfl) ?_
  refine lv_iload_n hx hb dX11_lays_8 rfl (lv_at hl 2 rfl) ?_
  refine lv_iconst (v := (1 : Int32)) hx hb dX11_lays_9 (by decide) ?_
  refine lv_iadd hx hb dX11_lays_10 ?_
  refine lv_aload_n hx hb dX11_lays_11 rfl (lv_at hl 0 rfl) ?_
  refine va_get (D := D) (ci := 9) (v := .int m_left) (C := RX11) (T := TX11) (N := 29) hx hb hts fin_X11 hown hG.1 hP 0 ce_m_0 vq_9 5 (by decide) (hts _ wm_927) (fun _ h9 => h9) rfl dX11_lays_12 ?_
  obtain ⟨n2, hf⟩ := nk hf
  refine va_iast (f := (upd m_aside (p2).toNatClampNeg m_guessed)) hx hb hG.1 hP hD hS 9 0 ce_m_9 rfl n2 dX11_lays_15 (fun H locs hP _ hS => ?_)
  have hP : va_P D vwCl (wd_m a_m a_m_refused a_m_codes a_m_noted a_m_marked a_m_masks a_m_text a_m_before a_m_ahead a_m_aside a_m_sure a_m_wrongs a_m_says a_m_evening a_m_images cI cB cT m_words m_kindNow m_secretNow m_guessed m_left m_wrong m_noteMany m_markMany m_typed m_readAt m_readNumber m_undoMany m_lastGuesses m_above m_below m_refused m_codes m_noted m_marked m_masks m_text m_before m_ahead (upd (upd m_aside (p2).toNatClampNeg m_guessed) ((p2 + (1 : Int32))).toNatClampNeg m_left) m_sure m_wrongs m_says m_evening m_images) H := va_P_eq se_m_m_aside hP
  have hD : va_D A (wd_m a_m a_m_refused a_m_codes a_m_noted a_m_marked a_m_masks a_m_text a_m_before a_m_ahead a_m_aside a_m_sure a_m_wrongs a_m_says a_m_evening a_m_images cI cB cT m_words m_kindNow m_secretNow m_guessed m_left m_wrong m_noteMany m_markMany m_typed m_readAt m_readNumber m_undoMany m_lastGuesses m_above m_below m_refused m_codes m_noted m_marked m_masks m_text m_before m_ahead (upd (upd m_aside (p2).toNatClampNeg m_guessed) ((p2 + (1 : Int32))).toNatClampNeg m_left) m_sure m_wrongs m_says m_evening m_images) := va_D_fst fs_m hD
  refine lv_aload_n hx hb dX11_lays_16 rfl (lv_at hl 1 rfl) ?_
  refine lv_iload_n hx hb dX11_lays_17 rfl (lv_at hl 2 rfl) ?_
  refine lv_iconst (v := (2 : Int32)) hx hb dX11_lays_18 (by decide) ?_
  refine lv_iadd hx hb dX11_lays_19 ?_
  refine lv_aload_n hx hb dX11_lays_20 rfl (lv_at hl 0 rfl) ?_
  refine va_get (D := D) (ci := 9) (v := .int m_wrong) (C := RX11) (T := TX11) (N := 29) hx hb hts fin_X11 hown hG.1 hP 0 ce_m_0 vq_9 6 (by decide) (hts _ wm_928) (fun _ h9 => h9) rfl dX11_lays_21 ?_
  obtain ⟨n3, hf⟩ := nk hf
  refine va_iast (f := (upd (upd m_aside (p2).toNatClampNeg m_guessed) ((p2 + (1 : Int32))).toNatClampNeg m_left)) hx hb hG.1 hP hD hS 9 0 ce_m_9 rfl n3 dX11_lays_24 (fun H locs hP _ hS => ?_)
  have hP : va_P D vwCl (wd_m a_m a_m_refused a_m_codes a_m_noted a_m_marked a_m_masks a_m_text a_m_before a_m_ahead a_m_aside a_m_sure a_m_wrongs a_m_says a_m_evening a_m_images cI cB cT m_words m_kindNow m_secretNow m_guessed m_left m_wrong m_noteMany m_markMany m_typed m_readAt m_readNumber m_undoMany m_lastGuesses m_above m_below m_refused m_codes m_noted m_marked m_masks m_text m_before m_ahead (upd (upd (upd m_aside (p2).toNatClampNeg m_guessed) ((p2 + (1 : Int32))).toNatClampNeg m_left) ((p2 + (2 : Int32))).toNatClampNeg m_wrong) m_sure m_wrongs m_says m_evening m_images) H := va_P_eq se_m_m_aside hP
  have hD : va_D A (wd_m a_m a_m_refused a_m_codes a_m_noted a_m_marked a_m_masks a_m_text a_m_before a_m_ahead a_m_aside a_m_sure a_m_wrongs a_m_says a_m_evening a_m_images cI cB cT m_words m_kindNow m_secretNow m_guessed m_left m_wrong m_noteMany m_markMany m_typed m_readAt m_readNumber m_undoMany m_lastGuesses m_above m_below m_refused m_codes m_noted m_marked m_masks m_text m_before m_ahead (upd (upd (upd m_aside (p2).toNatClampNeg m_guessed) ((p2 + (1 : Int32))).toNatClampNeg m_left) ((p2 + (2 : Int32))).toNatClampNeg m_wrong) m_sure m_wrongs m_says m_evening m_images) := va_D_fst fs_m hD
  refine lv_aload_n hx hb dX11_lays_25 rfl (lv_at hl 1 rfl) ?_
  refine lv_iload_n hx hb dX11_lays_26 rfl (lv_at hl 2 rfl) ?_
  refine lv_iconst (v := (3 : Int32)) hx hb dX11_lays_27 (by decide) ?_
  refine lv_iadd hx hb dX11_lays_28 ?_
  refine lv_aload_n hx hb dX11_lays_29 rfl (lv_at hl 0 rfl) ?_
  refine va_get (D := D) (ci := 9) (v := .int m_secretNow) (C := RX11) (T := TX11) (N := 29) hx hb hts fin_X11 hown hG.1 hP 0 ce_m_0 vq_9 3 (by decide) (hts _ wm_925) (fun _ h9 => h9) rfl dX11_lays_30 ?_
  obtain ⟨n4, hf⟩ := nk hf
  refine va_iast (f := (upd (upd (upd m_aside (p2).toNatClampNeg m_guessed) ((p2 + (1 : Int32))).toNatClampNeg m_left) ((p2 + (2 : Int32))).toNatClampNeg m_wrong)) hx hb hG.1 hP hD hS 9 0 ce_m_9 rfl n4 dX11_lays_33 (fun H locs hP _ hS => ?_)
  have hP : va_P D vwCl (wd_m a_m a_m_refused a_m_codes a_m_noted a_m_marked a_m_masks a_m_text a_m_before a_m_ahead a_m_aside a_m_sure a_m_wrongs a_m_says a_m_evening a_m_images cI cB cT m_words m_kindNow m_secretNow m_guessed m_left m_wrong m_noteMany m_markMany m_typed m_readAt m_readNumber m_undoMany m_lastGuesses m_above m_below m_refused m_codes m_noted m_marked m_masks m_text m_before m_ahead (upd (upd (upd (upd m_aside (p2).toNatClampNeg m_guessed) ((p2 + (1 : Int32))).toNatClampNeg m_left) ((p2 + (2 : Int32))).toNatClampNeg m_wrong) ((p2 + (3 : Int32))).toNatClampNeg m_secretNow) m_sure m_wrongs m_says m_evening m_images) H := va_P_eq se_m_m_aside hP
  have hD : va_D A (wd_m a_m a_m_refused a_m_codes a_m_noted a_m_marked a_m_masks a_m_text a_m_before a_m_ahead a_m_aside a_m_sure a_m_wrongs a_m_says a_m_evening a_m_images cI cB cT m_words m_kindNow m_secretNow m_guessed m_left m_wrong m_noteMany m_markMany m_typed m_readAt m_readNumber m_undoMany m_lastGuesses m_above m_below m_refused m_codes m_noted m_marked m_masks m_text m_before m_ahead (upd (upd (upd (upd m_aside (p2).toNatClampNeg m_guessed) ((p2 + (1 : Int32))).toNatClampNeg m_left) ((p2 + (2 : Int32))).toNatClampNeg m_wrong) ((p2 + (3 : Int32))).toNatClampNeg m_secretNow) m_sure m_wrongs m_says m_evening m_images) := va_D_fst fs_m hD
  obtain rfl := Option.some.inj hf
  exact wr_vret CF hr hlk hP hS dX11_lays_34
end M_X11_lays_m_aside
section M_X11_plays
variable {p : Program} {l : Launch} {e : Env} {s : State} {m : MethodId} {args : Array Value} {below : List Frame} {meth : Method} {c : Code} {Q : State → Prop} {A : Nat → Prop} {D : va_G} {cI cB cT : ClassId}
variable {a_m a_m_refused a_m_codes a_m_noted a_m_marked a_m_masks a_m_text a_m_before a_m_ahead a_m_aside a_m_sure a_m_wrongs a_m_says a_m_evening a_m_images : Nat}
def rm_X11_plays : Room := { frames := 6, cells := 0, slots := 0, locals := 143 }
def B_X11_plays_10 (m_words : Int32) (m_secretNow : Int32) (m_codes : (Nat → Int32)) (m_masks : (Nat → Int32)) (x1 : Int32) (x2 : Int32) (m_guessed : Int32) (m_left : Int32) (m_wrong : Int32) (m_lastGuesses : Int32) : Option ((Int32 × Int32 × Int32 × Int32) ⊕ (Int32 × Int32 × Int32 × Int32)) := ((f_X11_isOneAtMost m_left).bind fun o1 => (if o1 = 0 then ((f_X11_nextBy m_words m_codes m_masks x1 m_left m_guessed).bind fun o4 => ((f_X11_guessesBy m_words m_secretNow m_guessed m_left m_wrong m_masks x2 o4).bind fun o6 => some (Sum.inl (o6.2.1, o6.2.2.1, o6.2.2.2, (m_lastGuesses + (1 : Int32)))))) else some (Sum.inr (m_guessed, m_left, m_wrong, m_lastGuesses))))
def f_X11_plays (m_words : Int32) (m_secretNow : Int32) (m_guessed : Int32) (m_left : Int32) (m_wrong : Int32) (m_codes : (Nat → Int32)) (m_masks : (Nat → Int32)) (p1 : Int32) (p2 : Int32) : Option (Int32 × Int32 × Int32 × Int32 × Int32) := ((lp (fun v => B_X11_plays_10 m_words m_secretNow m_codes m_masks p1 p2 v.1 v.2.1 v.2.2.1 v.2.2.2) KN (m_guessed, m_left, m_wrong, (0 : Int32))).bind fun o8 => some ((o8.2.2.1 - m_wrong), o8.1, o8.2.1, o8.2.2.1, o8.2.2.2))
set_option maxHeartbeats 4000000 in
set_option maxRecDepth 100000 in
theorem B_X11_plays_10_W {m_words : Int32} {m_kindNow : Int32} {m_secretNow : Int32} {m_guessed : Int32} {m_left : Int32} {m_wrong : Int32} {m_noteMany : Int32} {m_markMany : Int32} {m_typed : Int32} {m_readAt : Int32} {m_readNumber : Int32} {m_undoMany : Int32} {m_lastGuesses : Int32} {m_above : Int64} {m_below : Int64} {m_refused : (Nat → Int32)} {m_codes : (Nat → Int32)} {m_noted : (Nat → Int32)} {m_marked : (Nat → Int32)} {m_masks : (Nat → Int32)} {m_text : (Nat → Int32)} {m_before : (Nat → Int32)} {m_ahead : (Nat → Int32)} {m_aside : (Nat → Int32)} {m_sure : (Nat → Int32)} {m_wrongs : (Nat → Int32)} {m_says : (Nat → Int32)} {m_evening : (Nat → Int32)} {m_images : (Nat → Int32)} {x1 : Int32} {x2 : Int32} {x3 : Int32} (CF : CallFix p m c cX11_plays 4 s args wsAll RX11) (hG : Gd D cI cB cT s) (hA : ∀ q : Nat, s.heap.size ≤ q → A q) {z : (Int32 × Int32 × Int32 × Int32) ⊕ (Int32 × Int32 × Int32 × Int32)} {H : Heap} {locs : List Loc} (hk : ∀ (v' : Int32 × Int32 × Int32 × Int32) (H : Heap) (locs : List Loc) (ls : Array Slot), z = Sum.inl v' → va_P D vwCl (wd_m a_m a_m_refused a_m_codes a_m_noted a_m_marked a_m_masks a_m_text a_m_before a_m_ahead a_m_aside a_m_sure a_m_wrongs a_m_says a_m_evening a_m_images cI cB cT m_words m_kindNow m_secretNow (v'.1) (v'.2.1) (v'.2.2.1) m_noteMany m_markMany m_typed m_readAt m_readNumber m_undoMany (v'.2.2.2) m_above m_below m_refused m_codes m_noted m_marked m_masks m_text m_before m_ahead m_aside m_sure m_wrongs m_says m_evening m_images) H → va_D A (wd_m a_m a_m_refused a_m_codes a_m_noted a_m_marked a_m_masks a_m_text a_m_before a_m_ahead a_m_aside a_m_sure a_m_wrongs a_m_says a_m_evening a_m_images cI cB cT m_words m_kindNow m_secretNow (v'.1) (v'.2.1) (v'.2.2.1) m_noteMany m_markMany m_typed m_readAt m_readNumber m_undoMany (v'.2.2.2) m_above m_below m_refused m_codes m_noted m_marked m_masks m_text m_before m_ahead m_aside m_sure m_wrongs m_says m_evening m_images) → va_S A s.heap H locs → lv_has ls 4 [(0, .ref a_m), (1, .int x1), (2, .int x2), (3, .int x3)] → W p l e rm_X11_plays s m args below meth c H locs 0 0 Q (F0 m 10 ls [])) (hx0 : ∀ (o' : Int32 × Int32 × Int32 × Int32) (H : Heap) (locs : List Loc) (ls : Array Slot), z = Sum.inr o' → va_P D vwCl (wd_m a_m a_m_refused a_m_codes a_m_noted a_m_marked a_m_masks a_m_text a_m_before a_m_ahead a_m_aside a_m_sure a_m_wrongs a_m_says a_m_evening a_m_images cI cB cT m_words m_kindNow m_secretNow (o'.1) (o'.2.1) (o'.2.2.1) m_noteMany m_markMany m_typed m_readAt m_readNumber m_undoMany (o'.2.2.2) m_above m_below m_refused m_codes m_noted m_marked m_masks m_text m_before m_ahead m_aside m_sure m_wrongs m_says m_evening m_images) H → va_D A (wd_m a_m a_m_refused a_m_codes a_m_noted a_m_marked a_m_masks a_m_text a_m_before a_m_ahead a_m_aside a_m_sure a_m_wrongs a_m_says a_m_evening a_m_images cI cB cT m_words m_kindNow m_secretNow (o'.1) (o'.2.1) (o'.2.2.1) m_noteMany m_markMany m_typed m_readAt m_readNumber m_undoMany (o'.2.2.2) m_above m_below m_refused m_codes m_noted m_marked m_masks m_text m_before m_ahead m_aside m_sure m_wrongs m_says m_evening m_images) → va_S A s.heap H locs → lv_has ls 4 [(0, .ref a_m), (3, .int x3)] → W p l e rm_X11_plays s m args below meth c H locs 0 0 Q (F0 m 52 ls [])) {ls : Array Slot} (hP : va_P D vwCl (wd_m a_m a_m_refused a_m_codes a_m_noted a_m_marked a_m_masks a_m_text a_m_before a_m_ahead a_m_aside a_m_sure a_m_wrongs a_m_says a_m_evening a_m_images cI cB cT m_words m_kindNow m_secretNow m_guessed m_left m_wrong m_noteMany m_markMany m_typed m_readAt m_readNumber m_undoMany m_lastGuesses m_above m_below m_refused m_codes m_noted m_marked m_masks m_text m_before m_ahead m_aside m_sure m_wrongs m_says m_evening m_images) H) (hD : va_D A (wd_m a_m a_m_refused a_m_codes a_m_noted a_m_marked a_m_masks a_m_text a_m_before a_m_ahead a_m_aside a_m_sure a_m_wrongs a_m_says a_m_evening a_m_images cI cB cT m_words m_kindNow m_secretNow m_guessed m_left m_wrong m_noteMany m_markMany m_typed m_readAt m_readNumber m_undoMany m_lastGuesses m_above m_below m_refused m_codes m_noted m_marked m_masks m_text m_before m_ahead m_aside m_sure m_wrongs m_says m_evening m_images)) (hS : va_S A s.heap H locs) (hl : lv_has ls 4 [(0, .ref a_m), (1, .int x1), (2, .int x2), (3, .int x3)]) (hf : B_X11_plays_10 m_words m_secretNow m_codes m_masks x1 x2 m_guessed m_left m_wrong m_lastGuesses = some z) : W p l e rm_X11_plays s m args below meth c H locs 0 0 Q (F0 m 10 ls []) := by
  obtain ⟨hx, hb, hml, hown, hts⟩ := id CF
  unfold B_X11_plays_10 at hf
  refine lv_aload_n hx hb dX11_plays_10 rfl (lv_at hl 0 rfl) ?_
  refine va_get (D := D) (ci := 9) (v := .int m_left) (C := RX11) (T := TX11) (N := 29) hx hb hts fin_X11 hown hG.1 hP 0 ce_m_0 vq_9 5 (by decide) (hts _ wm_927) (fun _ h9 => h9) rfl dX11_plays_11 ?_
  obtain ⟨o1, e2, hf⟩ := lp_bind hf
  refine ro_Si (x := o1) (As := [.int m_left]) (rest := []) CF (c_X11_isOneAtMost l D cI cB cT m_left e2) ok_X11_isOneAtMost wm_1247 ⟨rfl, rfl, Nat.le_of_ble_eq_true rfl, Nat.le_of_ble_eq_true rfl⟩ hG wd_E_P rfl hl.1 rfl (Nat.le_of_ble_eq_true rfl) ⟨Nat.zero_le _, Nat.zero_le _⟩ dX11_plays_14 ?_
  refine lv_if_ne (tgt := 52) hx hb dX11_plays_17 (by decide) (fun c3 => ?_) (fun c3 => ?_)
  · have hf := fk c3 hf
    exact hx0 _ _ _ _ (Option.some.inj hf).symm hP hD hS (lv_sub hl [0, 3] rfl)
  · have hf := tk c3 hf
    refine lv_aload_n hx hb dX11_plays_20 rfl (lv_at hl 0 rfl) ?_
    refine lv_iload_n hx hb dX11_plays_21 rfl (lv_at hl 2 rfl) ?_
    refine lv_aload_n hx hb dX11_plays_22 rfl (lv_at hl 0 rfl) ?_
    refine lv_iload_n hx hb dX11_plays_23 rfl (lv_at hl 1 rfl) ?_
    refine lv_aload_n hx hb dX11_plays_24 rfl (lv_at hl 0 rfl) ?_
    refine va_get (D := D) (ci := 9) (v := .int m_left) (C := RX11) (T := TX11) (N := 29) hx hb hts fin_X11 hown hG.1 hP 0 ce_m_0 vq_9 5 (by decide) (hts _ wm_927) (fun _ h9 => h9) rfl dX11_plays_25 ?_
    refine lv_aload_n hx hb dX11_plays_28 rfl (lv_at hl 0 rfl) ?_
    refine va_get (D := D) (ci := 9) (v := .int m_guessed) (C := RX11) (T := TX11) (N := 29) hx hb hts fin_X11 hown hG.1 hP 0 ce_m_0 vq_9 4 (by decide) (hts _ wm_926) (fun _ h9 => h9) rfl dX11_plays_29 ?_
    obtain ⟨o4, e5, hf⟩ := lp_bind hf
    refine ro_Vi (x := o4) (As := [.int x1, .int m_left, .int m_guessed]) (rest := [.int x2, .ref a_m]) CF (c_X11_nextBy l D cI cB cT a_m a_m_refused a_m_codes a_m_noted a_m_marked a_m_masks a_m_text a_m_before a_m_ahead a_m_aside a_m_sure a_m_wrongs a_m_says a_m_evening a_m_images m_words m_kindNow m_secretNow m_guessed m_left m_wrong m_noteMany m_markMany m_typed m_readAt m_readNumber m_undoMany m_lastGuesses m_above m_below m_refused m_codes m_noted m_marked m_masks m_text m_before m_ahead m_aside m_sure m_wrongs m_says m_evening m_images x1 m_left m_guessed e5) ok_X11_nextBy wm_1266 ⟨rfl, rfl, Nat.le_of_ble_eq_true rfl, Nat.le_of_ble_eq_true rfl⟩ hG hP 0 9 vq_9 rfl ce_m_0 rfl hl.1 rfl (Nat.le_of_ble_eq_true rfl) ⟨Nat.zero_le _, Nat.zero_le _⟩ dX11_plays_32 ?_
    obtain ⟨o6, e7, hf⟩ := lp_bind hf
    refine wr_Wi (x := o6.1) (ws' := (wd_m a_m a_m_refused a_m_codes a_m_noted a_m_marked a_m_masks a_m_text a_m_before a_m_ahead a_m_aside a_m_sure a_m_wrongs a_m_says a_m_evening a_m_images cI cB cT m_words m_kindNow m_secretNow o6.2.1 o6.2.2.1 o6.2.2.2 m_noteMany m_markMany m_typed m_readAt m_readNumber m_undoMany m_lastGuesses m_above m_below m_refused m_codes m_noted m_marked m_masks m_text m_before m_ahead m_aside m_sure m_wrongs m_says m_evening m_images)) (As := [.int x2, .int o4]) (rest := []) CF (c_X11_guessesBy l D cI cB cT H.size a_m a_m_refused a_m_codes a_m_noted a_m_marked a_m_masks a_m_text a_m_before a_m_ahead a_m_aside a_m_sure a_m_wrongs a_m_says a_m_evening a_m_images m_words m_kindNow m_secretNow m_guessed m_left m_wrong m_noteMany m_markMany m_typed m_readAt m_readNumber m_undoMany m_lastGuesses m_above m_below m_refused m_codes m_noted m_marked m_masks m_text m_before m_ahead m_aside m_sure m_wrongs m_says m_evening m_images x2 o4 e7) ok_X11_guessesBy wm_1140 ⟨rfl, rfl, Nat.le_of_ble_eq_true rfl, Nat.le_of_ble_eq_true rfl⟩ hG hP hD hS hA fs_m 0 9 vq_9 rfl ce_m_0 rfl hl.1 rfl (Nat.le_of_ble_eq_true rfl) ⟨Nat.zero_le _, Nat.zero_le _⟩ dX11_plays_35 (fun H locs hP hD hS => ?_)
    refine lv_pop hx hb dX11_plays_38 rfl ?_
    refine lv_aload_n hx hb dX11_plays_39 rfl (lv_at hl 0 rfl) ?_
    refine lv_dup hx hb dX11_plays_40 rfl ?_
    refine va_get (D := D) (ci := 9) (v := .int m_lastGuesses) (C := RX11) (T := TX11) (N := 29) hx hb hts fin_X11 hown hG.1 hP 0 ce_m_0 vq_9 22 (by decide) (hts _ wm_944) (fun _ h9 => h9) rfl dX11_plays_41 ?_
    refine lv_iconst (v := (1 : Int32)) hx hb dX11_plays_44 (by decide) ?_
    refine lv_iadd hx hb dX11_plays_45 ?_
    refine va_put (D := D) (ci := 9) (v := .int (m_lastGuesses + (1 : Int32))) (ty := .int) (C := RX11) (T := TX11) (N := 29) hx hb hts fin_X11 tyX11 tyX11_ok nmX11 hown hG.1 hP hD hS 0 ce_m_0 vq_9 22 (by decide) (hts _ wm_944) (fun _ h9 => h9) rfl (tyX11_ok 22 (by decide)) rfl rfl (Nat.le_of_ble_eq_true rfl) dX11_plays_46 (fun H locs hP _ hS => ?_)
    have hP : va_P D vwCl (wd_m a_m a_m_refused a_m_codes a_m_noted a_m_marked a_m_masks a_m_text a_m_before a_m_ahead a_m_aside a_m_sure a_m_wrongs a_m_says a_m_evening a_m_images cI cB cT m_words m_kindNow m_secretNow o6.2.1 o6.2.2.1 o6.2.2.2 m_noteMany m_markMany m_typed m_readAt m_readNumber m_undoMany (m_lastGuesses + (1 : Int32)) m_above m_below m_refused m_codes m_noted m_marked m_masks m_text m_before m_ahead m_aside m_sure m_wrongs m_says m_evening m_images) H := va_P_eq se_m_m_lastGuesses hP
    have hD : va_D A (wd_m a_m a_m_refused a_m_codes a_m_noted a_m_marked a_m_masks a_m_text a_m_before a_m_ahead a_m_aside a_m_sure a_m_wrongs a_m_says a_m_evening a_m_images cI cB cT m_words m_kindNow m_secretNow o6.2.1 o6.2.2.1 o6.2.2.2 m_noteMany m_markMany m_typed m_readAt m_readNumber m_undoMany (m_lastGuesses + (1 : Int32)) m_above m_below m_refused m_codes m_noted m_marked m_masks m_text m_before m_ahead m_aside m_sure m_wrongs m_says m_evening m_images) := va_D_fst fs_m hD
    refine lv_goto (tgt := 10) hx hb dX11_plays_49 (by decide) ?_
    exact hk _ _ _ _ (Option.some.inj hf).symm hP hD hS (lv_sub hl [0, 1, 2, 3] rfl)
set_option maxHeartbeats 4000000 in
set_option maxRecDepth 100000 in
theorem L_X11_plays_10_W {m_words : Int32} {m_kindNow : Int32} {m_secretNow : Int32} {m_noteMany : Int32} {m_markMany : Int32} {m_typed : Int32} {m_readAt : Int32} {m_readNumber : Int32} {m_undoMany : Int32} {m_above : Int64} {m_below : Int64} {m_refused : (Nat → Int32)} {m_codes : (Nat → Int32)} {m_noted : (Nat → Int32)} {m_marked : (Nat → Int32)} {m_masks : (Nat → Int32)} {m_text : (Nat → Int32)} {m_before : (Nat → Int32)} {m_ahead : (Nat → Int32)} {m_aside : (Nat → Int32)} {m_sure : (Nat → Int32)} {m_wrongs : (Nat → Int32)} {m_says : (Nat → Int32)} {m_evening : (Nat → Int32)} {m_images : (Nat → Int32)} {x1 : Int32} {x2 : Int32} {x3 : Int32} (CF : CallFix p m c cX11_plays 4 s args wsAll RX11) (hG : Gd D cI cB cT s) (hA : ∀ q : Nat, s.heap.size ≤ q → A q) {o : Int32 × Int32 × Int32 × Int32} (hx0 : ∀ (H : Heap) (locs : List Loc) (ls : Array Slot), va_P D vwCl (wd_m a_m a_m_refused a_m_codes a_m_noted a_m_marked a_m_masks a_m_text a_m_before a_m_ahead a_m_aside a_m_sure a_m_wrongs a_m_says a_m_evening a_m_images cI cB cT m_words m_kindNow m_secretNow o.1 o.2.1 o.2.2.1 m_noteMany m_markMany m_typed m_readAt m_readNumber m_undoMany o.2.2.2 m_above m_below m_refused m_codes m_noted m_marked m_masks m_text m_before m_ahead m_aside m_sure m_wrongs m_says m_evening m_images) H → va_D A (wd_m a_m a_m_refused a_m_codes a_m_noted a_m_marked a_m_masks a_m_text a_m_before a_m_ahead a_m_aside a_m_sure a_m_wrongs a_m_says a_m_evening a_m_images cI cB cT m_words m_kindNow m_secretNow o.1 o.2.1 o.2.2.1 m_noteMany m_markMany m_typed m_readAt m_readNumber m_undoMany o.2.2.2 m_above m_below m_refused m_codes m_noted m_marked m_masks m_text m_before m_ahead m_aside m_sure m_wrongs m_says m_evening m_images) → va_S A s.heap H locs → lv_has ls 4 [(0, .ref a_m), (3, .int x3)] → W p l e rm_X11_plays s m args below meth c H locs 0 0 Q (F0 m 52 ls [])) : ∀ (n : Nat) (m_guessed : Int32) (m_left : Int32) (m_wrong : Int32) (m_lastGuesses : Int32) (H : Heap) (locs : List Loc) (ls : Array Slot), va_P D vwCl (wd_m a_m a_m_refused a_m_codes a_m_noted a_m_marked a_m_masks a_m_text a_m_before a_m_ahead a_m_aside a_m_sure a_m_wrongs a_m_says a_m_evening a_m_images cI cB cT m_words m_kindNow m_secretNow m_guessed m_left m_wrong m_noteMany m_markMany m_typed m_readAt m_readNumber m_undoMany m_lastGuesses m_above m_below m_refused m_codes m_noted m_marked m_masks m_text m_before m_ahead m_aside m_sure m_wrongs m_says m_evening m_images) H → va_D A (wd_m a_m a_m_refused a_m_codes a_m_noted a_m_marked a_m_masks a_m_text a_m_before a_m_ahead a_m_aside a_m_sure a_m_wrongs a_m_says a_m_evening a_m_images cI cB cT m_words m_kindNow m_secretNow m_guessed m_left m_wrong m_noteMany m_markMany m_typed m_readAt m_readNumber m_undoMany m_lastGuesses m_above m_below m_refused m_codes m_noted m_marked m_masks m_text m_before m_ahead m_aside m_sure m_wrongs m_says m_evening m_images) → va_S A s.heap H locs → lv_has ls 4 [(0, .ref a_m), (1, .int x1), (2, .int x2), (3, .int x3)] → lp (fun v => B_X11_plays_10 m_words m_secretNow m_codes m_masks x1 x2 v.1 v.2.1 v.2.2.1 v.2.2.2) n (m_guessed, m_left, m_wrong, m_lastGuesses) = some o → W p l e rm_X11_plays s m args below meth c H locs 0 0 Q (F0 m 10 ls []) := by
  intro n
  induction n with
  | zero =>
    intro m_guessed m_left m_wrong m_lastGuesses H locs ls hP hD hS hl hf
    exact (lp_zero hf).elim
  | succ n ih =>
    intro m_guessed m_left m_wrong m_lastGuesses H locs ls hP hD hS hl hf
    obtain ⟨z, hz, hf⟩ := lp_succ hf
    refine B_X11_plays_10_W CF hG hA ?_ ?_ hP hD hS hl hz
    · intro v' H locs ls ez hP hD hS hl
      rcases hf with ⟨v2, ev, hf⟩ | ev
      · cases Sum.inl.inj (ez.symm.trans ev)
        exact ih v'.1 v'.2.1 v'.2.2.1 v'.2.2.2 H locs ls hP hD hS hl hf
      · exact (lp_lr (ez.symm.trans ev)).elim
    · intro o' H locs ls ez hP hD hS hl
      rcases hf with ⟨v2, ev, hf⟩ | ev
      · exact (lp_lr (ev.symm.trans ez)).elim
      · cases Sum.inr.inj (ez.symm.trans ev)
        exact hx0 H locs ls hP hD hS hl
set_option maxHeartbeats 4000000 in
set_option maxRecDepth 100000 in
theorem c_X11_plays (l : Launch) (D : va_G) (cI cB cT : ClassId) (sz : Nat) (a_m a_m_refused a_m_codes a_m_noted a_m_marked a_m_masks a_m_text a_m_before a_m_ahead a_m_aside a_m_sure a_m_wrongs a_m_says a_m_evening a_m_images : Nat) (m_words : Int32) (m_kindNow : Int32) (m_secretNow : Int32) (m_guessed : Int32) (m_left : Int32) (m_wrong : Int32) (m_noteMany : Int32) (m_markMany : Int32) (m_typed : Int32) (m_readAt : Int32) (m_readNumber : Int32) (m_undoMany : Int32) (m_lastGuesses : Int32) (m_above : Int64) (m_below : Int64) (m_refused : (Nat → Int32)) (m_codes : (Nat → Int32)) (m_noted : (Nat → Int32)) (m_marked : (Nat → Int32)) (m_masks : (Nat → Int32)) (m_text : (Nat → Int32)) (m_before : (Nat → Int32)) (m_ahead : (Nat → Int32)) (m_aside : (Nat → Int32)) (m_sure : (Nat → Int32)) (m_wrongs : (Nat → Int32)) (m_says : (Nat → Int32)) (m_evening : (Nat → Int32)) (m_images : (Nat → Int32)) (p1 : Int32) (p2 : Int32) {z : Int32 × Int32 × Int32 × Int32 × Int32} (hf : f_X11_plays m_words m_secretNow m_guessed m_left m_wrong m_codes m_masks p1 p2 = some z) :
    Met l yX11_plays (Cond.code yX11_plays cX11_plays 4 (some .int) :: wsAll) rm_X11_plays (Pwr [.ref a_m, .int p1, .int p2] D cI cB cT (wd_m a_m a_m_refused a_m_codes a_m_noted a_m_marked a_m_masks a_m_text a_m_before a_m_ahead a_m_aside a_m_sure a_m_wrongs a_m_says a_m_evening a_m_images cI cB cT m_words m_kindNow m_secretNow m_guessed m_left m_wrong m_noteMany m_markMany m_typed m_readAt m_readNumber m_undoMany m_lastGuesses m_above m_below m_refused m_codes m_noted m_marked m_masks m_text m_before m_ahead m_aside m_sure m_wrongs m_says m_evening m_images) sz) (Qw (some (.int z.1)) D (wd_m a_m a_m_refused a_m_codes a_m_noted a_m_marked a_m_masks a_m_text a_m_before a_m_ahead a_m_aside a_m_sure a_m_wrongs a_m_says a_m_evening a_m_images cI cB cT m_words m_kindNow m_secretNow z.2.1 z.2.2.1 z.2.2.2.1 m_noteMany m_markMany m_typed m_readAt m_readNumber m_undoMany z.2.2.2.2 m_above m_below m_refused m_codes m_noted m_marked m_masks m_text m_before m_ahead m_aside m_sure m_wrongs m_says m_evening m_images) (va_A (wd_m a_m a_m_refused a_m_codes a_m_noted a_m_marked a_m_masks a_m_text a_m_before a_m_ahead a_m_aside a_m_sure a_m_wrongs a_m_says a_m_evening a_m_images cI cB cT m_words m_kindNow m_secretNow m_guessed m_left m_wrong m_noteMany m_markMany m_typed m_readAt m_readNumber m_undoMany m_lastGuesses m_above m_below m_refused m_codes m_noted m_marked m_masks m_text m_before m_ahead m_aside m_sure m_wrongs m_says m_evening m_images) sz)) 0 0 (va_A (wd_m a_m a_m_refused a_m_codes a_m_noted a_m_marked a_m_masks a_m_text a_m_before a_m_ahead a_m_aside a_m_sure a_m_wrongs a_m_says a_m_evening a_m_images cI cB cT m_words m_kindNow m_secretNow m_guessed m_left m_wrong m_noteMany m_markMany m_typed m_readAt m_readNumber m_undoMany m_lastGuesses m_above m_below m_refused m_codes m_noted m_marked m_masks m_text m_before m_ahead m_aside m_sure m_wrongs m_says m_evening m_images) sz) := by
  refine wr_intro RX11 (by decide +kernel) rfl (Nat.le_of_ble_eq_true rfl) ?_
  intro p e s m below meth c ls A H locs CF hr hlk hG hP hD hS hA hl
  have hl : lv_has ls 4 [(0, .ref a_m), (1, .int p1), (2, .int p2)] := hl
  obtain ⟨hx, hb, hml, hown, hts⟩ := id CF
  unfold f_X11_plays at hf
  refine lv_aload_n hx hb dX11_plays_0 rfl (lv_at hl 0 rfl) ?_
  refine va_get (D := D) (ci := 9) (v := .int m_wrong) (C := RX11) (T := TX11) (N := 29) hx hb hts fin_X11 hown hG.1 hP 0 ce_m_0 vq_9 6 (by decide) (hts _ wm_928) (fun _ h9 => h9) rfl dX11_plays_1 ?_
  refine lv_istore_n (lv' := [(3, .int m_wrong), (0, .ref a_m), (1, .int p1), (2, .int p2)]) hx hb dX11_plays_4 rfl hl (by decide) rfl (fun ls hl => ?_)
  refine lv_aload_n hx hb dX11_plays_5 rfl (lv_at hl 1 rfl) ?_
  refine lv_iconst (v := (0 : Int32)) hx hb dX11_plays_6 (by decide) ?_
  refine va_put (D := D) (ci := 9) (v := .int (0 : Int32)) (ty := .int) (C := RX11) (T := TX11) (N := 29) hx hb hts fin_X11 tyX11 tyX11_ok nmX11 hown hG.1 hP hD hS 0 ce_m_0 vq_9 22 (by decide) (hts _ wm_944) (fun _ h9 => h9) rfl (tyX11_ok 22 (by decide)) rfl rfl (Nat.le_of_ble_eq_true rfl) dX11_plays_7 (fun H locs hP _ hS => ?_)
  have hP : va_P D vwCl (wd_m a_m a_m_refused a_m_codes a_m_noted a_m_marked a_m_masks a_m_text a_m_before a_m_ahead a_m_aside a_m_sure a_m_wrongs a_m_says a_m_evening a_m_images cI cB cT m_words m_kindNow m_secretNow m_guessed m_left m_wrong m_noteMany m_markMany m_typed m_readAt m_readNumber m_undoMany (0 : Int32) m_above m_below m_refused m_codes m_noted m_marked m_masks m_text m_before m_ahead m_aside m_sure m_wrongs m_says m_evening m_images) H := va_P_eq se_m_m_lastGuesses hP
  have hD : va_D A (wd_m a_m a_m_refused a_m_codes a_m_noted a_m_marked a_m_masks a_m_text a_m_before a_m_ahead a_m_aside a_m_sure a_m_wrongs a_m_says a_m_evening a_m_images cI cB cT m_words m_kindNow m_secretNow m_guessed m_left m_wrong m_noteMany m_markMany m_typed m_readAt m_readNumber m_undoMany (0 : Int32) m_above m_below m_refused m_codes m_noted m_marked m_masks m_text m_before m_ahead m_aside m_sure m_wrongs m_says m_evening m_images) := va_D_fst fs_m hD
  obtain ⟨o8, e9, hf⟩ := lp_bind hf
  refine L_X11_plays_10_W CF hG hA ?_ KN _ _ _ _ _ _ _ hP hD hS (lv_sub hl [1, 2, 3, 0] rfl) e9
  intro H locs ls hP hD hS hl
  refine lv_aload_n hx hb dX11_plays_52 rfl (lv_at hl 0 rfl) ?_
  refine va_get (D := D) (ci := 9) (v := .int o8.2.2.1) (C := RX11) (T := TX11) (N := 29) hx hb hts fin_X11 hown hG.1 hP 0 ce_m_0 vq_9 6 (by decide) (hts _ wm_928) (fun _ h9 => h9) rfl dX11_plays_53 ?_
  refine lv_iload_n hx hb dX11_plays_56 rfl (lv_at hl 1 rfl) ?_
  refine lv_isub hx hb dX11_plays_57 ?_
  obtain rfl := Option.some.inj hf
  exact wr_iret CF hr hlk hP hS dX11_plays_58
end M_X11_plays
section M_X11_takes_m_aside
variable {p : Program} {l : Launch} {e : Env} {s : State} {m : MethodId} {args : Array Value} {below : List Frame} {meth : Method} {c : Code} {Q : State → Prop} {A : Nat → Prop} {D : va_G} {cI cB cT : ClassId}
variable {a_m a_m_refused a_m_codes a_m_noted a_m_marked a_m_masks a_m_text a_m_before a_m_ahead a_m_aside a_m_sure a_m_wrongs a_m_says a_m_evening a_m_images : Nat}
def rm_X11_takes_m_aside : Room := { frames := 0, cells := 0, slots := 0, locals := 0 }
def f_X11_takes_m_aside (m_aside : (Nat → Int32)) (p2 : Int32) : Option (Int32 × Int32 × Int32 × Int32) := (if oob p2 4 then none else (if oob (p2 + (1 : Int32)) 4 then none else (if oob (p2 + (2 : Int32)) 4 then none else (if oob (p2 + (3 : Int32)) 4 then none else some ((m_aside ((p2 + (3 : Int32))).toNatClampNeg), (m_aside (p2).toNatClampNeg), (m_aside ((p2 + (1 : Int32))).toNatClampNeg), (m_aside ((p2 + (2 : Int32))).toNatClampNeg))))))
set_option maxHeartbeats 4000000 in
set_option maxRecDepth 100000 in
theorem c_X11_takes_m_aside (l : Launch) (D : va_G) (cI cB cT : ClassId) (sz : Nat) (a_m a_m_refused a_m_codes a_m_noted a_m_marked a_m_masks a_m_text a_m_before a_m_ahead a_m_aside a_m_sure a_m_wrongs a_m_says a_m_evening a_m_images : Nat) (m_words : Int32) (m_kindNow : Int32) (m_secretNow : Int32) (m_guessed : Int32) (m_left : Int32) (m_wrong : Int32) (m_noteMany : Int32) (m_markMany : Int32) (m_typed : Int32) (m_readAt : Int32) (m_readNumber : Int32) (m_undoMany : Int32) (m_lastGuesses : Int32) (m_above : Int64) (m_below : Int64) (m_refused : (Nat → Int32)) (m_codes : (Nat → Int32)) (m_noted : (Nat → Int32)) (m_marked : (Nat → Int32)) (m_masks : (Nat → Int32)) (m_text : (Nat → Int32)) (m_before : (Nat → Int32)) (m_ahead : (Nat → Int32)) (m_aside : (Nat → Int32)) (m_sure : (Nat → Int32)) (m_wrongs : (Nat → Int32)) (m_says : (Nat → Int32)) (m_evening : (Nat → Int32)) (m_images : (Nat → Int32)) (p2 : Int32) {z : Int32 × Int32 × Int32 × Int32} (hf : f_X11_takes_m_aside m_aside p2 = some z) :
    Met l yX11_takes (Cond.code yX11_takes cX11_takes 3 none :: wsAll) rm_X11_takes_m_aside (Pwr [.ref a_m, .ref a_m_aside, .int p2] D cI cB cT (wd_m a_m a_m_refused a_m_codes a_m_noted a_m_marked a_m_masks a_m_text a_m_before a_m_ahead a_m_aside a_m_sure a_m_wrongs a_m_says a_m_evening a_m_images cI cB cT m_words m_kindNow m_secretNow m_guessed m_left m_wrong m_noteMany m_markMany m_typed m_readAt m_readNumber m_undoMany m_lastGuesses m_above m_below m_refused m_codes m_noted m_marked m_masks m_text m_before m_ahead m_aside m_sure m_wrongs m_says m_evening m_images) sz) (Qw none D (wd_m a_m a_m_refused a_m_codes a_m_noted a_m_marked a_m_masks a_m_text a_m_before a_m_ahead a_m_aside a_m_sure a_m_wrongs a_m_says a_m_evening a_m_images cI cB cT m_words m_kindNow z.1 z.2.1 z.2.2.1 z.2.2.2 m_noteMany m_markMany m_typed m_readAt m_readNumber m_undoMany m_lastGuesses m_above m_below m_refused m_codes m_noted m_marked m_masks m_text m_before m_ahead m_aside m_sure m_wrongs m_says m_evening m_images) (va_A (wd_m a_m a_m_refused a_m_codes a_m_noted a_m_marked a_m_masks a_m_text a_m_before a_m_ahead a_m_aside a_m_sure a_m_wrongs a_m_says a_m_evening a_m_images cI cB cT m_words m_kindNow m_secretNow m_guessed m_left m_wrong m_noteMany m_markMany m_typed m_readAt m_readNumber m_undoMany m_lastGuesses m_above m_below m_refused m_codes m_noted m_marked m_masks m_text m_before m_ahead m_aside m_sure m_wrongs m_says m_evening m_images) sz)) 0 0 (va_A (wd_m a_m a_m_refused a_m_codes a_m_noted a_m_marked a_m_masks a_m_text a_m_before a_m_ahead a_m_aside a_m_sure a_m_wrongs a_m_says a_m_evening a_m_images cI cB cT m_words m_kindNow m_secretNow m_guessed m_left m_wrong m_noteMany m_markMany m_typed m_readAt m_readNumber m_undoMany m_lastGuesses m_above m_below m_refused m_codes m_noted m_marked m_masks m_text m_before m_ahead m_aside m_sure m_wrongs m_says m_evening m_images) sz) := by
  refine wr_intro RX11 (by decide +kernel) rfl (Nat.le_of_ble_eq_true rfl) ?_
  intro p e s m below meth c ls A H locs CF hr hlk hG hP hD hS hA hl
  have hl : lv_has ls 3 [(0, .ref a_m), (1, .ref a_m_aside), (2, .int p2)] := hl
  obtain ⟨hx, hb, hml, hown, hts⟩ := id CF
  unfold f_X11_takes_m_aside at hf
  refine lv_aload_n hx hb dX11_takes_0 rfl (lv_at hl 0 rfl) ?_
  refine lv_aload_n hx hb dX11_takes_1 rfl (lv_at hl 1 rfl) ?_
  refine lv_iload_n hx hb dX11_takes_2 rfl (lv_at hl 2 rfl) ?_
  obtain ⟨n1, hf⟩ := nk hf
  refine va_iald (f := m_aside) hx hb hG.1 hP 9 0 ce_m_9 rfl n1 dX11_takes_3 ?_
  refine va_put (D := D) (ci := 9) (v := .int (m_aside (p2).toNatClampNeg)) (ty := .int) (C := RX11) (T := TX11) (N := 29) hx hb hts fin_X11 tyX11 tyX11_ok nmX11 hown hG.1 hP hD hS 0 ce_m_0 vq_9 4 (by decide) (hts _ wm_926) (fun _ h9 => h9) rfl (tyX11_ok 4 (by decide)) rfl rfl (Nat.le_of_ble_eq_true rfl) dX11_takes_4 (fun H locs hP _ hS => ?_)
  have hP : va_P D vwCl (wd_m a_m a_m_refused a_m_codes a_m_noted a_m_marked a_m_masks a_m_text a_m_before a_m_ahead a_m_aside a_m_sure a_m_wrongs a_m_says a_m_evening a_m_images cI cB cT m_words m_kindNow m_secretNow (m_aside (p2).toNatClampNeg) m_left m_wrong m_noteMany m_markMany m_typed m_readAt m_readNumber m_undoMany m_lastGuesses m_above m_below m_refused m_codes m_noted m_marked m_masks m_text m_before m_ahead m_aside m_sure m_wrongs m_says m_evening m_images) H := va_P_eq se_m_m_guessed hP
  have hD : va_D A (wd_m a_m a_m_refused a_m_codes a_m_noted a_m_marked a_m_masks a_m_text a_m_before a_m_ahead a_m_aside a_m_sure a_m_wrongs a_m_says a_m_evening a_m_images cI cB cT m_words m_kindNow m_secretNow (m_aside (p2).toNatClampNeg) m_left m_wrong m_noteMany m_markMany m_typed m_readAt m_readNumber m_undoMany m_lastGuesses m_above m_below m_refused m_codes m_noted m_marked m_masks m_text m_before m_ahead m_aside m_sure m_wrongs m_says m_evening m_images) := va_D_fst fs_m hD
  refine lv_aload_n hx hb dX11_takes_7 rfl (lv_at hl 0 rfl) ?_
  refine lv_aload_n hx hb dX11_takes_8 rfl (lv_at hl 1 rfl) ?_
  refine lv_iload_n hx hb dX11_takes_9 rfl (lv_at hl 2 rfl) ?_
  refine lv_iconst (v := (1 : Int32)) hx hb dX11_takes_10 (by decide) ?_
  refine lv_iadd hx hb dX11_takes_11 ?_
  obtain ⟨n2, hf⟩ := nk hf
  refine va_iald (f := m_aside) hx hb hG.1 hP 9 0 ce_m_9 rfl n2 dX11_takes_12 ?_
  refine va_put (D := D) (ci := 9) (v := .int (m_aside ((p2 + (1 : Int32))).toNatClampNeg)) (ty := .int) (C := RX11) (T := TX11) (N := 29) hx hb hts fin_X11 tyX11 tyX11_ok nmX11 hown hG.1 hP hD hS 0 ce_m_0 vq_9 5 (by decide) (hts _ wm_927) (fun _ h9 => h9) rfl (tyX11_ok 5 (by decide)) rfl rfl (Nat.le_of_ble_eq_true rfl) dX11_takes_13 (fun H locs hP _ hS => ?_)
  have hP : va_P D vwCl (wd_m a_m a_m_refused a_m_codes a_m_noted a_m_marked a_m_masks a_m_text a_m_before a_m_ahead a_m_aside a_m_sure a_m_wrongs a_m_says a_m_evening a_m_images cI cB cT m_words m_kindNow m_secretNow (m_aside (p2).toNatClampNeg) (m_aside ((p2 + (1 : Int32))).toNatClampNeg) m_wrong m_noteMany m_markMany m_typed m_readAt m_readNumber m_undoMany m_lastGuesses m_above m_below m_refused m_codes m_noted m_marked m_masks m_text m_before m_ahead m_aside m_sure m_wrongs m_says m_evening m_images) H := va_P_eq se_m_m_left hP
  have hD : va_D A (wd_m a_m a_m_refused a_m_codes a_m_noted a_m_marked a_m_masks a_m_text a_m_before a_m_ahead a_m_aside a_m_sure a_m_wrongs a_m_says a_m_evening a_m_images cI cB cT m_words m_kindNow m_secretNow (m_aside (p2).toNatClampNeg) (m_aside ((p2 + (1 : Int32))).toNatClampNeg) m_wrong m_noteMany m_markMany m_typed m_readAt m_readNumber m_undoMany m_lastGuesses m_above m_below m_refused m_codes m_noted m_marked m_masks m_text m_before m_ahead m_aside m_sure m_wrongs m_says m_evening m_images) := va_D_fst fs_m hD
  refine lv_aload_n hx hb dX11_takes_16 rfl (lv_at hl 0 rfl) ?_
  refine lv_aload_n hx hb dX11_takes_17 rfl (lv_at hl 1 rfl) ?_
  refine lv_iload_n hx hb dX11_takes_18 rfl (lv_at hl 2 rfl) ?_
  refine lv_iconst (v := (2 : Int32)) hx hb dX11_takes_19 (by decide) ?_
  refine lv_iadd hx hb dX11_takes_20 ?_
  obtain ⟨n3, hf⟩ := nk hf
  refine va_iald (f := m_aside) hx hb hG.1 hP 9 0 ce_m_9 rfl n3 dX11_takes_21 ?_
  refine va_put (D := D) (ci := 9) (v := .int (m_aside ((p2 + (2 : Int32))).toNatClampNeg)) (ty := .int) (C := RX11) (T := TX11) (N := 29) hx hb hts fin_X11 tyX11 tyX11_ok nmX11 hown hG.1 hP hD hS 0 ce_m_0 vq_9 6 (by decide) (hts _ wm_928) (fun _ h9 => h9) rfl (tyX11_ok 6 (by decide)) rfl rfl (Nat.le_of_ble_eq_true rfl) dX11_takes_22 (fun H locs hP _ hS => ?_)
  have hP : va_P D vwCl (wd_m a_m a_m_refused a_m_codes a_m_noted a_m_marked a_m_masks a_m_text a_m_before a_m_ahead a_m_aside a_m_sure a_m_wrongs a_m_says a_m_evening a_m_images cI cB cT m_words m_kindNow m_secretNow (m_aside (p2).toNatClampNeg) (m_aside ((p2 + (1 : Int32))).toNatClampNeg) (m_aside ((p2 + (2 : Int32))).toNatClampNeg) m_noteMany m_markMany m_typed m_readAt m_readNumber m_undoMany m_lastGuesses m_above m_below m_refused m_codes m_noted m_marked m_masks m_text m_before m_ahead m_aside m_sure m_wrongs m_says m_evening m_images) H := va_P_eq se_m_m_wrong hP
  have hD : va_D A (wd_m a_m a_m_refused a_m_codes a_m_noted a_m_marked a_m_masks a_m_text a_m_before a_m_ahead a_m_aside a_m_sure a_m_wrongs a_m_says a_m_evening a_m_images cI cB cT m_words m_kindNow m_secretNow (m_aside (p2).toNatClampNeg) (m_aside ((p2 + (1 : Int32))).toNatClampNeg) (m_aside ((p2 + (2 : Int32))).toNatClampNeg) m_noteMany m_markMany m_typed m_readAt m_readNumber m_undoMany m_lastGuesses m_above m_below m_refused m_codes m_noted m_marked m_masks m_text m_before m_ahead m_aside m_sure m_wrongs m_says m_evening m_images) := va_D_fst fs_m hD
  refine lv_aload_n hx hb dX11_takes_25 rfl (lv_at hl 0 rfl) ?_
  refine lv_aload_n hx hb dX11_takes_26 rfl (lv_at hl 1 rfl) ?_
  refine lv_iload_n hx hb dX11_takes_27 rfl (lv_at hl 2 rfl) ?_
  refine lv_iconst (v := (3 : Int32)) hx hb dX11_takes_28 (by decide) ?_
  refine lv_iadd hx hb dX11_takes_29 ?_
  obtain ⟨n4, hf⟩ := nk hf
  refine va_iald (f := m_aside) hx hb hG.1 hP 9 0 ce_m_9 rfl n4 dX11_takes_30 ?_
  refine va_put (D := D) (ci := 9) (v := .int (m_aside ((p2 + (3 : Int32))).toNatClampNeg)) (ty := .int) (C := RX11) (T := TX11) (N := 29) hx hb hts fin_X11 tyX11 tyX11_ok nmX11 hown hG.1 hP hD hS 0 ce_m_0 vq_9 3 (by decide) (hts _ wm_925) (fun _ h9 => h9) rfl (tyX11_ok 3 (by decide)) rfl rfl (Nat.le_of_ble_eq_true rfl) dX11_takes_31 (fun H locs hP _ hS => ?_)
  have hP : va_P D vwCl (wd_m a_m a_m_refused a_m_codes a_m_noted a_m_marked a_m_masks a_m_text a_m_before a_m_ahead a_m_aside a_m_sure a_m_wrongs a_m_says a_m_evening a_m_images cI cB cT m_words m_kindNow (m_aside ((p2 + (3 : Int32))).toNatClampNeg) (m_aside (p2).toNatClampNeg) (m_aside ((p2 + (1 : Int32))).toNatClampNeg) (m_aside ((p2 + (2 : Int32))).toNatClampNeg) m_noteMany m_markMany m_typed m_readAt m_readNumber m_undoMany m_lastGuesses m_above m_below m_refused m_codes m_noted m_marked m_masks m_text m_before m_ahead m_aside m_sure m_wrongs m_says m_evening m_images) H := va_P_eq se_m_m_secretNow hP
  have hD : va_D A (wd_m a_m a_m_refused a_m_codes a_m_noted a_m_marked a_m_masks a_m_text a_m_before a_m_ahead a_m_aside a_m_sure a_m_wrongs a_m_says a_m_evening a_m_images cI cB cT m_words m_kindNow (m_aside ((p2 + (3 : Int32))).toNatClampNeg) (m_aside (p2).toNatClampNeg) (m_aside ((p2 + (1 : Int32))).toNatClampNeg) (m_aside ((p2 + (2 : Int32))).toNatClampNeg) m_noteMany m_markMany m_typed m_readAt m_readNumber m_undoMany m_lastGuesses m_above m_below m_refused m_codes m_noted m_marked m_masks m_text m_before m_ahead m_aside m_sure m_wrongs m_says m_evening m_images) := va_D_fst fs_m hD
  obtain rfl := Option.some.inj hf
  exact wr_vret CF hr hlk hP hS dX11_takes_34
end M_X11_takes_m_aside
