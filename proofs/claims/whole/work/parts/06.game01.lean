section M_X1_playOn
variable {p : Program} {l : Launch} {e : Env} {s : State} {m : MethodId} {args : Array Value} {below : List Frame} {meth : Method} {c : Code} {Q : State → Prop} {A : Nat → Prop} {D : va_G} {cI cB cT : ClassId}
variable {a_g a_w a_w_codes a_w_masks a_w_alike a_w_havers : Nat}
def rm_X1_playOn : Room := { frames := 4, cells := 0, slots := 0, locals := 93 }
def B_X1_playOn_9 (w_size : Int32) (w_codes : (Nat → Int32)) (w_masks : (Nat → Int32)) (w_alike : (Nat → Int32)) (w_havers : (Nat → Int32)) (x2 : Int32) (x3 : Int32) (x4 : Int32) (x6 : Int32) (g_left : Int32) (g_guessed : Int32) (g_wrong : Int32) : Option ((Int32 × Int32 × Int32 × Int32) ⊕ (Int32 × Int32 × Int32)) := (if (10 : Int32) ≤ x6 then some (Sum.inr (g_left, g_guessed, g_wrong)) else ((f_J6_bitCount_0f7a4 g_left).bind fun o2 => (if o2 ≤ (1 : Int32) then some (Sum.inr (g_left, g_guessed, g_wrong)) else ((f_X2_choice w_size w_codes w_havers x2 g_left g_guessed).bind fun o5 => (if o5 = (-1 : Int32) then some (Sum.inl ((x6 + (1 : Int32)), g_left, g_guessed, g_wrong)) else ((f_X1_guesses g_guessed).bind fun o8 => ((f_X3_reply w_size w_masks w_alike w_havers x3 x4 g_left o8 o5).bind fun o10 => ((f_X1_put g_left g_guessed g_wrong w_size w_masks o5 o10).bind fun o12 => some (Sum.inl ((x6 + (1 : Int32)), o12.1, o12.2.1, o12.2.2))))))))))
def f_X1_playOn (g_left : Int32) (g_guessed : Int32) (g_wrong : Int32) (w_size : Int32) (w_codes : (Nat → Int32)) (w_masks : (Nat → Int32)) (w_alike : (Nat → Int32)) (w_havers : (Nat → Int32)) (p2 : Int32) (p3 : Int32) (p4 : Int32) : Option (Int32 × Int32 × Int32 × Int32) := ((lp (fun v => B_X1_playOn_9 w_size w_codes w_masks w_alike w_havers p2 p3 p4 v.1 v.2.1 v.2.2.1 v.2.2.2) KN ((0 : Int32), g_left, g_guessed, g_wrong)).bind fun o14 => some ((o14.2.2 - g_wrong), o14.1, o14.2.1, o14.2.2))
set_option maxHeartbeats 4000000 in
set_option maxRecDepth 100000 in
theorem B_X1_playOn_9_W {g_left : Int32} {g_guessed : Int32} {g_wrong : Int32} {w_size : Int32} {w_codes : (Nat → Int32)} {w_masks : (Nat → Int32)} {w_alike : (Nat → Int32)} {w_havers : (Nat → Int32)} {x2 : Int32} {x3 : Int32} {x4 : Int32} {x5 : Int32} {x6 : Int32} (CF : CallFix p m c cX1_playOn 8 s args wsAll RX1) (hG : Gd D cI cB cT s) (hA : ∀ q : Nat, s.heap.size ≤ q → A q) {z : (Int32 × Int32 × Int32 × Int32) ⊕ (Int32 × Int32 × Int32)} {H : Heap} {locs : List Loc} (hk : ∀ (v' : Int32 × Int32 × Int32 × Int32) (H : Heap) (locs : List Loc) (ls : Array Slot), z = Sum.inl v' → va_P D vwCl (wd_g_w a_g a_w a_w_codes a_w_masks a_w_alike a_w_havers cI cB cT (v'.2.1) (v'.2.2.1) (v'.2.2.2) w_size w_codes w_masks w_alike w_havers) H → va_D A (wd_g_w a_g a_w a_w_codes a_w_masks a_w_alike a_w_havers cI cB cT (v'.2.1) (v'.2.2.1) (v'.2.2.2) w_size w_codes w_masks w_alike w_havers) → va_S A s.heap H locs → lv_has ls 8 [(0, .ref a_g), (1, .ref a_w), (2, .int x2), (3, .int x3), (4, .int x4), (5, .int x5), (6, .int (v'.1))] → W p l e rm_X1_playOn s m args below meth c H locs 0 0 Q (F0 m 9 ls [])) (hx0 : ∀ (o' : Int32 × Int32 × Int32) (H : Heap) (locs : List Loc) (ls : Array Slot), z = Sum.inr o' → va_P D vwCl (wd_g_w a_g a_w a_w_codes a_w_masks a_w_alike a_w_havers cI cB cT (o'.1) (o'.2.1) (o'.2.2) w_size w_codes w_masks w_alike w_havers) H → va_D A (wd_g_w a_g a_w a_w_codes a_w_masks a_w_alike a_w_havers cI cB cT (o'.1) (o'.2.1) (o'.2.2) w_size w_codes w_masks w_alike w_havers) → va_S A s.heap H locs → lv_has ls 8 [(0, .ref a_g), (5, .int x5)] → W p l e rm_X1_playOn s m args below meth c H locs 0 0 Q (F0 m 78 ls [])) {ls : Array Slot} (hP : va_P D vwCl (wd_g_w a_g a_w a_w_codes a_w_masks a_w_alike a_w_havers cI cB cT g_left g_guessed g_wrong w_size w_codes w_masks w_alike w_havers) H) (hD : va_D A (wd_g_w a_g a_w a_w_codes a_w_masks a_w_alike a_w_havers cI cB cT g_left g_guessed g_wrong w_size w_codes w_masks w_alike w_havers)) (hS : va_S A s.heap H locs) (hl : lv_has ls 8 [(0, .ref a_g), (1, .ref a_w), (2, .int x2), (3, .int x3), (4, .int x4), (5, .int x5), (6, .int x6)]) (hf : B_X1_playOn_9 w_size w_codes w_masks w_alike w_havers x2 x3 x4 x6 g_left g_guessed g_wrong = some z) : W p l e rm_X1_playOn s m args below meth c H locs 0 0 Q (F0 m 9 ls []) := by
  obtain ⟨hx, hb, hml, hown, hts⟩ := id CF
  unfold B_X1_playOn_9 at hf
  refine lv_iload hx hb dX1_playOn_9 (lv_at hl 6 rfl) ?_
  refine lv_bipush (v := (10 : Int32)) hx hb dX1_playOn_11 (by decide) ?_
  refine lv_icmp_ge (tgt := 78) hx hb dX1_playOn_13 (by decide) (fun c1 => ?_) (fun c1 => ?_)
  · have hf := tk c1 hf
    exact hx0 _ _ _ _ (Option.some.inj hf).symm hP hD hS (lv_sub hl [0, 5] rfl)
  · have hf := fk c1 hf
    refine lv_aload_n hx hb dX1_playOn_16 rfl (lv_at hl 0 rfl) ?_
    refine va_get (D := D) (ci := 1) (v := .int g_left) (C := RX1) (T := TX1) (N := 3) hx hb hts fin_X1 hown hG.1 hP 0 ce_g_w_0 vq_1 0 (by decide) (hts _ wm_149) (fun _ h9 => h9) rfl dX1_playOn_17 ?_
    obtain ⟨o2, e3, hf⟩ := lp_bind hf
    refine ro_Si (x := o2) (As := [.int g_left]) (rest := []) CF (c_J6_bitCount_0f7a4 l D cI cB cT g_left e3) ok_J6_bitCount_0f7a4 wm_523 ⟨rfl, rfl, Nat.le_of_ble_eq_true rfl, Nat.le_of_ble_eq_true rfl⟩ hG wd_E_P rfl hl.1 rfl (Nat.le_of_ble_eq_true rfl) ⟨Nat.zero_le _, Nat.zero_le _⟩ dX1_playOn_20 ?_
    refine lv_iconst (v := (1 : Int32)) hx hb dX1_playOn_23 (by decide) ?_
    refine lv_icmp_le (tgt := 78) hx hb dX1_playOn_24 (by decide) (fun c4 => ?_) (fun c4 => ?_)
    · have hf := tk c4 hf
      exact hx0 _ _ _ _ (Option.some.inj hf).symm hP hD hS (lv_sub hl [0, 5] rfl)
    · have hf := fk c4 hf
      refine lv_iload_n hx hb dX1_playOn_27 rfl (lv_at hl 2 rfl) ?_
      refine lv_aload_n hx hb dX1_playOn_28 rfl (lv_at hl 1 rfl) ?_
      refine lv_aload_n hx hb dX1_playOn_29 rfl (lv_at hl 0 rfl) ?_
      refine va_get (D := D) (ci := 1) (v := .int g_left) (C := RX1) (T := TX1) (N := 3) hx hb hts fin_X1 hown hG.1 hP 0 ce_g_w_0 vq_1 0 (by decide) (hts _ wm_149) (fun _ h9 => h9) rfl dX1_playOn_30 ?_
      refine lv_aload_n hx hb dX1_playOn_33 rfl (lv_at hl 0 rfl) ?_
      refine va_get (D := D) (ci := 1) (v := .int g_guessed) (C := RX1) (T := TX1) (N := 3) hx hb hts fin_X1 hown hG.1 hP 0 ce_g_w_0 vq_1 1 (by decide) (hts _ wm_152) (fun _ h9 => h9) rfl dX1_playOn_34 ?_
      obtain ⟨o5, e6, hf⟩ := lp_bind hf
      have hPc : va_P D vwCl (wd_w a_w a_w_codes a_w_masks a_w_alike a_w_havers cI cB cT w_size w_codes w_masks w_alike w_havers) H := su_0 hP
      refine ro_Si (x := o5) (As := [.int x2, .ref a_w, .int g_left, .int g_guessed]) (rest := []) CF (c_X2_choice l D cI cB cT a_w a_w_codes a_w_masks a_w_alike a_w_havers w_size w_codes w_masks w_alike w_havers x2 g_left g_guessed e6) ok_X2_choice wm_766 ⟨rfl, rfl, Nat.le_of_ble_eq_true rfl, Nat.le_of_ble_eq_true rfl⟩ hG hPc rfl hl.1 rfl (Nat.le_of_ble_eq_true rfl) ⟨Nat.zero_le _, Nat.zero_le _⟩ dX1_playOn_37 ?_
      refine lv_istore (lv' := [(7, .int o5), (0, .ref a_g), (1, .ref a_w), (2, .int x2), (3, .int x3), (4, .int x4), (5, .int x5), (6, .int x6)]) hx hb dX1_playOn_40 hl (by decide) rfl (fun ls hl => ?_)
      refine lv_iload hx hb dX1_playOn_42 (lv_at hl 0 rfl) ?_
      refine lv_iconst (v := (-1 : Int32)) hx hb dX1_playOn_44 (by decide) ?_
      refine lv_icmp_eq (tgt := 72) hx hb dX1_playOn_45 (by decide) (fun c7 => ?_) (fun c7 => ?_)
      · have hf := tk c7 hf
        refine lv_iinc (v := (x6 + (1 : Int32))) (lv' := [(6, .int (x6 + (1 : Int32))), (7, .int o5), (0, .ref a_g), (1, .ref a_w), (2, .int x2), (3, .int x3), (4, .int x4), (5, .int x5)]) hx hb dX1_playOn_72 hl (k := 7) rfl (iinc_eq (by decide)) (by decide) rfl (fun ls hl => ?_)
        refine lv_goto (tgt := 9) hx hb dX1_playOn_75 (by decide) ?_
        exact hk _ _ _ _ (Option.some.inj hf).symm hP hD hS (lv_sub hl [2, 3, 4, 5, 6, 7, 0] rfl)
      · have hf := fk c7 hf
        refine lv_aload_n hx hb dX1_playOn_48 rfl (lv_at hl 1 rfl) ?_
        refine lv_aload_n hx hb dX1_playOn_49 rfl (lv_at hl 2 rfl) ?_
        refine lv_iload hx hb dX1_playOn_50 (lv_at hl 0 rfl) ?_
        refine lv_iload_n hx hb dX1_playOn_52 rfl (lv_at hl 4 rfl) ?_
        refine lv_aload_n hx hb dX1_playOn_53 rfl (lv_at hl 2 rfl) ?_
        refine lv_iload hx hb dX1_playOn_54 (lv_at hl 5 rfl) ?_
        refine lv_aload_n hx hb dX1_playOn_56 rfl (lv_at hl 1 rfl) ?_
        refine va_get (D := D) (ci := 1) (v := .int g_left) (C := RX1) (T := TX1) (N := 3) hx hb hts fin_X1 hown hG.1 hP 0 ce_g_w_0 vq_1 0 (by decide) (hts _ wm_149) (fun _ h9 => h9) rfl dX1_playOn_57 ?_
        refine lv_aload_n hx hb dX1_playOn_60 rfl (lv_at hl 1 rfl) ?_
        obtain ⟨o8, e9, hf⟩ := lp_bind hf
        have hPc : va_P D vwCl (wd_g a_g cI cB cT g_left g_guessed g_wrong) H := su_1 hP
        refine ro_Vi (x := o8) (As := []) (rest := [.int g_left, .int x4, .ref a_w, .int x3, .int o5, .ref a_w, .ref a_g]) CF (c_X1_guesses l D cI cB cT a_g g_left g_guessed g_wrong e9) ok_X1_guesses wm_767 ⟨rfl, rfl, Nat.le_of_ble_eq_true rfl, Nat.le_of_ble_eq_true rfl⟩ hG hPc 0 1 vq_1 rfl ce_g_0 rfl hl.1 rfl (Nat.le_of_ble_eq_true rfl) ⟨Nat.zero_le _, Nat.zero_le _⟩ dX1_playOn_61 ?_
        refine lv_iload hx hb dX1_playOn_64 (lv_at hl 0 rfl) ?_
        obtain ⟨o10, e11, hf⟩ := lp_bind hf
        have hPc : va_P D vwCl (wd_w a_w a_w_codes a_w_masks a_w_alike a_w_havers cI cB cT w_size w_codes w_masks w_alike w_havers) H := su_0 hP
        refine ro_Si (x := o10) (As := [.int x3, .ref a_w, .int x4, .int g_left, .int o8, .int o5]) (rest := [.int o5, .ref a_w, .ref a_g]) CF (c_X3_reply l D cI cB cT a_w a_w_codes a_w_masks a_w_alike a_w_havers w_size w_codes w_masks w_alike w_havers x3 x4 g_left o8 o5 e11) ok_X3_reply wm_768 ⟨rfl, rfl, Nat.le_of_ble_eq_true rfl, Nat.le_of_ble_eq_true rfl⟩ hG hPc rfl hl.1 rfl (Nat.le_of_ble_eq_true rfl) ⟨Nat.zero_le _, Nat.zero_le _⟩ dX1_playOn_66 ?_
        obtain ⟨o12, e13, hf⟩ := lp_bind hf
        refine wr_Wv (ws' := (wd_g_w a_g a_w a_w_codes a_w_masks a_w_alike a_w_havers cI cB cT o12.1 o12.2.1 o12.2.2 w_size w_codes w_masks w_alike w_havers)) (As := [.ref a_w, .int o5, .int o10]) (rest := []) CF (c_X1_put l D cI cB cT H.size a_g a_w a_w_codes a_w_masks a_w_alike a_w_havers g_left g_guessed g_wrong w_size w_codes w_masks w_alike w_havers o5 o10 e13) ok_X1_put wm_769 ⟨rfl, rfl, Nat.le_of_ble_eq_true rfl, Nat.le_of_ble_eq_true rfl⟩ hG hP hD hS hA fs_g_w 0 1 vq_1 rfl ce_g_w_0 rfl hl.1 rfl (Nat.le_of_ble_eq_true rfl) ⟨Nat.zero_le _, Nat.zero_le _⟩ dX1_playOn_69 (fun H locs hP hD hS => ?_)
        refine lv_iinc (v := (x6 + (1 : Int32))) (lv' := [(6, .int (x6 + (1 : Int32))), (7, .int o5), (0, .ref a_g), (1, .ref a_w), (2, .int x2), (3, .int x3), (4, .int x4), (5, .int x5)]) hx hb dX1_playOn_72 hl (k := 7) rfl (iinc_eq (by decide)) (by decide) rfl (fun ls hl => ?_)
        refine lv_goto (tgt := 9) hx hb dX1_playOn_75 (by decide) ?_
        exact hk _ _ _ _ (Option.some.inj hf).symm hP hD hS (lv_sub hl [2, 3, 4, 5, 6, 7, 0] rfl)
set_option maxHeartbeats 4000000 in
set_option maxRecDepth 100000 in
theorem L_X1_playOn_9_W {w_size : Int32} {w_codes : (Nat → Int32)} {w_masks : (Nat → Int32)} {w_alike : (Nat → Int32)} {w_havers : (Nat → Int32)} {x2 : Int32} {x3 : Int32} {x4 : Int32} {x5 : Int32} (CF : CallFix p m c cX1_playOn 8 s args wsAll RX1) (hG : Gd D cI cB cT s) (hA : ∀ q : Nat, s.heap.size ≤ q → A q) {o : Int32 × Int32 × Int32} (hx0 : ∀ (H : Heap) (locs : List Loc) (ls : Array Slot), va_P D vwCl (wd_g_w a_g a_w a_w_codes a_w_masks a_w_alike a_w_havers cI cB cT o.1 o.2.1 o.2.2 w_size w_codes w_masks w_alike w_havers) H → va_D A (wd_g_w a_g a_w a_w_codes a_w_masks a_w_alike a_w_havers cI cB cT o.1 o.2.1 o.2.2 w_size w_codes w_masks w_alike w_havers) → va_S A s.heap H locs → lv_has ls 8 [(0, .ref a_g), (5, .int x5)] → W p l e rm_X1_playOn s m args below meth c H locs 0 0 Q (F0 m 78 ls [])) : ∀ (n : Nat) (x6 : Int32) (g_left : Int32) (g_guessed : Int32) (g_wrong : Int32) (H : Heap) (locs : List Loc) (ls : Array Slot), va_P D vwCl (wd_g_w a_g a_w a_w_codes a_w_masks a_w_alike a_w_havers cI cB cT g_left g_guessed g_wrong w_size w_codes w_masks w_alike w_havers) H → va_D A (wd_g_w a_g a_w a_w_codes a_w_masks a_w_alike a_w_havers cI cB cT g_left g_guessed g_wrong w_size w_codes w_masks w_alike w_havers) → va_S A s.heap H locs → lv_has ls 8 [(0, .ref a_g), (1, .ref a_w), (2, .int x2), (3, .int x3), (4, .int x4), (5, .int x5), (6, .int x6)] → lp (fun v => B_X1_playOn_9 w_size w_codes w_masks w_alike w_havers x2 x3 x4 v.1 v.2.1 v.2.2.1 v.2.2.2) n (x6, g_left, g_guessed, g_wrong) = some o → W p l e rm_X1_playOn s m args below meth c H locs 0 0 Q (F0 m 9 ls []) := by
  intro n
  induction n with
  | zero =>
    intro x6 g_left g_guessed g_wrong H locs ls hP hD hS hl hf
    exact (lp_zero hf).elim
  | succ n ih =>
    intro x6 g_left g_guessed g_wrong H locs ls hP hD hS hl hf
    obtain ⟨z, hz, hf⟩ := lp_succ hf
    refine B_X1_playOn_9_W CF hG hA ?_ ?_ hP hD hS hl hz
    · intro v' H locs ls ez hP hD hS hl
      rcases hf with ⟨v2, ev, hf⟩ | ev
      · cases Sum.inl.inj (ez.symm.trans ev)
        exact ih v'.1 v'.2.1 v'.2.2.1 v'.2.2.2 H locs ls hP hD hS hl hf
      · exact (lp_lr (ez.symm.trans ev)).elim
    · intro o' H locs ls ez hP hD hS hl
      rcases hf with ⟨v2, ev, hf⟩ | ev
      · exact (lp_lr (ev.symm.trans ez)).elim
      · cases Sum.inr.inj (ez.symm.trans ev)
        exact hx0 H locs ls hP hD hS hl
set_option maxHeartbeats 4000000 in
set_option maxRecDepth 100000 in
theorem c_X1_playOn (l : Launch) (D : va_G) (cI cB cT : ClassId) (sz : Nat) (a_g a_w a_w_codes a_w_masks a_w_alike a_w_havers : Nat) (g_left : Int32) (g_guessed : Int32) (g_wrong : Int32) (w_size : Int32) (w_codes : (Nat → Int32)) (w_masks : (Nat → Int32)) (w_alike : (Nat → Int32)) (w_havers : (Nat → Int32)) (p2 : Int32) (p3 : Int32) (p4 : Int32) {z : Int32 × Int32 × Int32 × Int32} (hf : f_X1_playOn g_left g_guessed g_wrong w_size w_codes w_masks w_alike w_havers p2 p3 p4 = some z) :
    Met l yX1_playOn (Cond.code yX1_playOn cX1_playOn 8 (some .int) :: wsAll) rm_X1_playOn (Pwr [.ref a_g, .ref a_w, .int p2, .int p3, .int p4] D cI cB cT (wd_g_w a_g a_w a_w_codes a_w_masks a_w_alike a_w_havers cI cB cT g_left g_guessed g_wrong w_size w_codes w_masks w_alike w_havers) sz) (Qw (some (.int z.1)) D (wd_g_w a_g a_w a_w_codes a_w_masks a_w_alike a_w_havers cI cB cT z.2.1 z.2.2.1 z.2.2.2 w_size w_codes w_masks w_alike w_havers) (va_A (wd_g_w a_g a_w a_w_codes a_w_masks a_w_alike a_w_havers cI cB cT g_left g_guessed g_wrong w_size w_codes w_masks w_alike w_havers) sz)) 0 0 (va_A (wd_g_w a_g a_w a_w_codes a_w_masks a_w_alike a_w_havers cI cB cT g_left g_guessed g_wrong w_size w_codes w_masks w_alike w_havers) sz) := by
  refine wr_intro RX1 (by decide +kernel) rfl (Nat.le_of_ble_eq_true rfl) ?_
  intro p e s m below meth c ls A H locs CF hr hlk hG hP hD hS hA hl
  have hl : lv_has ls 8 [(0, .ref a_g), (1, .ref a_w), (2, .int p2), (3, .int p3), (4, .int p4)] := hl
  obtain ⟨hx, hb, hml, hown, hts⟩ := id CF
  unfold f_X1_playOn at hf
  refine lv_aload_n hx hb dX1_playOn_0 rfl (lv_at hl 0 rfl) ?_
  refine va_get (D := D) (ci := 1) (v := .int g_wrong) (C := RX1) (T := TX1) (N := 3) hx hb hts fin_X1 hown hG.1 hP 0 ce_g_w_0 vq_1 2 (by decide) (hts _ wm_156) (fun _ h9 => h9) rfl dX1_playOn_1 ?_
  refine lv_istore (lv' := [(5, .int g_wrong), (0, .ref a_g), (1, .ref a_w), (2, .int p2), (3, .int p3), (4, .int p4)]) hx hb dX1_playOn_4 hl (by decide) rfl (fun ls hl => ?_)
  refine lv_iconst (v := (0 : Int32)) hx hb dX1_playOn_6 (by decide) ?_
  refine lv_istore (lv' := [(6, .int (0 : Int32)), (5, .int g_wrong), (0, .ref a_g), (1, .ref a_w), (2, .int p2), (3, .int p3), (4, .int p4)]) hx hb dX1_playOn_7 hl (by decide) rfl (fun ls hl => ?_)
  obtain ⟨o14, e15, hf⟩ := lp_bind hf
  refine L_X1_playOn_9_W CF hG hA ?_ KN _ _ _ _ _ _ _ hP hD hS (lv_sub hl [2, 3, 4, 5, 6, 1, 0] rfl) e15
  intro H locs ls hP hD hS hl
  refine lv_aload_n hx hb dX1_playOn_78 rfl (lv_at hl 0 rfl) ?_
  refine va_get (D := D) (ci := 1) (v := .int o14.2.2) (C := RX1) (T := TX1) (N := 3) hx hb hts fin_X1 hown hG.1 hP 0 ce_g_w_0 vq_1 2 (by decide) (hts _ wm_156) (fun _ h9 => h9) rfl dX1_playOn_79 ?_
  refine lv_iload hx hb dX1_playOn_82 (lv_at hl 1 rfl) ?_
  refine lv_isub hx hb dX1_playOn_84 ?_
  obtain rfl := Option.some.inj hf
  exact wr_iret CF hr hlk hP hS dX1_playOn_85
end M_X1_playOn
