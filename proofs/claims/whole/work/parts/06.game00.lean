section M_X1_begin
variable {p : Program} {l : Launch} {e : Env} {s : State} {m : MethodId} {args : Array Value} {below : List Frame} {meth : Method} {c : Code} {Q : State → Prop} {A : Nat → Prop} {D : va_G} {cI cB cT : ClassId}
variable {a_g : Nat}
def rm_X1_begin : Room := { frames := 0, cells := 0, slots := 0, locals := 0 }
def f_X1_begin (p1 : Int32) : Option (Int32 × Int32 × Int32) := some (p1, (0 : Int32), (0 : Int32))
set_option maxHeartbeats 4000000 in
set_option maxRecDepth 100000 in
theorem c_X1_begin (l : Launch) (D : va_G) (cI cB cT : ClassId) (sz : Nat) (a_g : Nat) (g_left : Int32) (g_guessed : Int32) (g_wrong : Int32) (p1 : Int32) {z : Int32 × Int32 × Int32} (hf : f_X1_begin p1 = some z) :
    Met l yX1_begin (Cond.code yX1_begin cX1_begin 2 none :: wsAll) rm_X1_begin (Pwr [.ref a_g, .int p1] D cI cB cT (wd_g a_g cI cB cT g_left g_guessed g_wrong) sz) (Qw none D (wd_g a_g cI cB cT z.1 z.2.1 z.2.2) (va_A (wd_g a_g cI cB cT g_left g_guessed g_wrong) sz)) 0 0 (va_A (wd_g a_g cI cB cT g_left g_guessed g_wrong) sz) := by
  refine wr_intro RX1 (by decide +kernel) rfl (Nat.le_of_ble_eq_true rfl) ?_
  intro p e s m below meth c ls A H locs CF hr hlk hG hP hD hS hA hl
  have hl : lv_has ls 2 [(0, .ref a_g), (1, .int p1)] := hl
  obtain ⟨hx, hb, hml, hown, hts⟩ := id CF
  unfold f_X1_begin at hf
  refine lv_aload_n hx hb dX1_begin_0 rfl (lv_at hl 0 rfl) ?_
  refine lv_iload_n hx hb dX1_begin_1 rfl (lv_at hl 1 rfl) ?_
  refine va_put (D := D) (ci := 1) (v := .int p1) (ty := .int) (C := RX1) (T := TX1) (N := 3) hx hb hts fin_X1 tyX1 tyX1_ok nmX1 hown hG.1 hP hD hS 0 ce_g_0 vq_1 0 (by decide) (hts _ wm_149) (fun _ h9 => h9) rfl (tyX1_ok 0 (by decide)) rfl rfl (Nat.le_of_ble_eq_true rfl) dX1_begin_2 (fun H locs hP _ hS => ?_)
  have hP : va_P D vwCl (wd_g a_g cI cB cT p1 g_guessed g_wrong) H := va_P_eq se_g_g_left hP
  have hD : va_D A (wd_g a_g cI cB cT p1 g_guessed g_wrong) := va_D_fst fs_g hD
  refine lv_aload_n hx hb dX1_begin_5 rfl (lv_at hl 0 rfl) ?_
  refine lv_iconst (v := (0 : Int32)) hx hb dX1_begin_6 (by decide) ?_
  refine va_put (D := D) (ci := 1) (v := .int (0 : Int32)) (ty := .int) (C := RX1) (T := TX1) (N := 3) hx hb hts fin_X1 tyX1 tyX1_ok nmX1 hown hG.1 hP hD hS 0 ce_g_0 vq_1 1 (by decide) (hts _ wm_152) (fun _ h9 => h9) rfl (tyX1_ok 1 (by decide)) rfl rfl (Nat.le_of_ble_eq_true rfl) dX1_begin_7 (fun H locs hP _ hS => ?_)
  have hP : va_P D vwCl (wd_g a_g cI cB cT p1 (0 : Int32) g_wrong) H := va_P_eq se_g_g_guessed hP
  have hD : va_D A (wd_g a_g cI cB cT p1 (0 : Int32) g_wrong) := va_D_fst fs_g hD
  refine lv_aload_n hx hb dX1_begin_10 rfl (lv_at hl 0 rfl) ?_
  refine lv_iconst (v := (0 : Int32)) hx hb dX1_begin_11 (by decide) ?_
  refine va_put (D := D) (ci := 1) (v := .int (0 : Int32)) (ty := .int) (C := RX1) (T := TX1) (N := 3) hx hb hts fin_X1 tyX1 tyX1_ok nmX1 hown hG.1 hP hD hS 0 ce_g_0 vq_1 2 (by decide) (hts _ wm_156) (fun _ h9 => h9) rfl (tyX1_ok 2 (by decide)) rfl rfl (Nat.le_of_ble_eq_true rfl) dX1_begin_12 (fun H locs hP _ hS => ?_)
  have hP : va_P D vwCl (wd_g a_g cI cB cT p1 (0 : Int32) (0 : Int32)) H := va_P_eq se_g_g_wrong hP
  have hD : va_D A (wd_g a_g cI cB cT p1 (0 : Int32) (0 : Int32)) := va_D_fst fs_g hD
  obtain rfl := Option.some.inj hf
  exact wr_vret CF hr hlk hP hS dX1_begin_15
end M_X1_begin
section M_X1_isOpen
variable {p : Program} {l : Launch} {e : Env} {s : State} {m : MethodId} {args : Array Value} {below : List Frame} {meth : Method} {c : Code} {Q : State → Prop} {A : Nat → Prop} {D : va_G} {cI cB cT : ClassId}
variable {a_g : Nat}
def rm_X1_isOpen : Room := { frames := 0, cells := 0, slots := 0, locals := 0 }
def f_X1_isOpen (g_left : Int32) (g_guessed : Int32) (p1 : Int32) : Option (Int32) := (if g_left = 0 then some (0 : Int32) else (if ((g_guessed >>> (p1 &&& 31)) &&& (1 : Int32)) = 0 then some (1 : Int32) else some (0 : Int32)))
set_option maxHeartbeats 4000000 in
set_option maxRecDepth 100000 in
theorem c_X1_isOpen (l : Launch) (D : va_G) (cI cB cT : ClassId) (a_g : Nat) (g_left : Int32) (g_guessed : Int32) (g_wrong : Int32) (p1 : Int32) {z : Int32} (hf : f_X1_isOpen g_left g_guessed p1 = some z) :
    Met l yX1_isOpen (Cond.code yX1_isOpen cX1_isOpen 2 (some .boolean) :: wsAll) rm_X1_isOpen (Pro [.ref a_g, .int p1] D cI cB cT (wd_g a_g cI cB cT g_left g_guessed g_wrong)) (Qr (some (.int z))) 0 0 (fun _ => False) := by
  refine ro_intro RX1 (by decide +kernel) rfl (Nat.le_of_ble_eq_true rfl) ?_
  intro p e s m below meth c ls CF hr hlk hG hP hl
  have hl : lv_has ls 2 [(0, .ref a_g), (1, .int p1)] := hl
  obtain ⟨hx, hb, hml, hown, hts⟩ := id CF
  unfold f_X1_isOpen at hf
  refine lv_aload_n hx hb dX1_isOpen_0 rfl (lv_at hl 0 rfl) ?_
  refine va_get (D := D) (ci := 1) (v := .int g_left) (C := RX1) (T := TX1) (N := 3) hx hb hts fin_X1 hown hG.1 hP 0 ce_g_0 vq_1 0 (by decide) (hts _ wm_149) (fun _ h9 => h9) rfl dX1_isOpen_1 ?_
  refine lv_if_eq (tgt := 22) hx hb dX1_isOpen_4 (by decide) (fun c1 => ?_) (fun c1 => ?_)
  · have hf := tk c1 hf
    refine lv_iconst (v := (0 : Int32)) hx hb dX1_isOpen_22 (by decide) ?_
    obtain rfl := Option.some.inj hf
    exact ro_zret CF hr hlk (Or.inl rfl) dX1_isOpen_23
  · have hf := fk c1 hf
    refine lv_aload_n hx hb dX1_isOpen_7 rfl (lv_at hl 0 rfl) ?_
    refine va_get (D := D) (ci := 1) (v := .int g_guessed) (C := RX1) (T := TX1) (N := 3) hx hb hts fin_X1 hown hG.1 hP 0 ce_g_0 vq_1 1 (by decide) (hts _ wm_152) (fun _ h9 => h9) rfl dX1_isOpen_8 ?_
    refine lv_iload_n hx hb dX1_isOpen_11 rfl (lv_at hl 1 rfl) ?_
    refine lv_ishr hx hb dX1_isOpen_12 ?_
    refine lv_iconst (v := (1 : Int32)) hx hb dX1_isOpen_13 (by decide) ?_
    refine lv_iand hx hb dX1_isOpen_14 ?_
    refine lv_if_ne (tgt := 22) hx hb dX1_isOpen_15 (by decide) (fun c2 => ?_) (fun c2 => ?_)
    · have hf := fk c2 hf
      refine lv_iconst (v := (0 : Int32)) hx hb dX1_isOpen_22 (by decide) ?_
      obtain rfl := Option.some.inj hf
      exact ro_zret CF hr hlk (Or.inl rfl) dX1_isOpen_23
    · have hf := tk c2 hf
      refine lv_iconst (v := (1 : Int32)) hx hb dX1_isOpen_18 (by decide) ?_
      refine lv_goto (tgt := 23) hx hb dX1_isOpen_19 (by decide) ?_
      obtain rfl := Option.some.inj hf
      exact ro_zret CF hr hlk (Or.inr rfl) dX1_isOpen_23
end M_X1_isOpen
section M_X1_guesses
variable {p : Program} {l : Launch} {e : Env} {s : State} {m : MethodId} {args : Array Value} {below : List Frame} {meth : Method} {c : Code} {Q : State → Prop} {A : Nat → Prop} {D : va_G} {cI cB cT : ClassId}
variable {a_g : Nat}
def rm_X1_guesses : Room := { frames := 1, cells := 0, slots := 0, locals := 20 }
def f_X1_guesses (g_guessed : Int32) : Option (Int32) := ((f_J6_bitCount_0f7a4 g_guessed).bind fun o1 => some o1)
set_option maxHeartbeats 4000000 in
set_option maxRecDepth 100000 in
theorem c_X1_guesses (l : Launch) (D : va_G) (cI cB cT : ClassId) (a_g : Nat) (g_left : Int32) (g_guessed : Int32) (g_wrong : Int32) {z : Int32} (hf : f_X1_guesses g_guessed = some z) :
    Met l yX1_guesses (Cond.code yX1_guesses cX1_guesses 1 (some .int) :: wsAll) rm_X1_guesses (Pro [.ref a_g] D cI cB cT (wd_g a_g cI cB cT g_left g_guessed g_wrong)) (Qr (some (.int z))) 0 0 (fun _ => False) := by
  refine ro_intro RX1 (by decide +kernel) rfl (Nat.le_of_ble_eq_true rfl) ?_
  intro p e s m below meth c ls CF hr hlk hG hP hl
  have hl : lv_has ls 1 [(0, .ref a_g)] := hl
  obtain ⟨hx, hb, hml, hown, hts⟩ := id CF
  unfold f_X1_guesses at hf
  refine lv_aload_n hx hb dX1_guesses_0 rfl (lv_at hl 0 rfl) ?_
  refine va_get (D := D) (ci := 1) (v := .int g_guessed) (C := RX1) (T := TX1) (N := 3) hx hb hts fin_X1 hown hG.1 hP 0 ce_g_0 vq_1 1 (by decide) (hts _ wm_152) (fun _ h9 => h9) rfl dX1_guesses_1 ?_
  obtain ⟨o1, e2, hf⟩ := lp_bind hf
  refine ro_Si (x := o1) (As := [.int g_guessed]) (rest := []) CF (c_J6_bitCount_0f7a4 l D cI cB cT g_guessed e2) ok_J6_bitCount_0f7a4 wm_523 ⟨rfl, rfl, Nat.le_of_ble_eq_true rfl, Nat.le_of_ble_eq_true rfl⟩ hG wd_E_P rfl hl.1 rfl (Nat.le_of_ble_eq_true rfl) ⟨Nat.zero_le _, Nat.zero_le _⟩ dX1_guesses_4 ?_
  obtain rfl := Option.some.inj hf
  exact ro_iret CF hr hlk dX1_guesses_7
end M_X1_guesses
section M_X1_put
variable {p : Program} {l : Launch} {e : Env} {s : State} {m : MethodId} {args : Array Value} {below : List Frame} {meth : Method} {c : Code} {Q : State → Prop} {A : Nat → Prop} {D : va_G} {cI cB cT : ClassId}
variable {a_g a_w a_w_codes a_w_masks a_w_alike a_w_havers : Nat}
def rm_X1_put : Room := { frames := 2, cells := 0, slots := 0, locals := 47 }
def f_X1_put (g_left : Int32) (g_guessed : Int32) (g_wrong : Int32) (w_size : Int32) (w_masks : (Nat → Int32)) (p2 : Int32) (p3 : Int32) : Option (Int32 × Int32 × Int32) := ((f_X9_withMask w_size w_masks g_left p2 p3).bind fun o1 => (if p3 = 0 then some (o1, (g_guessed ||| ((1 : Int32) <<< (p2 &&& 31))), (g_wrong + (1 : Int32))) else some (o1, (g_guessed ||| ((1 : Int32) <<< (p2 &&& 31))), g_wrong)))
set_option maxHeartbeats 4000000 in
set_option maxRecDepth 100000 in
theorem c_X1_put (l : Launch) (D : va_G) (cI cB cT : ClassId) (sz : Nat) (a_g a_w a_w_codes a_w_masks a_w_alike a_w_havers : Nat) (g_left : Int32) (g_guessed : Int32) (g_wrong : Int32) (w_size : Int32) (w_codes : (Nat → Int32)) (w_masks : (Nat → Int32)) (w_alike : (Nat → Int32)) (w_havers : (Nat → Int32)) (p2 : Int32) (p3 : Int32) {z : Int32 × Int32 × Int32} (hf : f_X1_put g_left g_guessed g_wrong w_size w_masks p2 p3 = some z) :
    Met l yX1_put (Cond.code yX1_put cX1_put 4 none :: wsAll) rm_X1_put (Pwr [.ref a_g, .ref a_w, .int p2, .int p3] D cI cB cT (wd_g_w a_g a_w a_w_codes a_w_masks a_w_alike a_w_havers cI cB cT g_left g_guessed g_wrong w_size w_codes w_masks w_alike w_havers) sz) (Qw none D (wd_g_w a_g a_w a_w_codes a_w_masks a_w_alike a_w_havers cI cB cT z.1 z.2.1 z.2.2 w_size w_codes w_masks w_alike w_havers) (va_A (wd_g_w a_g a_w a_w_codes a_w_masks a_w_alike a_w_havers cI cB cT g_left g_guessed g_wrong w_size w_codes w_masks w_alike w_havers) sz)) 0 0 (va_A (wd_g_w a_g a_w a_w_codes a_w_masks a_w_alike a_w_havers cI cB cT g_left g_guessed g_wrong w_size w_codes w_masks w_alike w_havers) sz) := by
  refine wr_intro RX1 (by decide +kernel) rfl (Nat.le_of_ble_eq_true rfl) ?_
  intro p e s m below meth c ls A H locs CF hr hlk hG hP hD hS hA hl
  have hl : lv_has ls 4 [(0, .ref a_g), (1, .ref a_w), (2, .int p2), (3, .int p3)] := hl
  obtain ⟨hx, hb, hml, hown, hts⟩ := id CF
  unfold f_X1_put at hf
  refine lv_aload_n hx hb dX1_put_0 rfl (lv_at hl 0 rfl) ?_
  refine lv_aload_n hx hb dX1_put_1 rfl (lv_at hl 1 rfl) ?_
  refine lv_aload_n hx hb dX1_put_2 rfl (lv_at hl 0 rfl) ?_
  refine va_get (D := D) (ci := 1) (v := .int g_left) (C := RX1) (T := TX1) (N := 3) hx hb hts fin_X1 hown hG.1 hP 0 ce_g_w_0 vq_1 0 (by decide) (hts _ wm_149) (fun _ h9 => h9) rfl dX1_put_3 ?_
  refine lv_iload_n hx hb dX1_put_6 rfl (lv_at hl 2 rfl) ?_
  refine lv_iload_n hx hb dX1_put_7 rfl (lv_at hl 3 rfl) ?_
  obtain ⟨o1, e2, hf⟩ := lp_bind hf
  have hPc : va_P D vwCl (wd_w a_w a_w_codes a_w_masks a_w_alike a_w_havers cI cB cT w_size w_codes w_masks w_alike w_havers) H := su_0 hP
  refine ro_Vi (x := o1) (As := [.int g_left, .int p2, .int p3]) (rest := [.ref a_g]) CF (c_X9_withMask l D cI cB cT a_w a_w_codes a_w_masks a_w_alike a_w_havers w_size w_codes w_masks w_alike w_havers g_left p2 p3 e2) ok_X9_withMask wm_576 ⟨rfl, rfl, Nat.le_of_ble_eq_true rfl, Nat.le_of_ble_eq_true rfl⟩ hG hPc 0 7 vq_7 rfl ce_w_0 rfl hl.1 rfl (Nat.le_of_ble_eq_true rfl) ⟨Nat.zero_le _, Nat.zero_le _⟩ dX1_put_8 ?_
  refine va_put (D := D) (ci := 1) (v := .int o1) (ty := .int) (C := RX1) (T := TX1) (N := 3) hx hb hts fin_X1 tyX1 tyX1_ok nmX1 hown hG.1 hP hD hS 0 ce_g_w_0 vq_1 0 (by decide) (hts _ wm_149) (fun _ h9 => h9) rfl (tyX1_ok 0 (by decide)) rfl rfl (Nat.le_of_ble_eq_true rfl) dX1_put_11 (fun H locs hP _ hS => ?_)
  have hP : va_P D vwCl (wd_g_w a_g a_w a_w_codes a_w_masks a_w_alike a_w_havers cI cB cT o1 g_guessed g_wrong w_size w_codes w_masks w_alike w_havers) H := va_P_eq se_g_w_g_left hP
  have hD : va_D A (wd_g_w a_g a_w a_w_codes a_w_masks a_w_alike a_w_havers cI cB cT o1 g_guessed g_wrong w_size w_codes w_masks w_alike w_havers) := va_D_fst fs_g_w hD
  refine lv_aload_n hx hb dX1_put_14 rfl (lv_at hl 0 rfl) ?_
  refine lv_dup hx hb dX1_put_15 rfl ?_
  refine va_get (D := D) (ci := 1) (v := .int g_guessed) (C := RX1) (T := TX1) (N := 3) hx hb hts fin_X1 hown hG.1 hP 0 ce_g_w_0 vq_1 1 (by decide) (hts _ wm_152) (fun _ h9 => h9) rfl dX1_put_16 ?_
  refine lv_iconst (v := (1 : Int32)) hx hb dX1_put_19 (by decide) ?_
  refine lv_iload_n hx hb dX1_put_20 rfl (lv_at hl 2 rfl) ?_
  refine lv_ishl hx hb dX1_put_21 ?_
  refine lv_ior hx hb dX1_put_22 ?_
  refine va_put (D := D) (ci := 1) (v := .int (g_guessed ||| ((1 : Int32) <<< (p2 &&& 31)))) (ty := .int) (C := RX1) (T := TX1) (N := 3) hx hb hts fin_X1 tyX1 tyX1_ok nmX1 hown hG.1 hP hD hS 0 ce_g_w_0 vq_1 1 (by decide) (hts _ wm_152) (fun _ h9 => h9) rfl (tyX1_ok 1 (by decide)) rfl rfl (Nat.le_of_ble_eq_true rfl) dX1_put_23 (fun H locs hP _ hS => ?_)
  have hP : va_P D vwCl (wd_g_w a_g a_w a_w_codes a_w_masks a_w_alike a_w_havers cI cB cT o1 (g_guessed ||| ((1 : Int32) <<< (p2 &&& 31))) g_wrong w_size w_codes w_masks w_alike w_havers) H := va_P_eq se_g_w_g_guessed hP
  have hD : va_D A (wd_g_w a_g a_w a_w_codes a_w_masks a_w_alike a_w_havers cI cB cT o1 (g_guessed ||| ((1 : Int32) <<< (p2 &&& 31))) g_wrong w_size w_codes w_masks w_alike w_havers) := va_D_fst fs_g_w hD
  refine lv_iload_n hx hb dX1_put_26 rfl (lv_at hl 3 rfl) ?_
  refine lv_if_ne (tgt := 40) hx hb dX1_put_27 (by decide) (fun c3 => ?_) (fun c3 => ?_)
  · have hf := fk c3 hf
    obtain rfl := Option.some.inj hf
    exact wr_vret CF hr hlk hP hS dX1_put_40
  · have hf := tk c3 hf
    refine lv_aload_n hx hb dX1_put_30 rfl (lv_at hl 0 rfl) ?_
    refine lv_dup hx hb dX1_put_31 rfl ?_
    refine va_get (D := D) (ci := 1) (v := .int g_wrong) (C := RX1) (T := TX1) (N := 3) hx hb hts fin_X1 hown hG.1 hP 0 ce_g_w_0 vq_1 2 (by decide) (hts _ wm_156) (fun _ h9 => h9) rfl dX1_put_32 ?_
    refine lv_iconst (v := (1 : Int32)) hx hb dX1_put_35 (by decide) ?_
    refine lv_iadd hx hb dX1_put_36 ?_
    refine va_put (D := D) (ci := 1) (v := .int (g_wrong + (1 : Int32))) (ty := .int) (C := RX1) (T := TX1) (N := 3) hx hb hts fin_X1 tyX1 tyX1_ok nmX1 hown hG.1 hP hD hS 0 ce_g_w_0 vq_1 2 (by decide) (hts _ wm_156) (fun _ h9 => h9) rfl (tyX1_ok 2 (by decide)) rfl rfl (Nat.le_of_ble_eq_true rfl) dX1_put_37 (fun H locs hP _ hS => ?_)
    have hP : va_P D vwCl (wd_g_w a_g a_w a_w_codes a_w_masks a_w_alike a_w_havers cI cB cT o1 (g_guessed ||| ((1 : Int32) <<< (p2 &&& 31))) (g_wrong + (1 : Int32)) w_size w_codes w_masks w_alike w_havers) H := va_P_eq se_g_w_g_wrong hP
    have hD : va_D A (wd_g_w a_g a_w a_w_codes a_w_masks a_w_alike a_w_havers cI cB cT o1 (g_guessed ||| ((1 : Int32) <<< (p2 &&& 31))) (g_wrong + (1 : Int32)) w_size w_codes w_masks w_alike w_havers) := va_D_fst fs_g_w hD
    obtain rfl := Option.some.inj hf
    exact wr_vret CF hr hlk hP hS dX1_put_40
end M_X1_put
section M_X1_copyFrom
variable {p : Program} {l : Launch} {e : Env} {s : State} {m : MethodId} {args : Array Value} {below : List Frame} {meth : Method} {c : Code} {Q : State → Prop} {A : Nat → Prop} {D : va_G} {cI cB cT : ClassId}
variable {a_g a_og : Nat}
def rm_X1_copyFrom : Room := { frames := 0, cells := 0, slots := 0, locals := 0 }
def f_X1_copyFrom (og_left : Int32) (og_guessed : Int32) (og_wrong : Int32) : Option (Int32 × Int32 × Int32) := some (og_left, og_guessed, og_wrong)
set_option maxHeartbeats 4000000 in
set_option maxRecDepth 100000 in
theorem c_X1_copyFrom (l : Launch) (D : va_G) (cI cB cT : ClassId) (sz : Nat) (a_g a_og : Nat) (g_left : Int32) (g_guessed : Int32) (g_wrong : Int32) (og_left : Int32) (og_guessed : Int32) (og_wrong : Int32) {z : Int32 × Int32 × Int32} (hf : f_X1_copyFrom og_left og_guessed og_wrong = some z) :
    Met l yX1_copyFrom (Cond.code yX1_copyFrom cX1_copyFrom 2 none :: wsAll) rm_X1_copyFrom (Pwr [.ref a_g, .ref a_og] D cI cB cT (wd_g_og a_g a_og cI cB cT g_left g_guessed g_wrong og_left og_guessed og_wrong) sz) (Qw none D (wd_g_og a_g a_og cI cB cT z.1 z.2.1 z.2.2 og_left og_guessed og_wrong) (va_A (wd_g_og a_g a_og cI cB cT g_left g_guessed g_wrong og_left og_guessed og_wrong) sz)) 0 0 (va_A (wd_g_og a_g a_og cI cB cT g_left g_guessed g_wrong og_left og_guessed og_wrong) sz) := by
  refine wr_intro RX1 (by decide +kernel) rfl (Nat.le_of_ble_eq_true rfl) ?_
  intro p e s m below meth c ls A H locs CF hr hlk hG hP hD hS hA hl
  have hl : lv_has ls 2 [(0, .ref a_g), (1, .ref a_og)] := hl
  obtain ⟨hx, hb, hml, hown, hts⟩ := id CF
  unfold f_X1_copyFrom at hf
  refine lv_aload_n hx hb dX1_copyFrom_0 rfl (lv_at hl 0 rfl) ?_
  refine lv_aload_n hx hb dX1_copyFrom_1 rfl (lv_at hl 1 rfl) ?_
  refine va_get (D := D) (ci := 1) (v := .int og_left) (C := RX1) (T := TX1) (N := 3) hx hb hts fin_X1 hown hG.1 hP 1 ce_g_og_1 vq_1 0 (by decide) (hts _ wm_149) (fun _ h9 => h9) rfl dX1_copyFrom_2 ?_
  refine va_put (D := D) (ci := 1) (v := .int og_left) (ty := .int) (C := RX1) (T := TX1) (N := 3) hx hb hts fin_X1 tyX1 tyX1_ok nmX1 hown hG.1 hP hD hS 0 ce_g_og_0 vq_1 0 (by decide) (hts _ wm_149) (fun _ h9 => h9) rfl (tyX1_ok 0 (by decide)) rfl rfl (Nat.le_of_ble_eq_true rfl) dX1_copyFrom_5 (fun H locs hP _ hS => ?_)
  have hP : va_P D vwCl (wd_g_og a_g a_og cI cB cT og_left g_guessed g_wrong og_left og_guessed og_wrong) H := va_P_eq se_g_og_g_left hP
  have hD : va_D A (wd_g_og a_g a_og cI cB cT og_left g_guessed g_wrong og_left og_guessed og_wrong) := va_D_fst fs_g_og hD
  refine lv_aload_n hx hb dX1_copyFrom_8 rfl (lv_at hl 0 rfl) ?_
  refine lv_aload_n hx hb dX1_copyFrom_9 rfl (lv_at hl 1 rfl) ?_
  refine va_get (D := D) (ci := 1) (v := .int og_guessed) (C := RX1) (T := TX1) (N := 3) hx hb hts fin_X1 hown hG.1 hP 1 ce_g_og_1 vq_1 1 (by decide) (hts _ wm_152) (fun _ h9 => h9) rfl dX1_copyFrom_10 ?_
  refine va_put (D := D) (ci := 1) (v := .int og_guessed) (ty := .int) (C := RX1) (T := TX1) (N := 3) hx hb hts fin_X1 tyX1 tyX1_ok nmX1 hown hG.1 hP hD hS 0 ce_g_og_0 vq_1 1 (by decide) (hts _ wm_152) (fun _ h9 => h9) rfl (tyX1_ok 1 (by decide)) rfl rfl (Nat.le_of_ble_eq_true rfl) dX1_copyFrom_13 (fun H locs hP _ hS => ?_)
  have hP : va_P D vwCl (wd_g_og a_g a_og cI cB cT og_left og_guessed g_wrong og_left og_guessed og_wrong) H := va_P_eq se_g_og_g_guessed hP
  have hD : va_D A (wd_g_og a_g a_og cI cB cT og_left og_guessed g_wrong og_left og_guessed og_wrong) := va_D_fst fs_g_og hD
  refine lv_aload_n hx hb dX1_copyFrom_16 rfl (lv_at hl 0 rfl) ?_
  refine lv_aload_n hx hb dX1_copyFrom_17 rfl (lv_at hl 1 rfl) ?_
  refine va_get (D := D) (ci := 1) (v := .int og_wrong) (C := RX1) (T := TX1) (N := 3) hx hb hts fin_X1 hown hG.1 hP 1 ce_g_og_1 vq_1 2 (by decide) (hts _ wm_156) (fun _ h9 => h9) rfl dX1_copyFrom_18 ?_
  refine va_put (D := D) (ci := 1) (v := .int og_wrong) (ty := .int) (C := RX1) (T := TX1) (N := 3) hx hb hts fin_X1 tyX1 tyX1_ok nmX1 hown hG.1 hP hD hS 0 ce_g_og_0 vq_1 2 (by decide) (hts _ wm_156) (fun _ h9 => h9) rfl (tyX1_ok 2 (by decide)) rfl rfl (Nat.le_of_ble_eq_true rfl) dX1_copyFrom_21 (fun H locs hP _ hS => ?_)
  have hP : va_P D vwCl (wd_g_og a_g a_og cI cB cT og_left og_guessed og_wrong og_left og_guessed og_wrong) H := va_P_eq se_g_og_g_wrong hP
  have hD : va_D A (wd_g_og a_g a_og cI cB cT og_left og_guessed og_wrong og_left og_guessed og_wrong) := va_D_fst fs_g_og hD
  obtain rfl := Option.some.inj hf
  exact wr_vret CF hr hlk hP hS dX1_copyFrom_24
end M_X1_copyFrom
section M_X2_row
variable {p : Program} {l : Launch} {e : Env} {s : State} {m : MethodId} {args : Array Value} {below : List Frame} {meth : Method} {c : Code} {Q : State → Prop} {A : Nat → Prop} {D : va_G} {cI cB cT : ClassId}
def rm_X2_row : Room := { frames := 0, cells := 0, slots := 0, locals := 0 }
def B_X2_row_2 (x0 : Int32) (x1 : Int32) : Option ((Int32) ⊕ (Nat × Int32)) := (if (10 : Int32) ≤ x1 then some (Sum.inr (1, x1)) else (if ((x0 >>> (x1 &&& 31)) &&& (1 : Int32)) = 0 then some (Sum.inr (0, x1)) else some (Sum.inl (x1 + (1 : Int32)))))
def f_X2_row (p1 : Int32) : Option (Int32) := ((lp (fun v => B_X2_row_2 p1 v) KN (0 : Int32)).bind fun o3 => (if o3.1 = 0 then some o3.2 else some (-1 : Int32)))
set_option maxHeartbeats 4000000 in
set_option maxRecDepth 100000 in
theorem B_X2_row_2_W {x0 : Int32} {x1 : Int32} (CF : CallFix p m c cX2_row 2 s args wsAll RX2) (hG : Gd D cI cB cT s) {z : (Int32) ⊕ (Nat × Int32)} (hk : ∀ (v' : Int32) (ls : Array Slot), z = Sum.inl v' → lv_has ls 2 [(0, .int x0), (1, .int (v'))] → W p l e rm_X2_row s m args below meth c s.heap [] 0 0 Q (F0 m 2 ls [])) (hx0 : ∀ (o' : Nat × Int32) (ls : Array Slot), z = Sum.inr o' → o'.1 = 0 → lv_has ls 2 [(1, .int (o'.2))] → W p l e rm_X2_row s m args below meth c s.heap [] 0 0 Q (F0 m 16 ls [])) (hx1 : ∀ (o' : Nat × Int32) (ls : Array Slot), z = Sum.inr o' → o'.1 = 1 → lv_has ls 2 [] → W p l e rm_X2_row s m args below meth c s.heap [] 0 0 Q (F0 m 24 ls [])) {ls : Array Slot} (hP : va_P D vwCl wd_E s.heap) (hl : lv_has ls 2 [(0, .int x0), (1, .int x1)]) (hf : B_X2_row_2 x0 x1 = some z) : W p l e rm_X2_row s m args below meth c s.heap [] 0 0 Q (F0 m 2 ls []) := by
  obtain ⟨hx, hb, hml, hown, hts⟩ := id CF
  unfold B_X2_row_2 at hf
  refine lv_iload_n hx hb dX2_row_2 rfl (lv_at hl 1 rfl) ?_
  refine lv_bipush (v := (10 : Int32)) hx hb dX2_row_3 (by decide) ?_
  refine lv_icmp_ge (tgt := 24) hx hb dX2_row_5 (by decide) (fun c1 => ?_) (fun c1 => ?_)
  · have hf := tk c1 hf
    exact hx1 _ _ (Option.some.inj hf).symm rfl (lv_sub hl [] rfl)
  · have hf := fk c1 hf
    refine lv_iload_n hx hb dX2_row_8 rfl (lv_at hl 0 rfl) ?_
    refine lv_iload_n hx hb dX2_row_9 rfl (lv_at hl 1 rfl) ?_
    refine lv_ishr hx hb dX2_row_10 ?_
    refine lv_iconst (v := (1 : Int32)) hx hb dX2_row_11 (by decide) ?_
    refine lv_iand hx hb dX2_row_12 ?_
    refine lv_if_ne (tgt := 18) hx hb dX2_row_13 (by decide) (fun c2 => ?_) (fun c2 => ?_)
    · have hf := fk c2 hf
      refine lv_iinc (v := (x1 + (1 : Int32))) (lv' := [(1, .int (x1 + (1 : Int32))), (0, .int x0)]) hx hb dX2_row_18 hl (k := 1) rfl (iinc_eq (by decide)) (by decide) rfl (fun ls hl => ?_)
      refine lv_goto (tgt := 2) hx hb dX2_row_21 (by decide) ?_
      exact hk _ _ (Option.some.inj hf).symm (lv_sub hl [1, 0] rfl)
    · have hf := tk c2 hf
      exact hx0 _ _ (Option.some.inj hf).symm rfl (lv_sub hl [1] rfl)
set_option maxHeartbeats 4000000 in
set_option maxRecDepth 100000 in
theorem L_X2_row_2_W {x0 : Int32} (CF : CallFix p m c cX2_row 2 s args wsAll RX2) (hG : Gd D cI cB cT s) {o : Nat × Int32} (hx0 : ∀ (ls : Array Slot), o.1 = 0 → lv_has ls 2 [(1, .int o.2)] → W p l e rm_X2_row s m args below meth c s.heap [] 0 0 Q (F0 m 16 ls [])) (hx1 : ∀ (ls : Array Slot), o.1 = 1 → lv_has ls 2 [] → W p l e rm_X2_row s m args below meth c s.heap [] 0 0 Q (F0 m 24 ls [])) : ∀ (n : Nat) (x1 : Int32) (ls : Array Slot), va_P D vwCl wd_E s.heap → lv_has ls 2 [(0, .int x0), (1, .int x1)] → lp (fun v => B_X2_row_2 x0 v) n x1 = some o → W p l e rm_X2_row s m args below meth c s.heap [] 0 0 Q (F0 m 2 ls []) := by
  intro n
  induction n with
  | zero =>
    intro x1 ls hP hl hf
    exact (lp_zero hf).elim
  | succ n ih =>
    intro x1 ls hP hl hf
    obtain ⟨z, hz, hf⟩ := lp_succ hf
    refine B_X2_row_2_W CF hG ?_ ?_ ?_ hP hl hz
    · intro v' ls ez hl
      rcases hf with ⟨v2, ev, hf⟩ | ev
      · cases Sum.inl.inj (ez.symm.trans ev)
        exact ih v' ls hP hl hf
      · exact (lp_lr (ez.symm.trans ev)).elim
    · intro o' ls ez et hl
      rcases hf with ⟨v2, ev, hf⟩ | ev
      · exact (lp_lr (ev.symm.trans ez)).elim
      · cases Sum.inr.inj (ez.symm.trans ev)
        exact hx0 ls et  hl
    · intro o' ls ez et hl
      rcases hf with ⟨v2, ev, hf⟩ | ev
      · exact (lp_lr (ev.symm.trans ez)).elim
      · cases Sum.inr.inj (ez.symm.trans ev)
        exact hx1 ls et  hl
set_option maxHeartbeats 4000000 in
set_option maxRecDepth 100000 in
theorem c_X2_row (l : Launch) (D : va_G) (cI cB cT : ClassId) (p1 : Int32) {z : Int32} (hf : f_X2_row p1 = some z) :
    Met l yX2_row (Cond.code yX2_row cX2_row 2 (some .int) :: wsAll) rm_X2_row (Pro [.int p1] D cI cB cT wd_E) (Qr (some (.int z))) 0 0 (fun _ => False) := by
  refine ro_intro RX2 (by decide +kernel) rfl (Nat.le_of_ble_eq_true rfl) ?_
  intro p e s m below meth c ls CF hr hlk hG hP hl
  have hl : lv_has ls 2 [(0, .int p1)] := hl
  obtain ⟨hx, hb, hml, hown, hts⟩ := id CF
  unfold f_X2_row at hf
  refine lv_iconst (v := (0 : Int32)) hx hb dX2_row_0 (by decide) ?_
  refine lv_istore_n (lv' := [(1, .int (0 : Int32)), (0, .int p1)]) hx hb dX2_row_1 rfl hl (by decide) rfl (fun ls hl => ?_)
  obtain ⟨o3, e4, hf⟩ := lp_bind hf
  refine L_X2_row_2_W CF hG ?_ ?_ KN _ _ hP (lv_sub hl [1, 0] rfl) e4
  · intro ls et hl
    have hf := tk et hf
    refine lv_iload_n hx hb dX2_row_16 rfl (lv_at hl 0 rfl) ?_
    obtain rfl := Option.some.inj hf
    exact ro_iret CF hr hlk dX2_row_17
  · intro ls et hl
    have hf := fk (by rw [et]; decide) hf
    refine lv_iconst (v := (-1 : Int32)) hx hb dX2_row_24 (by decide) ?_
    obtain rfl := Option.some.inj hf
    exact ro_iret CF hr hlk dX2_row_25
end M_X2_row
section M_X10_leastOf
variable {p : Program} {l : Launch} {e : Env} {s : State} {m : MethodId} {args : Array Value} {below : List Frame} {meth : Method} {c : Code} {Q : State → Prop} {A : Nat → Prop} {D : va_G} {cI cB cT : ClassId}
def rm_X10_leastOf : Room := { frames := 0, cells := 0, slots := 0, locals := 0 }
def B_X10_leastOf_2 (x0 : Int32) (x1 : Int32) : Option ((Int32) ⊕ (Nat × Int32)) := (if (8 : Int32) ≤ x1 then some (Sum.inr (1, x1)) else (if ((x0 >>> (x1 &&& 31)) &&& (1 : Int32)) = 0 then some (Sum.inl (x1 + (1 : Int32))) else some (Sum.inr (0, x1))))
def f_X10_leastOf (p1 : Int32) : Option (Int32) := ((lp (fun v => B_X10_leastOf_2 p1 v) KN (0 : Int32)).bind fun o3 => (if o3.1 = 0 then some o3.2 else some (-1 : Int32)))
set_option maxHeartbeats 4000000 in
set_option maxRecDepth 100000 in
theorem B_X10_leastOf_2_W {x0 : Int32} {x1 : Int32} (CF : CallFix p m c cX10_leastOf 2 s args wsAll RX10) (hG : Gd D cI cB cT s) {z : (Int32) ⊕ (Nat × Int32)} (hk : ∀ (v' : Int32) (ls : Array Slot), z = Sum.inl v' → lv_has ls 2 [(0, .int x0), (1, .int (v'))] → W p l e rm_X10_leastOf s m args below meth c s.heap [] 0 0 Q (F0 m 2 ls [])) (hx0 : ∀ (o' : Nat × Int32) (ls : Array Slot), z = Sum.inr o' → o'.1 = 0 → lv_has ls 2 [(1, .int (o'.2))] → W p l e rm_X10_leastOf s m args below meth c s.heap [] 0 0 Q (F0 m 16 ls [])) (hx1 : ∀ (o' : Nat × Int32) (ls : Array Slot), z = Sum.inr o' → o'.1 = 1 → lv_has ls 2 [] → W p l e rm_X10_leastOf s m args below meth c s.heap [] 0 0 Q (F0 m 24 ls [])) {ls : Array Slot} (hP : va_P D vwCl wd_E s.heap) (hl : lv_has ls 2 [(0, .int x0), (1, .int x1)]) (hf : B_X10_leastOf_2 x0 x1 = some z) : W p l e rm_X10_leastOf s m args below meth c s.heap [] 0 0 Q (F0 m 2 ls []) := by
  obtain ⟨hx, hb, hml, hown, hts⟩ := id CF
  unfold B_X10_leastOf_2 at hf
  refine lv_iload_n hx hb dX10_leastOf_2 rfl (lv_at hl 1 rfl) ?_
  refine lv_bipush (v := (8 : Int32)) hx hb dX10_leastOf_3 (by decide) ?_
  refine lv_icmp_ge (tgt := 24) hx hb dX10_leastOf_5 (by decide) (fun c1 => ?_) (fun c1 => ?_)
  · have hf := tk c1 hf
    exact hx1 _ _ (Option.some.inj hf).symm rfl (lv_sub hl [] rfl)
  · have hf := fk c1 hf
    refine lv_iload_n hx hb dX10_leastOf_8 rfl (lv_at hl 0 rfl) ?_
    refine lv_iload_n hx hb dX10_leastOf_9 rfl (lv_at hl 1 rfl) ?_
    refine lv_ishr hx hb dX10_leastOf_10 ?_
    refine lv_iconst (v := (1 : Int32)) hx hb dX10_leastOf_11 (by decide) ?_
    refine lv_iand hx hb dX10_leastOf_12 ?_
    refine lv_if_eq (tgt := 18) hx hb dX10_leastOf_13 (by decide) (fun c2 => ?_) (fun c2 => ?_)
    · have hf := tk c2 hf
      refine lv_iinc (v := (x1 + (1 : Int32))) (lv' := [(1, .int (x1 + (1 : Int32))), (0, .int x0)]) hx hb dX10_leastOf_18 hl (k := 1) rfl (iinc_eq (by decide)) (by decide) rfl (fun ls hl => ?_)
      refine lv_goto (tgt := 2) hx hb dX10_leastOf_21 (by decide) ?_
      exact hk _ _ (Option.some.inj hf).symm (lv_sub hl [1, 0] rfl)
    · have hf := fk c2 hf
      exact hx0 _ _ (Option.some.inj hf).symm rfl (lv_sub hl [1] rfl)
set_option maxHeartbeats 4000000 in
set_option maxRecDepth 100000 in
theorem L_X10_leastOf_2_W {x0 : Int32} (CF : CallFix p m c cX10_leastOf 2 s args wsAll RX10) (hG : Gd D cI cB cT s) {o : Nat × Int32} (hx0 : ∀ (ls : Array Slot), o.1 = 0 → lv_has ls 2 [(1, .int o.2)] → W p l e rm_X10_leastOf s m args below meth c s.heap [] 0 0 Q (F0 m 16 ls [])) (hx1 : ∀ (ls : Array Slot), o.1 = 1 → lv_has ls 2 [] → W p l e rm_X10_leastOf s m args below meth c s.heap [] 0 0 Q (F0 m 24 ls [])) : ∀ (n : Nat) (x1 : Int32) (ls : Array Slot), va_P D vwCl wd_E s.heap → lv_has ls 2 [(0, .int x0), (1, .int x1)] → lp (fun v => B_X10_leastOf_2 x0 v) n x1 = some o → W p l e rm_X10_leastOf s m args below meth c s.heap [] 0 0 Q (F0 m 2 ls []) := by
  intro n
  induction n with
  | zero =>
    intro x1 ls hP hl hf
    exact (lp_zero hf).elim
  | succ n ih =>
    intro x1 ls hP hl hf
    obtain ⟨z, hz, hf⟩ := lp_succ hf
    refine B_X10_leastOf_2_W CF hG ?_ ?_ ?_ hP hl hz
    · intro v' ls ez hl
      rcases hf with ⟨v2, ev, hf⟩ | ev
      · cases Sum.inl.inj (ez.symm.trans ev)
        exact ih v' ls hP hl hf
      · exact (lp_lr (ez.symm.trans ev)).elim
    · intro o' ls ez et hl
      rcases hf with ⟨v2, ev, hf⟩ | ev
      · exact (lp_lr (ev.symm.trans ez)).elim
      · cases Sum.inr.inj (ez.symm.trans ev)
        exact hx0 ls et  hl
    · intro o' ls ez et hl
      rcases hf with ⟨v2, ev, hf⟩ | ev
      · exact (lp_lr (ev.symm.trans ez)).elim
      · cases Sum.inr.inj (ez.symm.trans ev)
        exact hx1 ls et  hl
set_option maxHeartbeats 4000000 in
set_option maxRecDepth 100000 in
theorem c_X10_leastOf (l : Launch) (D : va_G) (cI cB cT : ClassId) (p1 : Int32) {z : Int32} (hf : f_X10_leastOf p1 = some z) :
    Met l yX10_leastOf (Cond.code yX10_leastOf cX10_leastOf 2 (some .int) :: wsAll) rm_X10_leastOf (Pro [.int p1] D cI cB cT wd_E) (Qr (some (.int z))) 0 0 (fun _ => False) := by
  refine ro_intro RX10 (by decide +kernel) rfl (Nat.le_of_ble_eq_true rfl) ?_
  intro p e s m below meth c ls CF hr hlk hG hP hl
  have hl : lv_has ls 2 [(0, .int p1)] := hl
  obtain ⟨hx, hb, hml, hown, hts⟩ := id CF
  unfold f_X10_leastOf at hf
  refine lv_iconst (v := (0 : Int32)) hx hb dX10_leastOf_0 (by decide) ?_
  refine lv_istore_n (lv' := [(1, .int (0 : Int32)), (0, .int p1)]) hx hb dX10_leastOf_1 rfl hl (by decide) rfl (fun ls hl => ?_)
  obtain ⟨o3, e4, hf⟩ := lp_bind hf
  refine L_X10_leastOf_2_W CF hG ?_ ?_ KN _ _ hP (lv_sub hl [1, 0] rfl) e4
  · intro ls et hl
    have hf := tk et hf
    refine lv_iload_n hx hb dX10_leastOf_16 rfl (lv_at hl 0 rfl) ?_
    obtain rfl := Option.some.inj hf
    exact ro_iret CF hr hlk dX10_leastOf_17
  · intro ls et hl
    have hf := fk (by rw [et]; decide) hf
    refine lv_iconst (v := (-1 : Int32)) hx hb dX10_leastOf_24 (by decide) ?_
    obtain rfl := Option.some.inj hf
    exact ro_iret CF hr hlk dX10_leastOf_25
end M_X10_leastOf
section M_X2_often
variable {p : Program} {l : Launch} {e : Env} {s : State} {m : MethodId} {args : Array Value} {below : List Frame} {meth : Method} {c : Code} {Q : State → Prop} {A : Nat → Prop} {D : va_G} {cI cB cT : ClassId}
variable {a_w a_w_codes a_w_masks a_w_alike a_w_havers : Nat}
def rm_X2_often : Room := { frames := 1, cells := 0, slots := 0, locals := 21 }
def B_X2_often_8 (w_havers : (Nat → Int32)) (x1 : Int32) (x2 : Int32) (x3 : Int32) (x4 : Int32) (x5 : Int32) : Option ((Int32 × Int32 × Int32) ⊕ (Int32)) := (if (10 : Int32) ≤ x5 then some (Sum.inr x3) else ((f_X9_having w_havers x5).bind fun o2 => ((f_J6_bitCount_0f7a4 (x1 &&& o2)).bind fun o4 => (if ((x2 >>> (x5 &&& 31)) &&& (1 : Int32)) = 0 then (if o4 ≤ x4 then some (Sum.inl (x3, x4, (x5 + (1 : Int32)))) else some (Sum.inl (x5, o4, (x5 + (1 : Int32))))) else some (Sum.inl (x3, x4, (x5 + (1 : Int32))))))))
def f_X2_often (w_havers : (Nat → Int32)) (p2 : Int32) (p3 : Int32) : Option (Int32) := ((lp (fun v => B_X2_often_8 w_havers p2 p3 v.1 v.2.1 v.2.2) KN ((-1 : Int32), (-1 : Int32), (0 : Int32))).bind fun o8 => some o8)
set_option maxHeartbeats 4000000 in
set_option maxRecDepth 100000 in
theorem B_X2_often_8_W {w_size : Int32} {w_codes : (Nat → Int32)} {w_masks : (Nat → Int32)} {w_alike : (Nat → Int32)} {w_havers : (Nat → Int32)} {x1 : Int32} {x2 : Int32} {x3 : Int32} {x4 : Int32} {x5 : Int32} (CF : CallFix p m c cX2_often 7 s args wsAll RX2) (hG : Gd D cI cB cT s) {z : (Int32 × Int32 × Int32) ⊕ (Int32)} (hk : ∀ (v' : Int32 × Int32 × Int32) (ls : Array Slot), z = Sum.inl v' → lv_has ls 7 [(0, .ref a_w), (1, .int x1), (2, .int x2), (3, .int (v'.1)), (4, .int (v'.2.1)), (5, .int (v'.2.2))] → W p l e rm_X2_often s m args below meth c s.heap [] 0 0 Q (F0 m 8 ls [])) (hx0 : ∀ (o' : Int32) (ls : Array Slot), z = Sum.inr o' → lv_has ls 7 [(3, .int (o'))] → W p l e rm_X2_often s m args below meth c s.heap [] 0 0 Q (F0 m 57 ls [])) {ls : Array Slot} (hP : va_P D vwCl (wd_w a_w a_w_codes a_w_masks a_w_alike a_w_havers cI cB cT w_size w_codes w_masks w_alike w_havers) s.heap) (hl : lv_has ls 7 [(0, .ref a_w), (1, .int x1), (2, .int x2), (3, .int x3), (4, .int x4), (5, .int x5)]) (hf : B_X2_often_8 w_havers x1 x2 x3 x4 x5 = some z) : W p l e rm_X2_often s m args below meth c s.heap [] 0 0 Q (F0 m 8 ls []) := by
  obtain ⟨hx, hb, hml, hown, hts⟩ := id CF
  unfold B_X2_often_8 at hf
  refine lv_iload hx hb dX2_often_8 (lv_at hl 5 rfl) ?_
  refine lv_bipush (v := (10 : Int32)) hx hb dX2_often_10 (by decide) ?_
  refine lv_icmp_ge (tgt := 57) hx hb dX2_often_12 (by decide) (fun c1 => ?_) (fun c1 => ?_)
  · have hf := tk c1 hf
    exact hx0 _ _ (Option.some.inj hf).symm (lv_sub hl [3] rfl)
  · have hf := fk c1 hf
    refine lv_iload_n hx hb dX2_often_15 rfl (lv_at hl 1 rfl) ?_
    refine lv_aload_n hx hb dX2_often_16 rfl (lv_at hl 0 rfl) ?_
    refine lv_iload hx hb dX2_often_17 (lv_at hl 5 rfl) ?_
    obtain ⟨o2, e3, hf⟩ := lp_bind hf
    refine ro_Vi (x := o2) (As := [.int x5]) (rest := [.int x1]) CF (c_X9_having l D cI cB cT a_w a_w_codes a_w_masks a_w_alike a_w_havers w_size w_codes w_masks w_alike w_havers x5 e3) ok_X9_having wm_734 ⟨rfl, rfl, Nat.le_of_ble_eq_true rfl, Nat.le_of_ble_eq_true rfl⟩ hG hP 0 7 vq_7 rfl ce_w_0 rfl hl.1 rfl (Nat.le_of_ble_eq_true rfl) ⟨Nat.zero_le _, Nat.zero_le _⟩ dX2_often_19 ?_
    refine lv_iand hx hb dX2_often_22 ?_
    obtain ⟨o4, e5, hf⟩ := lp_bind hf
    refine ro_Si (x := o4) (As := [.int (x1 &&& o2)]) (rest := []) CF (c_J6_bitCount_0f7a4 l D cI cB cT (x1 &&& o2) e5) ok_J6_bitCount_0f7a4 wm_735 ⟨rfl, rfl, Nat.le_of_ble_eq_true rfl, Nat.le_of_ble_eq_true rfl⟩ hG wd_E_P rfl hl.1 rfl (Nat.le_of_ble_eq_true rfl) ⟨Nat.zero_le _, Nat.zero_le _⟩ dX2_often_23 ?_
    refine lv_istore (lv' := [(6, .int o4), (0, .ref a_w), (1, .int x1), (2, .int x2), (3, .int x3), (4, .int x4), (5, .int x5)]) hx hb dX2_often_26 hl (by decide) rfl (fun ls hl => ?_)
    refine lv_iload_n hx hb dX2_often_28 rfl (lv_at hl 3 rfl) ?_
    refine lv_iload hx hb dX2_often_29 (lv_at hl 6 rfl) ?_
    refine lv_ishr hx hb dX2_often_31 ?_
    refine lv_iconst (v := (1 : Int32)) hx hb dX2_often_32 (by decide) ?_
    refine lv_iand hx hb dX2_often_33 ?_
    refine lv_if_ne (tgt := 51) hx hb dX2_often_34 (by decide) (fun c6 => ?_) (fun c6 => ?_)
    · have hf := fk c6 hf
      refine lv_iinc (v := (x5 + (1 : Int32))) (lv' := [(5, .int (x5 + (1 : Int32))), (6, .int o4), (0, .ref a_w), (1, .int x1), (2, .int x2), (3, .int x3), (4, .int x4)]) hx hb dX2_often_51 hl (k := 6) rfl (iinc_eq (by decide)) (by decide) rfl (fun ls hl => ?_)
      refine lv_goto (tgt := 8) hx hb dX2_often_54 (by decide) ?_
      exact hk _ _ (Option.some.inj hf).symm (lv_sub hl [2, 3, 4, 5, 6, 0] rfl)
    · have hf := tk c6 hf
      refine lv_iload hx hb dX2_often_37 (lv_at hl 0 rfl) ?_
      refine lv_iload hx hb dX2_often_39 (lv_at hl 5 rfl) ?_
      refine lv_icmp_le (tgt := 51) hx hb dX2_often_41 (by decide) (fun c7 => ?_) (fun c7 => ?_)
      · have hf := tk c7 hf
        refine lv_iinc (v := (x5 + (1 : Int32))) (lv' := [(5, .int (x5 + (1 : Int32))), (6, .int o4), (0, .ref a_w), (1, .int x1), (2, .int x2), (3, .int x3), (4, .int x4)]) hx hb dX2_often_51 hl (k := 6) rfl (iinc_eq (by decide)) (by decide) rfl (fun ls hl => ?_)
        refine lv_goto (tgt := 8) hx hb dX2_often_54 (by decide) ?_
        exact hk _ _ (Option.some.inj hf).symm (lv_sub hl [2, 3, 4, 5, 6, 0] rfl)
      · have hf := fk c7 hf
        refine lv_iload hx hb dX2_often_44 (lv_at hl 6 rfl) ?_
        refine lv_istore_n (lv' := [(3, .int x5), (6, .int o4), (0, .ref a_w), (1, .int x1), (2, .int x2), (4, .int x4), (5, .int x5)]) hx hb dX2_often_46 rfl hl (by decide) rfl (fun ls hl => ?_)
        refine lv_iload hx hb dX2_often_47 (lv_at hl 1 rfl) ?_
        refine lv_istore (lv' := [(4, .int o4), (3, .int x5), (6, .int o4), (0, .ref a_w), (1, .int x1), (2, .int x2), (5, .int x5)]) hx hb dX2_often_49 hl (by decide) rfl (fun ls hl => ?_)
        refine lv_iinc (v := (x5 + (1 : Int32))) (lv' := [(5, .int (x5 + (1 : Int32))), (4, .int o4), (3, .int x5), (6, .int o4), (0, .ref a_w), (1, .int x1), (2, .int x2)]) hx hb dX2_often_51 hl (k := 6) rfl (iinc_eq (by decide)) (by decide) rfl (fun ls hl => ?_)
        refine lv_goto (tgt := 8) hx hb dX2_often_54 (by decide) ?_
        exact hk _ _ (Option.some.inj hf).symm (lv_sub hl [4, 5, 6, 2, 1, 0] rfl)
set_option maxHeartbeats 4000000 in
set_option maxRecDepth 100000 in
theorem L_X2_often_8_W {w_size : Int32} {w_codes : (Nat → Int32)} {w_masks : (Nat → Int32)} {w_alike : (Nat → Int32)} {w_havers : (Nat → Int32)} {x1 : Int32} {x2 : Int32} (CF : CallFix p m c cX2_often 7 s args wsAll RX2) (hG : Gd D cI cB cT s) {o : Int32} (hx0 : ∀ (ls : Array Slot), lv_has ls 7 [(3, .int o)] → W p l e rm_X2_often s m args below meth c s.heap [] 0 0 Q (F0 m 57 ls [])) : ∀ (n : Nat) (x3 : Int32) (x4 : Int32) (x5 : Int32) (ls : Array Slot), va_P D vwCl (wd_w a_w a_w_codes a_w_masks a_w_alike a_w_havers cI cB cT w_size w_codes w_masks w_alike w_havers) s.heap → lv_has ls 7 [(0, .ref a_w), (1, .int x1), (2, .int x2), (3, .int x3), (4, .int x4), (5, .int x5)] → lp (fun v => B_X2_often_8 w_havers x1 x2 v.1 v.2.1 v.2.2) n (x3, x4, x5) = some o → W p l e rm_X2_often s m args below meth c s.heap [] 0 0 Q (F0 m 8 ls []) := by
  intro n
  induction n with
  | zero =>
    intro x3 x4 x5 ls hP hl hf
    exact (lp_zero hf).elim
  | succ n ih =>
    intro x3 x4 x5 ls hP hl hf
    obtain ⟨z, hz, hf⟩ := lp_succ hf
    refine B_X2_often_8_W CF hG ?_ ?_ hP hl hz
    · intro v' ls ez hl
      rcases hf with ⟨v2, ev, hf⟩ | ev
      · cases Sum.inl.inj (ez.symm.trans ev)
        exact ih v'.1 v'.2.1 v'.2.2 ls hP hl hf
      · exact (lp_lr (ez.symm.trans ev)).elim
    · intro o' ls ez hl
      rcases hf with ⟨v2, ev, hf⟩ | ev
      · exact (lp_lr (ev.symm.trans ez)).elim
      · cases Sum.inr.inj (ez.symm.trans ev)
        exact hx0 ls  hl
set_option maxHeartbeats 4000000 in
set_option maxRecDepth 100000 in
theorem c_X2_often (l : Launch) (D : va_G) (cI cB cT : ClassId) (a_w a_w_codes a_w_masks a_w_alike a_w_havers : Nat) (w_size : Int32) (w_codes : (Nat → Int32)) (w_masks : (Nat → Int32)) (w_alike : (Nat → Int32)) (w_havers : (Nat → Int32)) (p2 : Int32) (p3 : Int32) {z : Int32} (hf : f_X2_often w_havers p2 p3 = some z) :
    Met l yX2_often (Cond.code yX2_often cX2_often 7 (some .int) :: wsAll) rm_X2_often (Pro [.ref a_w, .int p2, .int p3] D cI cB cT (wd_w a_w a_w_codes a_w_masks a_w_alike a_w_havers cI cB cT w_size w_codes w_masks w_alike w_havers)) (Qr (some (.int z))) 0 0 (fun _ => False) := by
  refine ro_intro RX2 (by decide +kernel) rfl (Nat.le_of_ble_eq_true rfl) ?_
  intro p e s m below meth c ls CF hr hlk hG hP hl
  have hl : lv_has ls 7 [(0, .ref a_w), (1, .int p2), (2, .int p3)] := hl
  obtain ⟨hx, hb, hml, hown, hts⟩ := id CF
  unfold f_X2_often at hf
  refine lv_iconst (v := (-1 : Int32)) hx hb dX2_often_0 (by decide) ?_
  refine lv_istore_n (lv' := [(3, .int (-1 : Int32)), (0, .ref a_w), (1, .int p2), (2, .int p3)]) hx hb dX2_often_1 rfl hl (by decide) rfl (fun ls hl => ?_)
  refine lv_iconst (v := (-1 : Int32)) hx hb dX2_often_2 (by decide) ?_
  refine lv_istore (lv' := [(4, .int (-1 : Int32)), (3, .int (-1 : Int32)), (0, .ref a_w), (1, .int p2), (2, .int p3)]) hx hb dX2_often_3 hl (by decide) rfl (fun ls hl => ?_)
  refine lv_iconst (v := (0 : Int32)) hx hb dX2_often_5 (by decide) ?_
  refine lv_istore (lv' := [(5, .int (0 : Int32)), (4, .int (-1 : Int32)), (3, .int (-1 : Int32)), (0, .ref a_w), (1, .int p2), (2, .int p3)]) hx hb dX2_often_6 hl (by decide) rfl (fun ls hl => ?_)
  obtain ⟨o8, e9, hf⟩ := lp_bind hf
  refine L_X2_often_8_W CF hG ?_ KN _ _ _ _ hP (lv_sub hl [3, 4, 5, 2, 1, 0] rfl) e9
  intro ls hl
  refine lv_iload_n hx hb dX2_often_57 rfl (lv_at hl 0 rfl) ?_
  obtain rfl := Option.some.inj hf
  exact ro_iret CF hr hlk dX2_often_58
end M_X2_often
section M_X2_first
variable {p : Program} {l : Launch} {e : Env} {s : State} {m : MethodId} {args : Array Value} {below : List Frame} {meth : Method} {c : Code} {Q : State → Prop} {A : Nat → Prop} {D : va_G} {cI cB cT : ClassId}
variable {a_w a_w_codes a_w_masks a_w_alike a_w_havers : Nat}
def rm_X2_first : Room := { frames := 2, cells := 0, slots := 0, locals := 47 }
def f_X2_first (w_size : Int32) (w_codes : (Nat → Int32)) (w_havers : (Nat → Int32)) (p2 : Int32) (p3 : Int32) : Option (Int32) := (if p2 = 0 then ((f_X2_often w_havers p2 p3).bind fun o2 => some o2) else ((f_X10_leastOf p2).bind fun o4 => ((f_X9_codeOf w_size w_codes o4).bind fun o6 => (if ((p3 >>> ((o6 / (1000 : Int32)) &&& 31)) &&& (1 : Int32)) = 0 then some (o6 / (1000 : Int32)) else ((f_X2_often w_havers p2 p3).bind fun o9 => some o9)))))
set_option maxHeartbeats 4000000 in
set_option maxRecDepth 100000 in
theorem c_X2_first (l : Launch) (D : va_G) (cI cB cT : ClassId) (a_w a_w_codes a_w_masks a_w_alike a_w_havers : Nat) (w_size : Int32) (w_codes : (Nat → Int32)) (w_masks : (Nat → Int32)) (w_alike : (Nat → Int32)) (w_havers : (Nat → Int32)) (p2 : Int32) (p3 : Int32) {z : Int32} (hf : f_X2_first w_size w_codes w_havers p2 p3 = some z) :
    Met l yX2_first (Cond.code yX2_first cX2_first 4 (some .int) :: wsAll) rm_X2_first (Pro [.ref a_w, .int p2, .int p3] D cI cB cT (wd_w a_w a_w_codes a_w_masks a_w_alike a_w_havers cI cB cT w_size w_codes w_masks w_alike w_havers)) (Qr (some (.int z))) 0 0 (fun _ => False) := by
  refine ro_intro RX2 (by decide +kernel) rfl (Nat.le_of_ble_eq_true rfl) ?_
  intro p e s m below meth c ls CF hr hlk hG hP hl
  have hl : lv_has ls 4 [(0, .ref a_w), (1, .int p2), (2, .int p3)] := hl
  obtain ⟨hx, hb, hml, hown, hts⟩ := id CF
  unfold f_X2_first at hf
  refine lv_iload_n hx hb dX2_first_0 rfl (lv_at hl 1 rfl) ?_
  refine lv_if_eq (tgt := 27) hx hb dX2_first_1 (by decide) (fun c1 => ?_) (fun c1 => ?_)
  · have hf := tk c1 hf
    refine lv_aload_n hx hb dX2_first_27 rfl (lv_at hl 0 rfl) ?_
    refine lv_iload_n hx hb dX2_first_28 rfl (lv_at hl 1 rfl) ?_
    refine lv_iload_n hx hb dX2_first_29 rfl (lv_at hl 2 rfl) ?_
    obtain ⟨o2, e3, hf⟩ := lp_bind hf
    refine ro_Si (x := o2) (As := [.ref a_w, .int p2, .int p3]) (rest := []) CF (c_X2_often l D cI cB cT a_w a_w_codes a_w_masks a_w_alike a_w_havers w_size w_codes w_masks w_alike w_havers p2 p3 e3) ok_X2_often wm_731 ⟨rfl, rfl, Nat.le_of_ble_eq_true rfl, Nat.le_of_ble_eq_true rfl⟩ hG hP rfl hl.1 rfl (Nat.le_of_ble_eq_true rfl) ⟨Nat.zero_le _, Nat.zero_le _⟩ dX2_first_30 ?_
    obtain rfl := Option.some.inj hf
    exact ro_iret CF hr hlk dX2_first_33
  · have hf := fk c1 hf
    refine lv_aload_n hx hb dX2_first_4 rfl (lv_at hl 0 rfl) ?_
    refine lv_iload_n hx hb dX2_first_5 rfl (lv_at hl 1 rfl) ?_
    obtain ⟨o4, e5, hf⟩ := lp_bind hf
    refine ro_SNi (x := o4) (As := [.int p2]) (rest := [.ref a_w]) CF (c_X10_leastOf l D cI cB cT p2 e5) ok_X10_leastOf nm_13 ⟨rfl, rfl, Nat.le_of_ble_eq_true rfl, Nat.le_of_ble_eq_true rfl⟩ hG wd_E_P rfl hl.1 rfl (Nat.le_of_ble_eq_true rfl) ⟨Nat.zero_le _, Nat.zero_le _⟩ dX2_first_6 ?_
    obtain ⟨o6, e7, hf⟩ := lp_bind hf
    refine ro_Vi (x := o6) (As := [.int o4]) (rest := []) CF (c_X9_codeOf l D cI cB cT a_w a_w_codes a_w_masks a_w_alike a_w_havers w_size w_codes w_masks w_alike w_havers o4 e7) ok_X9_codeOf wm_753 ⟨rfl, rfl, Nat.le_of_ble_eq_true rfl, Nat.le_of_ble_eq_true rfl⟩ hG hP 0 7 vq_7 rfl ce_w_0 rfl hl.1 rfl (Nat.le_of_ble_eq_true rfl) ⟨Nat.zero_le _, Nat.zero_le _⟩ dX2_first_9 ?_
    refine lv_sipush (v := (1000 : Int32)) hx hb dX2_first_12 (by decide) ?_
    refine lv_idiv hx hb dX2_first_15 (by decide) ?_
    refine lv_istore_n (lv' := [(3, .int (o6 / (1000 : Int32))), (0, .ref a_w), (1, .int p2), (2, .int p3)]) hx hb dX2_first_16 rfl hl (by decide) rfl (fun ls hl => ?_)
    refine lv_iload_n hx hb dX2_first_17 rfl (lv_at hl 3 rfl) ?_
    refine lv_iload_n hx hb dX2_first_18 rfl (lv_at hl 0 rfl) ?_
    refine lv_ishr hx hb dX2_first_19 ?_
    refine lv_iconst (v := (1 : Int32)) hx hb dX2_first_20 (by decide) ?_
    refine lv_iand hx hb dX2_first_21 ?_
    refine lv_if_ne (tgt := 27) hx hb dX2_first_22 (by decide) (fun c8 => ?_) (fun c8 => ?_)
    · have hf := fk c8 hf
      refine lv_aload_n hx hb dX2_first_27 rfl (lv_at hl 1 rfl) ?_
      refine lv_iload_n hx hb dX2_first_28 rfl (lv_at hl 2 rfl) ?_
      refine lv_iload_n hx hb dX2_first_29 rfl (lv_at hl 3 rfl) ?_
      obtain ⟨o9, e10, hf⟩ := lp_bind hf
      refine ro_Si (x := o9) (As := [.ref a_w, .int p2, .int p3]) (rest := []) CF (c_X2_often l D cI cB cT a_w a_w_codes a_w_masks a_w_alike a_w_havers w_size w_codes w_masks w_alike w_havers p2 p3 e10) ok_X2_often wm_731 ⟨rfl, rfl, Nat.le_of_ble_eq_true rfl, Nat.le_of_ble_eq_true rfl⟩ hG hP rfl hl.1 rfl (Nat.le_of_ble_eq_true rfl) ⟨Nat.zero_le _, Nat.zero_le _⟩ dX2_first_30 ?_
      obtain rfl := Option.some.inj hf
      exact ro_iret CF hr hlk dX2_first_33
    · have hf := tk c8 hf
      refine lv_iload_n hx hb dX2_first_25 rfl (lv_at hl 0 rfl) ?_
      obtain rfl := Option.some.inj hf
      exact ro_iret CF hr hlk dX2_first_26
end M_X2_first
section M_X2_last
variable {p : Program} {l : Launch} {e : Env} {s : State} {m : MethodId} {args : Array Value} {below : List Frame} {meth : Method} {c : Code} {Q : State → Prop} {A : Nat → Prop} {D : va_G} {cI cB cT : ClassId}
def rm_X2_last : Room := { frames := 0, cells := 0, slots := 0, locals := 0 }
def B_X2_last_3 (x0 : Int32) (x1 : Int32) : Option ((Int32) ⊕ (Nat × Int32)) := (if x1 < 0 then some (Sum.inr (1, x1)) else (if ((x0 >>> (x1 &&& 31)) &&& (1 : Int32)) = 0 then some (Sum.inr (0, x1)) else some (Sum.inl (x1 + (-1 : Int32)))))
def f_X2_last (p1 : Int32) : Option (Int32) := ((lp (fun v => B_X2_last_3 p1 v) KN (9 : Int32)).bind fun o3 => (if o3.1 = 0 then some o3.2 else some (-1 : Int32)))
set_option maxHeartbeats 4000000 in
set_option maxRecDepth 100000 in
theorem B_X2_last_3_W {x0 : Int32} {x1 : Int32} (CF : CallFix p m c cX2_last 2 s args wsAll RX2) (hG : Gd D cI cB cT s) {z : (Int32) ⊕ (Nat × Int32)} (hk : ∀ (v' : Int32) (ls : Array Slot), z = Sum.inl v' → lv_has ls 2 [(0, .int x0), (1, .int (v'))] → W p l e rm_X2_last s m args below meth c s.heap [] 0 0 Q (F0 m 3 ls [])) (hx0 : ∀ (o' : Nat × Int32) (ls : Array Slot), z = Sum.inr o' → o'.1 = 0 → lv_has ls 2 [(1, .int (o'.2))] → W p l e rm_X2_last s m args below meth c s.heap [] 0 0 Q (F0 m 15 ls [])) (hx1 : ∀ (o' : Nat × Int32) (ls : Array Slot), z = Sum.inr o' → o'.1 = 1 → lv_has ls 2 [] → W p l e rm_X2_last s m args below meth c s.heap [] 0 0 Q (F0 m 23 ls [])) {ls : Array Slot} (hP : va_P D vwCl wd_E s.heap) (hl : lv_has ls 2 [(0, .int x0), (1, .int x1)]) (hf : B_X2_last_3 x0 x1 = some z) : W p l e rm_X2_last s m args below meth c s.heap [] 0 0 Q (F0 m 3 ls []) := by
  obtain ⟨hx, hb, hml, hown, hts⟩ := id CF
  unfold B_X2_last_3 at hf
  refine lv_iload_n hx hb dX2_last_3 rfl (lv_at hl 1 rfl) ?_
  refine lv_if_lt (tgt := 23) hx hb dX2_last_4 (by decide) (fun c1 => ?_) (fun c1 => ?_)
  · have hf := tk c1 hf
    exact hx1 _ _ (Option.some.inj hf).symm rfl (lv_sub hl [] rfl)
  · have hf := fk c1 hf
    refine lv_iload_n hx hb dX2_last_7 rfl (lv_at hl 0 rfl) ?_
    refine lv_iload_n hx hb dX2_last_8 rfl (lv_at hl 1 rfl) ?_
    refine lv_ishr hx hb dX2_last_9 ?_
    refine lv_iconst (v := (1 : Int32)) hx hb dX2_last_10 (by decide) ?_
    refine lv_iand hx hb dX2_last_11 ?_
    refine lv_if_ne (tgt := 17) hx hb dX2_last_12 (by decide) (fun c2 => ?_) (fun c2 => ?_)
    · have hf := fk c2 hf
      refine lv_iinc (v := (x1 + (-1 : Int32))) (lv' := [(1, .int (x1 + (-1 : Int32))), (0, .int x0)]) hx hb dX2_last_17 hl (k := 1) rfl (iinc_eq (by decide)) (by decide) rfl (fun ls hl => ?_)
      refine lv_goto (tgt := 3) hx hb dX2_last_20 (by decide) ?_
      exact hk _ _ (Option.some.inj hf).symm (lv_sub hl [1, 0] rfl)
    · have hf := tk c2 hf
      exact hx0 _ _ (Option.some.inj hf).symm rfl (lv_sub hl [1] rfl)
set_option maxHeartbeats 4000000 in
set_option maxRecDepth 100000 in
theorem L_X2_last_3_W {x0 : Int32} (CF : CallFix p m c cX2_last 2 s args wsAll RX2) (hG : Gd D cI cB cT s) {o : Nat × Int32} (hx0 : ∀ (ls : Array Slot), o.1 = 0 → lv_has ls 2 [(1, .int o.2)] → W p l e rm_X2_last s m args below meth c s.heap [] 0 0 Q (F0 m 15 ls [])) (hx1 : ∀ (ls : Array Slot), o.1 = 1 → lv_has ls 2 [] → W p l e rm_X2_last s m args below meth c s.heap [] 0 0 Q (F0 m 23 ls [])) : ∀ (n : Nat) (x1 : Int32) (ls : Array Slot), va_P D vwCl wd_E s.heap → lv_has ls 2 [(0, .int x0), (1, .int x1)] → lp (fun v => B_X2_last_3 x0 v) n x1 = some o → W p l e rm_X2_last s m args below meth c s.heap [] 0 0 Q (F0 m 3 ls []) := by
  intro n
  induction n with
  | zero =>
    intro x1 ls hP hl hf
    exact (lp_zero hf).elim
  | succ n ih =>
    intro x1 ls hP hl hf
    obtain ⟨z, hz, hf⟩ := lp_succ hf
    refine B_X2_last_3_W CF hG ?_ ?_ ?_ hP hl hz
    · intro v' ls ez hl
      rcases hf with ⟨v2, ev, hf⟩ | ev
      · cases Sum.inl.inj (ez.symm.trans ev)
        exact ih v' ls hP hl hf
      · exact (lp_lr (ez.symm.trans ev)).elim
    · intro o' ls ez et hl
      rcases hf with ⟨v2, ev, hf⟩ | ev
      · exact (lp_lr (ev.symm.trans ez)).elim
      · cases Sum.inr.inj (ez.symm.trans ev)
        exact hx0 ls et  hl
    · intro o' ls ez et hl
      rcases hf with ⟨v2, ev, hf⟩ | ev
      · exact (lp_lr (ev.symm.trans ez)).elim
      · cases Sum.inr.inj (ez.symm.trans ev)
        exact hx1 ls et  hl
set_option maxHeartbeats 4000000 in
set_option maxRecDepth 100000 in
theorem c_X2_last (l : Launch) (D : va_G) (cI cB cT : ClassId) (p1 : Int32) {z : Int32} (hf : f_X2_last p1 = some z) :
    Met l yX2_last (Cond.code yX2_last cX2_last 2 (some .int) :: wsAll) rm_X2_last (Pro [.int p1] D cI cB cT wd_E) (Qr (some (.int z))) 0 0 (fun _ => False) := by
  refine ro_intro RX2 (by decide +kernel) rfl (Nat.le_of_ble_eq_true rfl) ?_
  intro p e s m below meth c ls CF hr hlk hG hP hl
  have hl : lv_has ls 2 [(0, .int p1)] := hl
  obtain ⟨hx, hb, hml, hown, hts⟩ := id CF
  unfold f_X2_last at hf
  refine lv_bipush (v := (9 : Int32)) hx hb dX2_last_0 (by decide) ?_
  refine lv_istore_n (lv' := [(1, .int (9 : Int32)), (0, .int p1)]) hx hb dX2_last_2 rfl hl (by decide) rfl (fun ls hl => ?_)
  obtain ⟨o3, e4, hf⟩ := lp_bind hf
  refine L_X2_last_3_W CF hG ?_ ?_ KN _ _ hP (lv_sub hl [1, 0] rfl) e4
  · intro ls et hl
    have hf := tk et hf
    refine lv_iload_n hx hb dX2_last_15 rfl (lv_at hl 0 rfl) ?_
    obtain rfl := Option.some.inj hf
    exact ro_iret CF hr hlk dX2_last_16
  · intro ls et hl
    have hf := fk (by rw [et]; decide) hf
    refine lv_iconst (v := (-1 : Int32)) hx hb dX2_last_23 (by decide) ?_
    obtain rfl := Option.some.inj hf
    exact ro_iret CF hr hlk dX2_last_24
end M_X2_last
section M_X2_half
variable {p : Program} {l : Launch} {e : Env} {s : State} {m : MethodId} {args : Array Value} {below : List Frame} {meth : Method} {c : Code} {Q : State → Prop} {A : Nat → Prop} {D : va_G} {cI cB cT : ClassId}
variable {a_w a_w_codes a_w_masks a_w_alike a_w_havers : Nat}
def rm_X2_half : Room := { frames := 1, cells := 0, slots := 0, locals := 40 }
def B_X2_half_9 (w_havers : (Nat → Int32)) (x1 : Int32) (x2 : Int32) (x3 : Int32) (x4 : Int32) (x5 : Int32) : Option ((Int32 × Int32 × Int32) ⊕ (Int32)) := (if (10 : Int32) ≤ x5 then some (Sum.inr x3) else ((f_X9_having w_havers x5).bind fun o2 => ((f_J6_bitCount_0f7a4 (x1 &&& o2)).bind fun o4 => ((f_J6_bitCount_0f7a4 x1).bind fun o6 => ((some ((if 0 ≤ (((2 : Int32) * o4) - o6) then (((2 : Int32) * o4) - o6) else 0 - (((2 : Int32) * o4) - o6)) : Int32)).bind fun o8 => (if ((x2 >>> (x5 &&& 31)) &&& (1 : Int32)) = 0 then (if x4 ≤ o8 then some (Sum.inl (x3, x4, (x5 + (1 : Int32)))) else some (Sum.inl (x5, o8, (x5 + (1 : Int32))))) else some (Sum.inl (x3, x4, (x5 + (1 : Int32))))))))))
def f_X2_half (w_havers : (Nat → Int32)) (p2 : Int32) (p3 : Int32) : Option (Int32) := ((lp (fun v => B_X2_half_9 w_havers p2 p3 v.1 v.2.1 v.2.2) KN ((-1 : Int32), (9 : Int32), (0 : Int32))).bind fun o13 => some o13)
set_option maxHeartbeats 4000000 in
set_option maxRecDepth 100000 in
theorem B_X2_half_9_W {w_size : Int32} {w_codes : (Nat → Int32)} {w_masks : (Nat → Int32)} {w_alike : (Nat → Int32)} {w_havers : (Nat → Int32)} {x1 : Int32} {x2 : Int32} {x3 : Int32} {x4 : Int32} {x5 : Int32} (CF : CallFix p m c cX2_half 7 s args wsAll RX2) (hG : Gd D cI cB cT s) {z : (Int32 × Int32 × Int32) ⊕ (Int32)} (hk : ∀ (v' : Int32 × Int32 × Int32) (ls : Array Slot), z = Sum.inl v' → lv_has ls 7 [(0, .ref a_w), (1, .int x1), (2, .int x2), (3, .int (v'.1)), (4, .int (v'.2.1)), (5, .int (v'.2.2))] → W p l e rm_X2_half s m args below meth c s.heap [] 0 0 Q (F0 m 9 ls [])) (hx0 : ∀ (o' : Int32) (ls : Array Slot), z = Sum.inr o' → lv_has ls 7 [(3, .int (o'))] → W p l e rm_X2_half s m args below meth c s.heap [] 0 0 Q (F0 m 68 ls [])) {ls : Array Slot} (hP : va_P D vwCl (wd_w a_w a_w_codes a_w_masks a_w_alike a_w_havers cI cB cT w_size w_codes w_masks w_alike w_havers) s.heap) (hl : lv_has ls 7 [(0, .ref a_w), (1, .int x1), (2, .int x2), (3, .int x3), (4, .int x4), (5, .int x5)]) (hf : B_X2_half_9 w_havers x1 x2 x3 x4 x5 = some z) : W p l e rm_X2_half s m args below meth c s.heap [] 0 0 Q (F0 m 9 ls []) := by
  obtain ⟨hx, hb, hml, hown, hts⟩ := id CF
  unfold B_X2_half_9 at hf
  refine lv_iload hx hb dX2_half_9 (lv_at hl 5 rfl) ?_
  refine lv_bipush (v := (10 : Int32)) hx hb dX2_half_11 (by decide) ?_
  refine lv_icmp_ge (tgt := 68) hx hb dX2_half_13 (by decide) (fun c1 => ?_) (fun c1 => ?_)
  · have hf := tk c1 hf
    exact hx0 _ _ (Option.some.inj hf).symm (lv_sub hl [3] rfl)
  · have hf := fk c1 hf
    refine lv_iconst (v := (2 : Int32)) hx hb dX2_half_16 (by decide) ?_
    refine lv_iload_n hx hb dX2_half_17 rfl (lv_at hl 1 rfl) ?_
    refine lv_aload_n hx hb dX2_half_18 rfl (lv_at hl 0 rfl) ?_
    refine lv_iload hx hb dX2_half_19 (lv_at hl 5 rfl) ?_
    obtain ⟨o2, e3, hf⟩ := lp_bind hf
    refine ro_Vi (x := o2) (As := [.int x5]) (rest := [.int x1, .int (2 : Int32)]) CF (c_X9_having l D cI cB cT a_w a_w_codes a_w_masks a_w_alike a_w_havers w_size w_codes w_masks w_alike w_havers x5 e3) ok_X9_having wm_734 ⟨rfl, rfl, Nat.le_of_ble_eq_true rfl, Nat.le_of_ble_eq_true rfl⟩ hG hP 0 7 vq_7 rfl ce_w_0 rfl hl.1 rfl (Nat.le_of_ble_eq_true rfl) ⟨Nat.zero_le _, Nat.zero_le _⟩ dX2_half_21 ?_
    refine lv_iand hx hb dX2_half_24 ?_
    obtain ⟨o4, e5, hf⟩ := lp_bind hf
    refine ro_Si (x := o4) (As := [.int (x1 &&& o2)]) (rest := [.int (2 : Int32)]) CF (c_J6_bitCount_0f7a4 l D cI cB cT (x1 &&& o2) e5) ok_J6_bitCount_0f7a4 wm_735 ⟨rfl, rfl, Nat.le_of_ble_eq_true rfl, Nat.le_of_ble_eq_true rfl⟩ hG wd_E_P rfl hl.1 rfl (Nat.le_of_ble_eq_true rfl) ⟨Nat.zero_le _, Nat.zero_le _⟩ dX2_half_25 ?_
    refine lv_imul hx hb dX2_half_28 ?_
    refine lv_iload_n hx hb dX2_half_29 rfl (lv_at hl 1 rfl) ?_
    obtain ⟨o6, e7, hf⟩ := lp_bind hf
    refine ro_Si (x := o6) (As := [.int x1]) (rest := [.int ((2 : Int32) * o4)]) CF (c_J6_bitCount_0f7a4 l D cI cB cT x1 e7) ok_J6_bitCount_0f7a4 wm_735 ⟨rfl, rfl, Nat.le_of_ble_eq_true rfl, Nat.le_of_ble_eq_true rfl⟩ hG wd_E_P rfl hl.1 rfl (Nat.le_of_ble_eq_true rfl) ⟨Nat.zero_le _, Nat.zero_le _⟩ dX2_half_30 ?_
    refine lv_isub hx hb dX2_half_33 ?_
    refine va_mabs hx hb (hml.trans hl.1.symm) hown (hts _ wm_743) (hts _ wm_744) (hts _ wm_89) (hts _ wm_745) (Nat.le_of_ble_eq_true rfl) (Nat.le_of_ble_eq_true rfl) (Nat.zero_le _) (Nat.zero_le _) dX2_half_34 ?_
    obtain ⟨o8, e9, hf⟩ := lp_bind hf
    refine lv_topi (fun y10 ey10 => ?_)
    obtain rfl : o8 = y10 := (Option.some.inj e9).symm.trans ey10.symm
    refine lv_istore (lv' := [(6, .int o8), (0, .ref a_w), (1, .int x1), (2, .int x2), (3, .int x3), (4, .int x4), (5, .int x5)]) hx hb dX2_half_37 hl (by decide) rfl (fun ls hl => ?_)
    refine lv_iload_n hx hb dX2_half_39 rfl (lv_at hl 3 rfl) ?_
    refine lv_iload hx hb dX2_half_40 (lv_at hl 6 rfl) ?_
    refine lv_ishr hx hb dX2_half_42 ?_
    refine lv_iconst (v := (1 : Int32)) hx hb dX2_half_43 (by decide) ?_
    refine lv_iand hx hb dX2_half_44 ?_
    refine lv_if_ne (tgt := 62) hx hb dX2_half_45 (by decide) (fun c11 => ?_) (fun c11 => ?_)
    · have hf := fk c11 hf
      refine lv_iinc (v := (x5 + (1 : Int32))) (lv' := [(5, .int (x5 + (1 : Int32))), (6, .int o8), (0, .ref a_w), (1, .int x1), (2, .int x2), (3, .int x3), (4, .int x4)]) hx hb dX2_half_62 hl (k := 6) rfl (iinc_eq (by decide)) (by decide) rfl (fun ls hl => ?_)
      refine lv_goto (tgt := 9) hx hb dX2_half_65 (by decide) ?_
      exact hk _ _ (Option.some.inj hf).symm (lv_sub hl [2, 3, 4, 5, 6, 0] rfl)
    · have hf := tk c11 hf
      refine lv_iload hx hb dX2_half_48 (lv_at hl 0 rfl) ?_
      refine lv_iload hx hb dX2_half_50 (lv_at hl 5 rfl) ?_
      refine lv_icmp_ge (tgt := 62) hx hb dX2_half_52 (by decide) (fun c12 => ?_) (fun c12 => ?_)
      · have hf := tk c12 hf
        refine lv_iinc (v := (x5 + (1 : Int32))) (lv' := [(5, .int (x5 + (1 : Int32))), (6, .int o8), (0, .ref a_w), (1, .int x1), (2, .int x2), (3, .int x3), (4, .int x4)]) hx hb dX2_half_62 hl (k := 6) rfl (iinc_eq (by decide)) (by decide) rfl (fun ls hl => ?_)
        refine lv_goto (tgt := 9) hx hb dX2_half_65 (by decide) ?_
        exact hk _ _ (Option.some.inj hf).symm (lv_sub hl [2, 3, 4, 5, 6, 0] rfl)
      · have hf := fk c12 hf
        refine lv_iload hx hb dX2_half_55 (lv_at hl 6 rfl) ?_
        refine lv_istore_n (lv' := [(3, .int x5), (6, .int o8), (0, .ref a_w), (1, .int x1), (2, .int x2), (4, .int x4), (5, .int x5)]) hx hb dX2_half_57 rfl hl (by decide) rfl (fun ls hl => ?_)
        refine lv_iload hx hb dX2_half_58 (lv_at hl 1 rfl) ?_
        refine lv_istore (lv' := [(4, .int o8), (3, .int x5), (6, .int o8), (0, .ref a_w), (1, .int x1), (2, .int x2), (5, .int x5)]) hx hb dX2_half_60 hl (by decide) rfl (fun ls hl => ?_)
        refine lv_iinc (v := (x5 + (1 : Int32))) (lv' := [(5, .int (x5 + (1 : Int32))), (4, .int o8), (3, .int x5), (6, .int o8), (0, .ref a_w), (1, .int x1), (2, .int x2)]) hx hb dX2_half_62 hl (k := 6) rfl (iinc_eq (by decide)) (by decide) rfl (fun ls hl => ?_)
        refine lv_goto (tgt := 9) hx hb dX2_half_65 (by decide) ?_
        exact hk _ _ (Option.some.inj hf).symm (lv_sub hl [4, 5, 6, 2, 1, 0] rfl)
set_option maxHeartbeats 4000000 in
set_option maxRecDepth 100000 in
theorem L_X2_half_9_W {w_size : Int32} {w_codes : (Nat → Int32)} {w_masks : (Nat → Int32)} {w_alike : (Nat → Int32)} {w_havers : (Nat → Int32)} {x1 : Int32} {x2 : Int32} (CF : CallFix p m c cX2_half 7 s args wsAll RX2) (hG : Gd D cI cB cT s) {o : Int32} (hx0 : ∀ (ls : Array Slot), lv_has ls 7 [(3, .int o)] → W p l e rm_X2_half s m args below meth c s.heap [] 0 0 Q (F0 m 68 ls [])) : ∀ (n : Nat) (x3 : Int32) (x4 : Int32) (x5 : Int32) (ls : Array Slot), va_P D vwCl (wd_w a_w a_w_codes a_w_masks a_w_alike a_w_havers cI cB cT w_size w_codes w_masks w_alike w_havers) s.heap → lv_has ls 7 [(0, .ref a_w), (1, .int x1), (2, .int x2), (3, .int x3), (4, .int x4), (5, .int x5)] → lp (fun v => B_X2_half_9 w_havers x1 x2 v.1 v.2.1 v.2.2) n (x3, x4, x5) = some o → W p l e rm_X2_half s m args below meth c s.heap [] 0 0 Q (F0 m 9 ls []) := by
  intro n
  induction n with
  | zero =>
    intro x3 x4 x5 ls hP hl hf
    exact (lp_zero hf).elim
  | succ n ih =>
    intro x3 x4 x5 ls hP hl hf
    obtain ⟨z, hz, hf⟩ := lp_succ hf
    refine B_X2_half_9_W CF hG ?_ ?_ hP hl hz
    · intro v' ls ez hl
      rcases hf with ⟨v2, ev, hf⟩ | ev
      · cases Sum.inl.inj (ez.symm.trans ev)
        exact ih v'.1 v'.2.1 v'.2.2 ls hP hl hf
      · exact (lp_lr (ez.symm.trans ev)).elim
    · intro o' ls ez hl
      rcases hf with ⟨v2, ev, hf⟩ | ev
      · exact (lp_lr (ev.symm.trans ez)).elim
      · cases Sum.inr.inj (ez.symm.trans ev)
        exact hx0 ls  hl
set_option maxHeartbeats 4000000 in
set_option maxRecDepth 100000 in
theorem c_X2_half (l : Launch) (D : va_G) (cI cB cT : ClassId) (a_w a_w_codes a_w_masks a_w_alike a_w_havers : Nat) (w_size : Int32) (w_codes : (Nat → Int32)) (w_masks : (Nat → Int32)) (w_alike : (Nat → Int32)) (w_havers : (Nat → Int32)) (p2 : Int32) (p3 : Int32) {z : Int32} (hf : f_X2_half w_havers p2 p3 = some z) :
    Met l yX2_half (Cond.code yX2_half cX2_half 7 (some .int) :: wsAll) rm_X2_half (Pro [.ref a_w, .int p2, .int p3] D cI cB cT (wd_w a_w a_w_codes a_w_masks a_w_alike a_w_havers cI cB cT w_size w_codes w_masks w_alike w_havers)) (Qr (some (.int z))) 0 0 (fun _ => False) := by
  refine ro_intro RX2 (by decide +kernel) rfl (Nat.le_of_ble_eq_true rfl) ?_
  intro p e s m below meth c ls CF hr hlk hG hP hl
  have hl : lv_has ls 7 [(0, .ref a_w), (1, .int p2), (2, .int p3)] := hl
  obtain ⟨hx, hb, hml, hown, hts⟩ := id CF
  unfold f_X2_half at hf
  refine lv_iconst (v := (-1 : Int32)) hx hb dX2_half_0 (by decide) ?_
  refine lv_istore_n (lv' := [(3, .int (-1 : Int32)), (0, .ref a_w), (1, .int p2), (2, .int p3)]) hx hb dX2_half_1 rfl hl (by decide) rfl (fun ls hl => ?_)
  refine lv_bipush (v := (9 : Int32)) hx hb dX2_half_2 (by decide) ?_
  refine lv_istore (lv' := [(4, .int (9 : Int32)), (3, .int (-1 : Int32)), (0, .ref a_w), (1, .int p2), (2, .int p3)]) hx hb dX2_half_4 hl (by decide) rfl (fun ls hl => ?_)
  refine lv_iconst (v := (0 : Int32)) hx hb dX2_half_6 (by decide) ?_
  refine lv_istore (lv' := [(5, .int (0 : Int32)), (4, .int (9 : Int32)), (3, .int (-1 : Int32)), (0, .ref a_w), (1, .int p2), (2, .int p3)]) hx hb dX2_half_7 hl (by decide) rfl (fun ls hl => ?_)
  obtain ⟨o13, e14, hf⟩ := lp_bind hf
  refine L_X2_half_9_W CF hG ?_ KN _ _ _ _ hP (lv_sub hl [3, 4, 5, 2, 1, 0] rfl) e14
  intro ls hl
  refine lv_iload_n hx hb dX2_half_68 rfl (lv_at hl 0 rfl) ?_
  obtain rfl := Option.some.inj hf
  exact ro_iret CF hr hlk dX2_half_69
end M_X2_half
section M_X2_sure
variable {p : Program} {l : Launch} {e : Env} {s : State} {m : MethodId} {args : Array Value} {below : List Frame} {meth : Method} {c : Code} {Q : State → Prop} {A : Nat → Prop} {D : va_G} {cI cB cT : ClassId}
variable {a_w a_w_codes a_w_masks a_w_alike a_w_havers : Nat}
def rm_X2_sure : Room := { frames := 2, cells := 0, slots := 0, locals := 47 }
def B_X2_sure_2 (w_havers : (Nat → Int32)) (x1 : Int32) (x2 : Int32) (x3 : Int32) : Option ((Int32) ⊕ (Nat × Int32)) := (if (10 : Int32) ≤ x3 then some (Sum.inr (1, x3)) else (if ((x2 >>> (x3 &&& 31)) &&& (1 : Int32)) = 0 then ((f_X9_isLacking w_havers x1 x3).bind fun o3 => (if o3 = 0 then some (Sum.inr (0, x3)) else some (Sum.inl (x3 + (1 : Int32))))) else some (Sum.inl (x3 + (1 : Int32)))))
def f_X2_sure (w_havers : (Nat → Int32)) (p2 : Int32) (p3 : Int32) : Option (Int32) := ((lp (fun v => B_X2_sure_2 w_havers p2 p3 v) KN (0 : Int32)).bind fun o6 => (if o6.1 = 0 then some o6.2 else ((f_X2_often w_havers p2 p3).bind fun o8 => some o8)))
set_option maxHeartbeats 4000000 in
set_option maxRecDepth 100000 in
theorem B_X2_sure_2_W {w_size : Int32} {w_codes : (Nat → Int32)} {w_masks : (Nat → Int32)} {w_alike : (Nat → Int32)} {w_havers : (Nat → Int32)} {x1 : Int32} {x2 : Int32} {x3 : Int32} (CF : CallFix p m c cX2_sure 4 s args wsAll RX2) (hG : Gd D cI cB cT s) {z : (Int32) ⊕ (Nat × Int32)} (hk : ∀ (v' : Int32) (ls : Array Slot), z = Sum.inl v' → lv_has ls 4 [(0, .ref a_w), (1, .int x1), (2, .int x2), (3, .int (v'))] → W p l e rm_X2_sure s m args below meth c s.heap [] 0 0 Q (F0 m 2 ls [])) (hx0 : ∀ (o' : Nat × Int32) (ls : Array Slot), z = Sum.inr o' → o'.1 = 0 → lv_has ls 4 [(3, .int (o'.2))] → W p l e rm_X2_sure s m args below meth c s.heap [] 0 0 Q (F0 m 25 ls [])) (hx1 : ∀ (o' : Nat × Int32) (ls : Array Slot), z = Sum.inr o' → o'.1 = 1 → lv_has ls 4 [(0, .ref a_w), (1, .int x1), (2, .int x2)] → W p l e rm_X2_sure s m args below meth c s.heap [] 0 0 Q (F0 m 33 ls [])) {ls : Array Slot} (hP : va_P D vwCl (wd_w a_w a_w_codes a_w_masks a_w_alike a_w_havers cI cB cT w_size w_codes w_masks w_alike w_havers) s.heap) (hl : lv_has ls 4 [(0, .ref a_w), (1, .int x1), (2, .int x2), (3, .int x3)]) (hf : B_X2_sure_2 w_havers x1 x2 x3 = some z) : W p l e rm_X2_sure s m args below meth c s.heap [] 0 0 Q (F0 m 2 ls []) := by
  obtain ⟨hx, hb, hml, hown, hts⟩ := id CF
  unfold B_X2_sure_2 at hf
  refine lv_iload_n hx hb dX2_sure_2 rfl (lv_at hl 3 rfl) ?_
  refine lv_bipush (v := (10 : Int32)) hx hb dX2_sure_3 (by decide) ?_
  refine lv_icmp_ge (tgt := 33) hx hb dX2_sure_5 (by decide) (fun c1 => ?_) (fun c1 => ?_)
  · have hf := tk c1 hf
    exact hx1 _ _ (Option.some.inj hf).symm rfl (lv_sub hl [0, 1, 2] rfl)
  · have hf := fk c1 hf
    refine lv_iload_n hx hb dX2_sure_8 rfl (lv_at hl 2 rfl) ?_
    refine lv_iload_n hx hb dX2_sure_9 rfl (lv_at hl 3 rfl) ?_
    refine lv_ishr hx hb dX2_sure_10 ?_
    refine lv_iconst (v := (1 : Int32)) hx hb dX2_sure_11 (by decide) ?_
    refine lv_iand hx hb dX2_sure_12 ?_
    refine lv_if_ne (tgt := 27) hx hb dX2_sure_13 (by decide) (fun c2 => ?_) (fun c2 => ?_)
    · have hf := fk c2 hf
      refine lv_iinc (v := (x3 + (1 : Int32))) (lv' := [(3, .int (x3 + (1 : Int32))), (0, .ref a_w), (1, .int x1), (2, .int x2)]) hx hb dX2_sure_27 hl (k := 3) rfl (iinc_eq (by decide)) (by decide) rfl (fun ls hl => ?_)
      refine lv_goto (tgt := 2) hx hb dX2_sure_30 (by decide) ?_
      exact hk _ _ (Option.some.inj hf).symm (lv_sub hl [1, 2, 3, 0] rfl)
    · have hf := tk c2 hf
      refine lv_aload_n hx hb dX2_sure_16 rfl (lv_at hl 0 rfl) ?_
      refine lv_iload_n hx hb dX2_sure_17 rfl (lv_at hl 1 rfl) ?_
      refine lv_iload_n hx hb dX2_sure_18 rfl (lv_at hl 3 rfl) ?_
      obtain ⟨o3, e4, hf⟩ := lp_bind hf
      refine ro_Vi (x := o3) (As := [.int x1, .int x3]) (rest := []) CF (c_X9_isLacking l D cI cB cT a_w a_w_codes a_w_masks a_w_alike a_w_havers w_size w_codes w_masks w_alike w_havers x1 x3 e4) ok_X9_isLacking wm_739 ⟨rfl, rfl, Nat.le_of_ble_eq_true rfl, Nat.le_of_ble_eq_true rfl⟩ hG hP 0 7 vq_7 rfl ce_w_0 rfl hl.1 rfl (Nat.le_of_ble_eq_true rfl) ⟨Nat.zero_le _, Nat.zero_le _⟩ dX2_sure_19 ?_
      refine lv_if_ne (tgt := 27) hx hb dX2_sure_22 (by decide) (fun c5 => ?_) (fun c5 => ?_)
      · have hf := fk c5 hf
        refine lv_iinc (v := (x3 + (1 : Int32))) (lv' := [(3, .int (x3 + (1 : Int32))), (0, .ref a_w), (1, .int x1), (2, .int x2)]) hx hb dX2_sure_27 hl (k := 3) rfl (iinc_eq (by decide)) (by decide) rfl (fun ls hl => ?_)
        refine lv_goto (tgt := 2) hx hb dX2_sure_30 (by decide) ?_
        exact hk _ _ (Option.some.inj hf).symm (lv_sub hl [1, 2, 3, 0] rfl)
      · have hf := tk c5 hf
        exact hx0 _ _ (Option.some.inj hf).symm rfl (lv_sub hl [3] rfl)
set_option maxHeartbeats 4000000 in
set_option maxRecDepth 100000 in
theorem L_X2_sure_2_W {w_size : Int32} {w_codes : (Nat → Int32)} {w_masks : (Nat → Int32)} {w_alike : (Nat → Int32)} {w_havers : (Nat → Int32)} {x1 : Int32} {x2 : Int32} (CF : CallFix p m c cX2_sure 4 s args wsAll RX2) (hG : Gd D cI cB cT s) {o : Nat × Int32} (hx0 : ∀ (ls : Array Slot), o.1 = 0 → lv_has ls 4 [(3, .int o.2)] → W p l e rm_X2_sure s m args below meth c s.heap [] 0 0 Q (F0 m 25 ls [])) (hx1 : ∀ (ls : Array Slot), o.1 = 1 → lv_has ls 4 [(0, .ref a_w), (1, .int x1), (2, .int x2)] → W p l e rm_X2_sure s m args below meth c s.heap [] 0 0 Q (F0 m 33 ls [])) : ∀ (n : Nat) (x3 : Int32) (ls : Array Slot), va_P D vwCl (wd_w a_w a_w_codes a_w_masks a_w_alike a_w_havers cI cB cT w_size w_codes w_masks w_alike w_havers) s.heap → lv_has ls 4 [(0, .ref a_w), (1, .int x1), (2, .int x2), (3, .int x3)] → lp (fun v => B_X2_sure_2 w_havers x1 x2 v) n x3 = some o → W p l e rm_X2_sure s m args below meth c s.heap [] 0 0 Q (F0 m 2 ls []) := by
  intro n
  induction n with
  | zero =>
    intro x3 ls hP hl hf
    exact (lp_zero hf).elim
  | succ n ih =>
    intro x3 ls hP hl hf
    obtain ⟨z, hz, hf⟩ := lp_succ hf
    refine B_X2_sure_2_W CF hG ?_ ?_ ?_ hP hl hz
    · intro v' ls ez hl
      rcases hf with ⟨v2, ev, hf⟩ | ev
      · cases Sum.inl.inj (ez.symm.trans ev)
        exact ih v' ls hP hl hf
      · exact (lp_lr (ez.symm.trans ev)).elim
    · intro o' ls ez et hl
      rcases hf with ⟨v2, ev, hf⟩ | ev
      · exact (lp_lr (ev.symm.trans ez)).elim
      · cases Sum.inr.inj (ez.symm.trans ev)
        exact hx0 ls et  hl
    · intro o' ls ez et hl
      rcases hf with ⟨v2, ev, hf⟩ | ev
      · exact (lp_lr (ev.symm.trans ez)).elim
      · cases Sum.inr.inj (ez.symm.trans ev)
        exact hx1 ls et  hl
set_option maxHeartbeats 4000000 in
set_option maxRecDepth 100000 in
theorem c_X2_sure (l : Launch) (D : va_G) (cI cB cT : ClassId) (a_w a_w_codes a_w_masks a_w_alike a_w_havers : Nat) (w_size : Int32) (w_codes : (Nat → Int32)) (w_masks : (Nat → Int32)) (w_alike : (Nat → Int32)) (w_havers : (Nat → Int32)) (p2 : Int32) (p3 : Int32) {z : Int32} (hf : f_X2_sure w_havers p2 p3 = some z) :
    Met l yX2_sure (Cond.code yX2_sure cX2_sure 4 (some .int) :: wsAll) rm_X2_sure (Pro [.ref a_w, .int p2, .int p3] D cI cB cT (wd_w a_w a_w_codes a_w_masks a_w_alike a_w_havers cI cB cT w_size w_codes w_masks w_alike w_havers)) (Qr (some (.int z))) 0 0 (fun _ => False) := by
  refine ro_intro RX2 (by decide +kernel) rfl (Nat.le_of_ble_eq_true rfl) ?_
  intro p e s m below meth c ls CF hr hlk hG hP hl
  have hl : lv_has ls 4 [(0, .ref a_w), (1, .int p2), (2, .int p3)] := hl
  obtain ⟨hx, hb, hml, hown, hts⟩ := id CF
  unfold f_X2_sure at hf
  refine lv_iconst (v := (0 : Int32)) hx hb dX2_sure_0 (by decide) ?_
  refine lv_istore_n (lv' := [(3, .int (0 : Int32)), (0, .ref a_w), (1, .int p2), (2, .int p3)]) hx hb dX2_sure_1 rfl hl (by decide) rfl (fun ls hl => ?_)
  obtain ⟨o6, e7, hf⟩ := lp_bind hf
  refine L_X2_sure_2_W CF hG ?_ ?_ KN _ _ hP (lv_sub hl [1, 2, 3, 0] rfl) e7
  · intro ls et hl
    have hf := tk et hf
    refine lv_iload_n hx hb dX2_sure_25 rfl (lv_at hl 0 rfl) ?_
    obtain rfl := Option.some.inj hf
    exact ro_iret CF hr hlk dX2_sure_26
  · intro ls et hl
    have hf := fk (by rw [et]; decide) hf
    refine lv_aload_n hx hb dX2_sure_33 rfl (lv_at hl 0 rfl) ?_
    refine lv_iload_n hx hb dX2_sure_34 rfl (lv_at hl 1 rfl) ?_
    refine lv_iload_n hx hb dX2_sure_35 rfl (lv_at hl 2 rfl) ?_
    obtain ⟨o8, e9, hf⟩ := lp_bind hf
    refine ro_Si (x := o8) (As := [.ref a_w, .int p2, .int p3]) (rest := []) CF (c_X2_often l D cI cB cT a_w a_w_codes a_w_masks a_w_alike a_w_havers w_size w_codes w_masks w_alike w_havers p2 p3 e9) ok_X2_often wm_731 ⟨rfl, rfl, Nat.le_of_ble_eq_true rfl, Nat.le_of_ble_eq_true rfl⟩ hG hP rfl hl.1 rfl (Nat.le_of_ble_eq_true rfl) ⟨Nat.zero_le _, Nat.zero_le _⟩ dX2_sure_36 ?_
    obtain rfl := Option.some.inj hf
    exact ro_iret CF hr hlk dX2_sure_39
end M_X2_sure
section M_X2_choice
variable {p : Program} {l : Launch} {e : Env} {s : State} {m : MethodId} {args : Array Value} {below : List Frame} {meth : Method} {c : Code} {Q : State → Prop} {A : Nat → Prop} {D : va_G} {cI cB cT : ClassId}
variable {a_w a_w_codes a_w_masks a_w_alike a_w_havers : Nat}
def rm_X2_choice : Room := { frames := 3, cells := 0, slots := 0, locals := 70 }
def f_X2_choice (w_size : Int32) (w_codes : (Nat → Int32)) (w_havers : (Nat → Int32)) (p1 : Int32) (p3 : Int32) (p4 : Int32) : Option (Int32) := (if p1 = (1 : Int32) then ((f_X2_often w_havers p3 p4).bind fun o2 => some o2) else (if p1 = (2 : Int32) then ((f_X2_sure w_havers p3 p4).bind fun o5 => some o5) else (if p1 = (3 : Int32) then ((f_X2_half w_havers p3 p4).bind fun o8 => some o8) else (if p1 = (4 : Int32) then ((f_X2_last p4).bind fun o11 => some o11) else (if p1 = (5 : Int32) then ((f_X2_first w_size w_codes w_havers p3 p4).bind fun o14 => some o14) else ((f_X2_row p4).bind fun o16 => some o16))))))
set_option maxHeartbeats 4000000 in
set_option maxRecDepth 100000 in
theorem c_X2_choice (l : Launch) (D : va_G) (cI cB cT : ClassId) (a_w a_w_codes a_w_masks a_w_alike a_w_havers : Nat) (w_size : Int32) (w_codes : (Nat → Int32)) (w_masks : (Nat → Int32)) (w_alike : (Nat → Int32)) (w_havers : (Nat → Int32)) (p1 : Int32) (p3 : Int32) (p4 : Int32) {z : Int32} (hf : f_X2_choice w_size w_codes w_havers p1 p3 p4 = some z) :
    Met l yX2_choice (Cond.code yX2_choice cX2_choice 4 (some .int) :: wsAll) rm_X2_choice (Pro [.int p1, .ref a_w, .int p3, .int p4] D cI cB cT (wd_w a_w a_w_codes a_w_masks a_w_alike a_w_havers cI cB cT w_size w_codes w_masks w_alike w_havers)) (Qr (some (.int z))) 0 0 (fun _ => False) := by
  refine ro_intro RX2 (by decide +kernel) rfl (Nat.le_of_ble_eq_true rfl) ?_
  intro p e s m below meth c ls CF hr hlk hG hP hl
  have hl : lv_has ls 4 [(0, .int p1), (1, .ref a_w), (2, .int p3), (3, .int p4)] := hl
  obtain ⟨hx, hb, hml, hown, hts⟩ := id CF
  unfold f_X2_choice at hf
  refine lv_iload_n hx hb dX2_choice_0 rfl (lv_at hl 0 rfl) ?_
  by_cases c1 : p1 = (1 : Int32)
  · have hf := tk c1 hf
    refine lv_tableIn (off := 35) (tgt := 36) hx hb dX2_choice_1 (by rw [c1]; decide) (by rw [c1]; decide) (by rw [c1]; decide) (by decide) ?_
    refine lv_aload_n hx hb dX2_choice_36 rfl (lv_at hl 1 rfl) ?_
    refine lv_iload_n hx hb dX2_choice_37 rfl (lv_at hl 2 rfl) ?_
    refine lv_iload_n hx hb dX2_choice_38 rfl (lv_at hl 3 rfl) ?_
    obtain ⟨o2, e3, hf⟩ := lp_bind hf
    refine ro_Si (x := o2) (As := [.ref a_w, .int p3, .int p4]) (rest := []) CF (c_X2_often l D cI cB cT a_w a_w_codes a_w_masks a_w_alike a_w_havers w_size w_codes w_masks w_alike w_havers p3 p4 e3) ok_X2_often wm_731 ⟨rfl, rfl, Nat.le_of_ble_eq_true rfl, Nat.le_of_ble_eq_true rfl⟩ hG hP rfl hl.1 rfl (Nat.le_of_ble_eq_true rfl) ⟨Nat.zero_le _, Nat.zero_le _⟩ dX2_choice_39 ?_
    obtain rfl := Option.some.inj hf
    exact ro_iret CF hr hlk dX2_choice_42
  · have hf := fk c1 hf
    by_cases c4 : p1 = (2 : Int32)
    · have hf := tk c4 hf
      refine lv_tableIn (off := 42) (tgt := 43) hx hb dX2_choice_1 (by rw [c4]; decide) (by rw [c4]; decide) (by rw [c4]; decide) (by decide) ?_
      refine lv_aload_n hx hb dX2_choice_43 rfl (lv_at hl 1 rfl) ?_
      refine lv_iload_n hx hb dX2_choice_44 rfl (lv_at hl 2 rfl) ?_
      refine lv_iload_n hx hb dX2_choice_45 rfl (lv_at hl 3 rfl) ?_
      obtain ⟨o5, e6, hf⟩ := lp_bind hf
      refine ro_Si (x := o5) (As := [.ref a_w, .int p3, .int p4]) (rest := []) CF (c_X2_sure l D cI cB cT a_w a_w_codes a_w_masks a_w_alike a_w_havers w_size w_codes w_masks w_alike w_havers p3 p4 e6) ok_X2_sure wm_736 ⟨rfl, rfl, Nat.le_of_ble_eq_true rfl, Nat.le_of_ble_eq_true rfl⟩ hG hP rfl hl.1 rfl (Nat.le_of_ble_eq_true rfl) ⟨Nat.zero_le _, Nat.zero_le _⟩ dX2_choice_46 ?_
      obtain rfl := Option.some.inj hf
      exact ro_iret CF hr hlk dX2_choice_49
    · have hf := fk c4 hf
      by_cases c7 : p1 = (3 : Int32)
      · have hf := tk c7 hf
        refine lv_tableIn (off := 49) (tgt := 50) hx hb dX2_choice_1 (by rw [c7]; decide) (by rw [c7]; decide) (by rw [c7]; decide) (by decide) ?_
        refine lv_aload_n hx hb dX2_choice_50 rfl (lv_at hl 1 rfl) ?_
        refine lv_iload_n hx hb dX2_choice_51 rfl (lv_at hl 2 rfl) ?_
        refine lv_iload_n hx hb dX2_choice_52 rfl (lv_at hl 3 rfl) ?_
        obtain ⟨o8, e9, hf⟩ := lp_bind hf
        refine ro_Si (x := o8) (As := [.ref a_w, .int p3, .int p4]) (rest := []) CF (c_X2_half l D cI cB cT a_w a_w_codes a_w_masks a_w_alike a_w_havers w_size w_codes w_masks w_alike w_havers p3 p4 e9) ok_X2_half wm_740 ⟨rfl, rfl, Nat.le_of_ble_eq_true rfl, Nat.le_of_ble_eq_true rfl⟩ hG hP rfl hl.1 rfl (Nat.le_of_ble_eq_true rfl) ⟨Nat.zero_le _, Nat.zero_le _⟩ dX2_choice_53 ?_
        obtain rfl := Option.some.inj hf
        exact ro_iret CF hr hlk dX2_choice_56
      · have hf := fk c7 hf
        by_cases c10 : p1 = (4 : Int32)
        · have hf := tk c10 hf
          refine lv_tableIn (off := 56) (tgt := 57) hx hb dX2_choice_1 (by rw [c10]; decide) (by rw [c10]; decide) (by rw [c10]; decide) (by decide) ?_
          refine lv_iload_n hx hb dX2_choice_57 rfl (lv_at hl 3 rfl) ?_
          obtain ⟨o11, e12, hf⟩ := lp_bind hf
          refine ro_Si (x := o11) (As := [.int p4]) (rest := []) CF (c_X2_last l D cI cB cT p4 e12) ok_X2_last wm_746 ⟨rfl, rfl, Nat.le_of_ble_eq_true rfl, Nat.le_of_ble_eq_true rfl⟩ hG wd_E_P rfl hl.1 rfl (Nat.le_of_ble_eq_true rfl) ⟨Nat.zero_le _, Nat.zero_le _⟩ dX2_choice_58 ?_
          obtain rfl := Option.some.inj hf
          exact ro_iret CF hr hlk dX2_choice_61
        · have hf := fk c10 hf
          by_cases c13 : p1 = (5 : Int32)
          · have hf := tk c13 hf
            refine lv_tableIn (off := 61) (tgt := 62) hx hb dX2_choice_1 (by rw [c13]; decide) (by rw [c13]; decide) (by rw [c13]; decide) (by decide) ?_
            refine lv_aload_n hx hb dX2_choice_62 rfl (lv_at hl 1 rfl) ?_
            refine lv_iload_n hx hb dX2_choice_63 rfl (lv_at hl 2 rfl) ?_
            refine lv_iload_n hx hb dX2_choice_64 rfl (lv_at hl 3 rfl) ?_
            obtain ⟨o14, e15, hf⟩ := lp_bind hf
            refine ro_Si (x := o14) (As := [.ref a_w, .int p3, .int p4]) (rest := []) CF (c_X2_first l D cI cB cT a_w a_w_codes a_w_masks a_w_alike a_w_havers w_size w_codes w_masks w_alike w_havers p3 p4 e15) ok_X2_first wm_749 ⟨rfl, rfl, Nat.le_of_ble_eq_true rfl, Nat.le_of_ble_eq_true rfl⟩ hG hP rfl hl.1 rfl (Nat.le_of_ble_eq_true rfl) ⟨Nat.zero_le _, Nat.zero_le _⟩ dX2_choice_65 ?_
            obtain rfl := Option.some.inj hf
            exact ro_iret CF hr hlk dX2_choice_68
          · have hf := fk c13 hf
            refine lv_tableOut (tgt := 69) hx hb dX2_choice_1 (sw_out (fun z h1 h2 h3 => ?_)) (by decide) ?_
            · have h4 : z = 1 ∨ z = 2 ∨ z = 3 ∨ z = 4 ∨ z = 5 := by omega
              rcases h4 with h4 | h4 | h4 | h4 | h4
              · exact c1 (Int32.toInt_inj.mp (by rw [h3, h4]; decide))
              · exact c4 (Int32.toInt_inj.mp (by rw [h3, h4]; decide))
              · exact c7 (Int32.toInt_inj.mp (by rw [h3, h4]; decide))
              · exact c10 (Int32.toInt_inj.mp (by rw [h3, h4]; decide))
              · exact c13 (Int32.toInt_inj.mp (by rw [h3, h4]; decide))
            · refine lv_iload_n hx hb dX2_choice_69 rfl (lv_at hl 3 rfl) ?_
              obtain ⟨o16, e17, hf⟩ := lp_bind hf
              refine ro_Si (x := o16) (As := [.int p4]) (rest := []) CF (c_X2_row l D cI cB cT p4 e17) ok_X2_row wm_754 ⟨rfl, rfl, Nat.le_of_ble_eq_true rfl, Nat.le_of_ble_eq_true rfl⟩ hG wd_E_P rfl hl.1 rfl (Nat.le_of_ble_eq_true rfl) ⟨Nat.zero_le _, Nat.zero_le _⟩ dX2_choice_70 ?_
              obtain rfl := Option.some.inj hf
              exact ro_iret CF hr hlk dX2_choice_73
end M_X2_choice
section M_X3_keptOf
variable {p : Program} {l : Launch} {e : Env} {s : State} {m : MethodId} {args : Array Value} {below : List Frame} {meth : Method} {c : Code} {Q : State → Prop} {A : Nat → Prop} {D : va_G} {cI cB cT : ClassId}
def rm_X3_keptOf : Room := { frames := 1, cells := 0, slots := 0, locals := 21 }
def f_X3_keptOf (p1 : Int32) (p2 : Int32) : Option (Int32) := (if ((p2 >>> (p1 &&& 31)) &&& (1 : Int32)) = 0 then ((f_X10_leastOf p2).bind fun o2 => some o2) else some p1)
set_option maxHeartbeats 4000000 in
set_option maxRecDepth 100000 in
theorem c_X3_keptOf (l : Launch) (D : va_G) (cI cB cT : ClassId) (p1 : Int32) (p2 : Int32) {z : Int32} (hf : f_X3_keptOf p1 p2 = some z) :
    Met l yX3_keptOf (Cond.code yX3_keptOf cX3_keptOf 2 (some .int) :: wsAll) rm_X3_keptOf (Pro [.int p1, .int p2] D cI cB cT wd_E) (Qr (some (.int z))) 0 0 (fun _ => False) := by
  refine ro_intro RX3 (by decide +kernel) rfl (Nat.le_of_ble_eq_true rfl) ?_
  intro p e s m below meth c ls CF hr hlk hG hP hl
  have hl : lv_has ls 2 [(0, .int p1), (1, .int p2)] := hl
  obtain ⟨hx, hb, hml, hown, hts⟩ := id CF
  unfold f_X3_keptOf at hf
  refine lv_iload_n hx hb dX3_keptOf_0 rfl (lv_at hl 1 rfl) ?_
  refine lv_iload_n hx hb dX3_keptOf_1 rfl (lv_at hl 0 rfl) ?_
  refine lv_ishr hx hb dX3_keptOf_2 ?_
  refine lv_iconst (v := (1 : Int32)) hx hb dX3_keptOf_3 (by decide) ?_
  refine lv_iand hx hb dX3_keptOf_4 ?_
  refine lv_if_eq (tgt := 12) hx hb dX3_keptOf_5 (by decide) (fun c1 => ?_) (fun c1 => ?_)
  · have hf := tk c1 hf
    refine lv_iload_n hx hb dX3_keptOf_12 rfl (lv_at hl 1 rfl) ?_
    obtain ⟨o2, e3, hf⟩ := lp_bind hf
    refine ro_SNi (x := o2) (As := [.int p2]) (rest := []) CF (c_X10_leastOf l D cI cB cT p2 e3) ok_X10_leastOf nm_9 ⟨rfl, rfl, Nat.le_of_ble_eq_true rfl, Nat.le_of_ble_eq_true rfl⟩ hG wd_E_P rfl hl.1 rfl (Nat.le_of_ble_eq_true rfl) ⟨Nat.zero_le _, Nat.zero_le _⟩ dX3_keptOf_13 ?_
    obtain rfl := Option.some.inj hf
    exact ro_iret CF hr hlk dX3_keptOf_16
  · have hf := fk c1 hf
    refine lv_iload_n hx hb dX3_keptOf_8 rfl (lv_at hl 0 rfl) ?_
    refine lv_goto (tgt := 16) hx hb dX3_keptOf_9 (by decide) ?_
    obtain rfl := Option.some.inj hf
    exact ro_iret CF hr hlk dX3_keptOf_16
end M_X3_keptOf
section M_X3_moodOf
variable {p : Program} {l : Launch} {e : Env} {s : State} {m : MethodId} {args : Array Value} {below : List Frame} {meth : Method} {c : Code} {Q : State → Prop} {A : Nat → Prop} {D : va_G} {cI cB cT : ClassId}
def rm_X3_moodOf : Room := { frames := 0, cells := 0, slots := 0, locals := 0 }
def f_X3_moodOf (p1 : Int32) (p2 : Int32) : Option (Int32) := (if p1 = (4 : Int32) then (if (p2 - p2 / (2 : Int32) * (2 : Int32)) = (1 : Int32) then some (2 : Int32) else some (0 : Int32)) else some p1)
set_option maxHeartbeats 4000000 in
set_option maxRecDepth 100000 in
theorem c_X3_moodOf (l : Launch) (D : va_G) (cI cB cT : ClassId) (p1 : Int32) (p2 : Int32) {z : Int32} (hf : f_X3_moodOf p1 p2 = some z) :
    Met l yX3_moodOf (Cond.code yX3_moodOf cX3_moodOf 2 (some .int) :: wsAll) rm_X3_moodOf (Pro [.int p1, .int p2] D cI cB cT wd_E) (Qr (some (.int z))) 0 0 (fun _ => False) := by
  refine ro_intro RX3 (by decide +kernel) rfl (Nat.le_of_ble_eq_true rfl) ?_
  intro p e s m below meth c ls CF hr hlk hG hP hl
  have hl : lv_has ls 2 [(0, .int p1), (1, .int p2)] := hl
  obtain ⟨hx, hb, hml, hown, hts⟩ := id CF
  unfold f_X3_moodOf at hf
  refine lv_iload_n hx hb dX3_moodOf_0 rfl (lv_at hl 0 rfl) ?_
  refine lv_iconst (v := (4 : Int32)) hx hb dX3_moodOf_1 (by decide) ?_
  refine lv_icmp_eq (tgt := 7) hx hb dX3_moodOf_2 (by decide) (fun c1 => ?_) (fun c1 => ?_)
  · have hf := tk c1 hf
    refine lv_iload_n hx hb dX3_moodOf_7 rfl (lv_at hl 1 rfl) ?_
    refine lv_iconst (v := (2 : Int32)) hx hb dX3_moodOf_8 (by decide) ?_
    refine lv_irem hx hb dX3_moodOf_9 (by decide) ?_
    refine lv_iconst (v := (1 : Int32)) hx hb dX3_moodOf_10 (by decide) ?_
    refine lv_icmp_ne (tgt := 18) hx hb dX3_moodOf_11 (by decide) (fun c2 => ?_) (fun c2 => ?_)
    · have hf := fk c2 hf
      refine lv_iconst (v := (0 : Int32)) hx hb dX3_moodOf_18 (by decide) ?_
      obtain rfl := Option.some.inj hf
      exact ro_iret CF hr hlk dX3_moodOf_19
    · have hf := tk c2 hf
      refine lv_iconst (v := (2 : Int32)) hx hb dX3_moodOf_14 (by decide) ?_
      refine lv_goto (tgt := 19) hx hb dX3_moodOf_15 (by decide) ?_
      obtain rfl := Option.some.inj hf
      exact ro_iret CF hr hlk dX3_moodOf_19
  · have hf := fk c1 hf
    refine lv_iload_n hx hb dX3_moodOf_5 rfl (lv_at hl 0 rfl) ?_
    obtain rfl := Option.some.inj hf
    exact ro_iret CF hr hlk dX3_moodOf_6
end M_X3_moodOf
section M_X3_halfAreLike
variable {p : Program} {l : Launch} {e : Env} {s : State} {m : MethodId} {args : Array Value} {below : List Frame} {meth : Method} {c : Code} {Q : State → Prop} {A : Nat → Prop} {D : va_G} {cI cB cT : ClassId}
variable {a_w a_w_codes a_w_masks a_w_alike a_w_havers : Nat}
def rm_X3_halfAreLike : Room := { frames := 1, cells := 0, slots := 0, locals := 22 }
def f_X3_halfAreLike (w_size : Int32) (w_alike : (Nat → Int32)) (p2 : Int32) (p3 : Int32) (p4 : Int32) : Option (Int32) := ((f_X9_alikeTo w_size w_alike p2 p4).bind fun o1 => ((f_J6_bitCount_0f7a4 (o1 &&& p3)).bind fun o3 => ((f_J6_bitCount_0f7a4 p3).bind fun o5 => (if ((2 : Int32) * o3) < o5 then some (0 : Int32) else some (1 : Int32)))))
set_option maxHeartbeats 4000000 in
set_option maxRecDepth 100000 in
theorem c_X3_halfAreLike (l : Launch) (D : va_G) (cI cB cT : ClassId) (a_w a_w_codes a_w_masks a_w_alike a_w_havers : Nat) (w_size : Int32) (w_codes : (Nat → Int32)) (w_masks : (Nat → Int32)) (w_alike : (Nat → Int32)) (w_havers : (Nat → Int32)) (p2 : Int32) (p3 : Int32) (p4 : Int32) {z : Int32} (hf : f_X3_halfAreLike w_size w_alike p2 p3 p4 = some z) :
    Met l yX3_halfAreLike (Cond.code yX3_halfAreLike cX3_halfAreLike 4 (some .boolean) :: wsAll) rm_X3_halfAreLike (Pro [.ref a_w, .int p2, .int p3, .int p4] D cI cB cT (wd_w a_w a_w_codes a_w_masks a_w_alike a_w_havers cI cB cT w_size w_codes w_masks w_alike w_havers)) (Qr (some (.int z))) 0 0 (fun _ => False) := by
  refine ro_intro RX3 (by decide +kernel) rfl (Nat.le_of_ble_eq_true rfl) ?_
  intro p e s m below meth c ls CF hr hlk hG hP hl
  have hl : lv_has ls 4 [(0, .ref a_w), (1, .int p2), (2, .int p3), (3, .int p4)] := hl
  obtain ⟨hx, hb, hml, hown, hts⟩ := id CF
  unfold f_X3_halfAreLike at hf
  refine lv_iconst (v := (2 : Int32)) hx hb dX3_halfAreLike_0 (by decide) ?_
  refine lv_aload_n hx hb dX3_halfAreLike_1 rfl (lv_at hl 0 rfl) ?_
  refine lv_iload_n hx hb dX3_halfAreLike_2 rfl (lv_at hl 1 rfl) ?_
  refine lv_iload_n hx hb dX3_halfAreLike_3 rfl (lv_at hl 3 rfl) ?_
  obtain ⟨o1, e2, hf⟩ := lp_bind hf
  refine ro_Vi (x := o1) (As := [.int p2, .int p4]) (rest := [.int (2 : Int32)]) CF (c_X9_alikeTo l D cI cB cT a_w a_w_codes a_w_masks a_w_alike a_w_havers w_size w_codes w_masks w_alike w_havers p2 p4 e2) ok_X9_alikeTo wm_569 ⟨rfl, rfl, Nat.le_of_ble_eq_true rfl, Nat.le_of_ble_eq_true rfl⟩ hG hP 0 7 vq_7 rfl ce_w_0 rfl hl.1 rfl (Nat.le_of_ble_eq_true rfl) ⟨Nat.zero_le _, Nat.zero_le _⟩ dX3_halfAreLike_4 ?_
  refine lv_iload_n hx hb dX3_halfAreLike_7 rfl (lv_at hl 2 rfl) ?_
  refine lv_iand hx hb dX3_halfAreLike_8 ?_
  obtain ⟨o3, e4, hf⟩ := lp_bind hf
  refine ro_Si (x := o3) (As := [.int (o1 &&& p3)]) (rest := [.int (2 : Int32)]) CF (c_J6_bitCount_0f7a4 l D cI cB cT (o1 &&& p3) e4) ok_J6_bitCount_0f7a4 wm_570 ⟨rfl, rfl, Nat.le_of_ble_eq_true rfl, Nat.le_of_ble_eq_true rfl⟩ hG wd_E_P rfl hl.1 rfl (Nat.le_of_ble_eq_true rfl) ⟨Nat.zero_le _, Nat.zero_le _⟩ dX3_halfAreLike_9 ?_
  refine lv_imul hx hb dX3_halfAreLike_12 ?_
  refine lv_iload_n hx hb dX3_halfAreLike_13 rfl (lv_at hl 2 rfl) ?_
  obtain ⟨o5, e6, hf⟩ := lp_bind hf
  refine ro_Si (x := o5) (As := [.int p3]) (rest := [.int ((2 : Int32) * o3)]) CF (c_J6_bitCount_0f7a4 l D cI cB cT p3 e6) ok_J6_bitCount_0f7a4 wm_570 ⟨rfl, rfl, Nat.le_of_ble_eq_true rfl, Nat.le_of_ble_eq_true rfl⟩ hG wd_E_P rfl hl.1 rfl (Nat.le_of_ble_eq_true rfl) ⟨Nat.zero_le _, Nat.zero_le _⟩ dX3_halfAreLike_14 ?_
  refine lv_icmp_lt (tgt := 24) hx hb dX3_halfAreLike_17 (by decide) (fun c7 => ?_) (fun c7 => ?_)
  · have hf := tk c7 hf
    refine lv_iconst (v := (0 : Int32)) hx hb dX3_halfAreLike_24 (by decide) ?_
    obtain rfl := Option.some.inj hf
    exact ro_zret CF hr hlk (Or.inl rfl) dX3_halfAreLike_25
  · have hf := fk c7 hf
    refine lv_iconst (v := (1 : Int32)) hx hb dX3_halfAreLike_20 (by decide) ?_
    refine lv_goto (tgt := 25) hx hb dX3_halfAreLike_21 (by decide) ?_
    obtain rfl := Option.some.inj hf
    exact ro_zret CF hr hlk (Or.inr rfl) dX3_halfAreLike_25
end M_X3_halfAreLike
section M_X3_reply
variable {p : Program} {l : Launch} {e : Env} {s : State} {m : MethodId} {args : Array Value} {below : List Frame} {meth : Method} {c : Code} {Q : State → Prop} {A : Nat → Prop} {D : va_G} {cI cB cT : ClassId}
variable {a_w a_w_codes a_w_masks a_w_alike a_w_havers : Nat}
def rm_X3_reply : Room := { frames := 2, cells := 0, slots := 0, locals := 49 }
def f_X3_reply (w_size : Int32) (w_masks : (Nat → Int32)) (w_alike : (Nat → Int32)) (w_havers : (Nat → Int32)) (p1 : Int32) (p3 : Int32) (p4 : Int32) (p5 : Int32) (p6 : Int32) : Option (Int32) := ((f_X3_keptOf p3 p4).bind fun o1 => ((f_X3_moodOf p1 p5).bind fun o3 => (if o3 = (1 : Int32) then ((f_X9_commonestMask w_size w_masks w_alike p4 p6).bind fun o6 => some o6) else (if o3 = (2 : Int32) then ((f_X9_isLacking w_havers p4 p6).bind fun o9 => (if o9 = 0 then ((f_X9_commonestMask w_size w_masks w_alike p4 p6).bind fun o12 => some o12) else some (0 : Int32))) else (if o3 = (3 : Int32) then ((f_X9_fullestMask w_size w_masks p4 p6).bind fun o15 => some o15) else (if o3 = (4 : Int32) then ((f_X9_maskOf w_size w_masks o1 p6).bind fun o18 => some o18) else (if o3 = (5 : Int32) then ((f_X3_halfAreLike w_size w_alike o1 p4 p6).bind fun o21 => (if o21 = 0 then ((f_X9_commonestMask w_size w_masks w_alike p4 p6).bind fun o24 => some o24) else ((f_X9_maskOf w_size w_masks o1 p6).bind fun o26 => some o26))) else ((f_X9_maskOf w_size w_masks o1 p6).bind fun o28 => some o28))))))))
set_option maxHeartbeats 4000000 in
set_option maxRecDepth 100000 in
theorem c_X3_reply (l : Launch) (D : va_G) (cI cB cT : ClassId) (a_w a_w_codes a_w_masks a_w_alike a_w_havers : Nat) (w_size : Int32) (w_codes : (Nat → Int32)) (w_masks : (Nat → Int32)) (w_alike : (Nat → Int32)) (w_havers : (Nat → Int32)) (p1 : Int32) (p3 : Int32) (p4 : Int32) (p5 : Int32) (p6 : Int32) {z : Int32} (hf : f_X3_reply w_size w_masks w_alike w_havers p1 p3 p4 p5 p6 = some z) :
    Met l yX3_reply (Cond.code yX3_reply cX3_reply 7 (some .int) :: wsAll) rm_X3_reply (Pro [.int p1, .ref a_w, .int p3, .int p4, .int p5, .int p6] D cI cB cT (wd_w a_w a_w_codes a_w_masks a_w_alike a_w_havers cI cB cT w_size w_codes w_masks w_alike w_havers)) (Qr (some (.int z))) 0 0 (fun _ => False) := by
  refine ro_intro RX3 (by decide +kernel) rfl (Nat.le_of_ble_eq_true rfl) ?_
  intro p e s m below meth c ls CF hr hlk hG hP hl
  have hl : lv_has ls 7 [(0, .int p1), (1, .ref a_w), (2, .int p3), (3, .int p4), (4, .int p5), (5, .int p6)] := hl
  obtain ⟨hx, hb, hml, hown, hts⟩ := id CF
  unfold f_X3_reply at hf
  refine lv_iload_n hx hb dX3_reply_0 rfl (lv_at hl 2 rfl) ?_
  refine lv_iload_n hx hb dX3_reply_1 rfl (lv_at hl 3 rfl) ?_
  obtain ⟨o1, e2, hf⟩ := lp_bind hf
  refine ro_Si (x := o1) (As := [.int p3, .int p4]) (rest := []) CF (c_X3_keptOf l D cI cB cT p3 p4 e2) ok_X3_keptOf wm_532 ⟨rfl, rfl, Nat.le_of_ble_eq_true rfl, Nat.le_of_ble_eq_true rfl⟩ hG wd_E_P rfl hl.1 rfl (Nat.le_of_ble_eq_true rfl) ⟨Nat.zero_le _, Nat.zero_le _⟩ dX3_reply_2 ?_
  refine lv_istore (lv' := [(6, .int o1), (0, .int p1), (1, .ref a_w), (2, .int p3), (3, .int p4), (4, .int p5), (5, .int p6)]) hx hb dX3_reply_5 hl (by decide) rfl (fun ls hl => ?_)
  refine lv_iload_n hx hb dX3_reply_7 rfl (lv_at hl 1 rfl) ?_
  refine lv_iload hx hb dX3_reply_8 (lv_at hl 5 rfl) ?_
  obtain ⟨o3, e4, hf⟩ := lp_bind hf
  refine ro_Si (x := o3) (As := [.int p1, .int p5]) (rest := []) CF (c_X3_moodOf l D cI cB cT p1 p5 e4) ok_X3_moodOf wm_538 ⟨rfl, rfl, Nat.le_of_ble_eq_true rfl, Nat.le_of_ble_eq_true rfl⟩ hG wd_E_P rfl hl.1 rfl (Nat.le_of_ble_eq_true rfl) ⟨Nat.zero_le _, Nat.zero_le _⟩ dX3_reply_10 ?_
  by_cases c5 : o3 = (1 : Int32)
  · have hf := tk c5 hf
    refine lv_tableIn (off := 35) (tgt := 48) hx hb dX3_reply_13 (by rw [c5]; decide) (by rw [c5]; decide) (by rw [c5]; decide) (by decide) ?_
    refine lv_aload_n hx hb dX3_reply_48 rfl (lv_at hl 2 rfl) ?_
    refine lv_iload_n hx hb dX3_reply_49 rfl (lv_at hl 4 rfl) ?_
    refine lv_iload hx hb dX3_reply_50 (lv_at hl 6 rfl) ?_
    obtain ⟨o6, e7, hf⟩ := lp_bind hf
    refine ro_Vi (x := o6) (As := [.int p4, .int p6]) (rest := []) CF (c_X9_commonestMask l D cI cB cT a_w a_w_codes a_w_masks a_w_alike a_w_havers w_size w_codes w_masks w_alike w_havers p4 p6 e7) ok_X9_commonestMask wm_541 ⟨rfl, rfl, Nat.le_of_ble_eq_true rfl, Nat.le_of_ble_eq_true rfl⟩ hG hP 0 7 vq_7 rfl ce_w_0 rfl hl.1 rfl (Nat.le_of_ble_eq_true rfl) ⟨Nat.zero_le _, Nat.zero_le _⟩ dX3_reply_52 ?_
    obtain rfl := Option.some.inj hf
    exact ro_iret CF hr hlk dX3_reply_55
  · have hf := fk c5 hf
    by_cases c8 : o3 = (2 : Int32)
    · have hf := tk c8 hf
      refine lv_tableIn (off := 43) (tgt := 56) hx hb dX3_reply_13 (by rw [c8]; decide) (by rw [c8]; decide) (by rw [c8]; decide) (by decide) ?_
      refine lv_aload_n hx hb dX3_reply_56 rfl (lv_at hl 2 rfl) ?_
      refine lv_iload_n hx hb dX3_reply_57 rfl (lv_at hl 4 rfl) ?_
      refine lv_iload hx hb dX3_reply_58 (lv_at hl 6 rfl) ?_
      obtain ⟨o9, e10, hf⟩ := lp_bind hf
      refine ro_Vi (x := o9) (As := [.int p4, .int p6]) (rest := []) CF (c_X9_isLacking l D cI cB cT a_w a_w_codes a_w_masks a_w_alike a_w_havers w_size w_codes w_masks w_alike w_havers p4 p6 e10) ok_X9_isLacking wm_554 ⟨rfl, rfl, Nat.le_of_ble_eq_true rfl, Nat.le_of_ble_eq_true rfl⟩ hG hP 0 7 vq_7 rfl ce_w_0 rfl hl.1 rfl (Nat.le_of_ble_eq_true rfl) ⟨Nat.zero_le _, Nat.zero_le _⟩ dX3_reply_60 ?_
      refine lv_if_eq (tgt := 70) hx hb dX3_reply_63 (by decide) (fun c11 => ?_) (fun c11 => ?_)
      · have hf := tk c11 hf
        refine lv_aload_n hx hb dX3_reply_70 rfl (lv_at hl 2 rfl) ?_
        refine lv_iload_n hx hb dX3_reply_71 rfl (lv_at hl 4 rfl) ?_
        refine lv_iload hx hb dX3_reply_72 (lv_at hl 6 rfl) ?_
        obtain ⟨o12, e13, hf⟩ := lp_bind hf
        refine ro_Vi (x := o12) (As := [.int p4, .int p6]) (rest := []) CF (c_X9_commonestMask l D cI cB cT a_w a_w_codes a_w_masks a_w_alike a_w_havers w_size w_codes w_masks w_alike w_havers p4 p6 e13) ok_X9_commonestMask wm_541 ⟨rfl, rfl, Nat.le_of_ble_eq_true rfl, Nat.le_of_ble_eq_true rfl⟩ hG hP 0 7 vq_7 rfl ce_w_0 rfl hl.1 rfl (Nat.le_of_ble_eq_true rfl) ⟨Nat.zero_le _, Nat.zero_le _⟩ dX3_reply_74 ?_
        obtain rfl := Option.some.inj hf
        exact ro_iret CF hr hlk dX3_reply_77
      · have hf := fk c11 hf
        refine lv_iconst (v := (0 : Int32)) hx hb dX3_reply_66 (by decide) ?_
        refine lv_goto (tgt := 77) hx hb dX3_reply_67 (by decide) ?_
        obtain rfl := Option.some.inj hf
        exact ro_iret CF hr hlk dX3_reply_77
    · have hf := fk c8 hf
      by_cases c14 : o3 = (3 : Int32)
      · have hf := tk c14 hf
        refine lv_tableIn (off := 65) (tgt := 78) hx hb dX3_reply_13 (by rw [c14]; decide) (by rw [c14]; decide) (by rw [c14]; decide) (by decide) ?_
        refine lv_aload_n hx hb dX3_reply_78 rfl (lv_at hl 2 rfl) ?_
        refine lv_iload_n hx hb dX3_reply_79 rfl (lv_at hl 4 rfl) ?_
        refine lv_iload hx hb dX3_reply_80 (lv_at hl 6 rfl) ?_
        obtain ⟨o15, e16, hf⟩ := lp_bind hf
        refine ro_Vi (x := o15) (As := [.int p4, .int p6]) (rest := []) CF (c_X9_fullestMask l D cI cB cT a_w a_w_codes a_w_masks a_w_alike a_w_havers w_size w_codes w_masks w_alike w_havers p4 p6 e16) ok_X9_fullestMask wm_562 ⟨rfl, rfl, Nat.le_of_ble_eq_true rfl, Nat.le_of_ble_eq_true rfl⟩ hG hP 0 7 vq_7 rfl ce_w_0 rfl hl.1 rfl (Nat.le_of_ble_eq_true rfl) ⟨Nat.zero_le _, Nat.zero_le _⟩ dX3_reply_82 ?_
        obtain rfl := Option.some.inj hf
        exact ro_iret CF hr hlk dX3_reply_85
      · have hf := fk c14 hf
        by_cases c17 : o3 = (4 : Int32)
        · have hf := tk c17 hf
          refine lv_tableIn (off := 104) (tgt := 117) hx hb dX3_reply_13 (by rw [c17]; decide) (by rw [c17]; decide) (by rw [c17]; decide) (by decide) ?_
          refine lv_aload_n hx hb dX3_reply_117 rfl (lv_at hl 2 rfl) ?_
          refine lv_iload hx hb dX3_reply_118 (lv_at hl 0 rfl) ?_
          refine lv_iload hx hb dX3_reply_120 (lv_at hl 6 rfl) ?_
          obtain ⟨o18, e19, hf⟩ := lp_bind hf
          refine ro_Vi (x := o18) (As := [.int o1, .int p6]) (rest := []) CF (c_X9_maskOf l D cI cB cT a_w a_w_codes a_w_masks a_w_alike a_w_havers w_size w_codes w_masks w_alike w_havers o1 p6 e19) ok_X9_maskOf wm_571 ⟨rfl, rfl, Nat.le_of_ble_eq_true rfl, Nat.le_of_ble_eq_true rfl⟩ hG hP 0 7 vq_7 rfl ce_w_0 rfl hl.1 rfl (Nat.le_of_ble_eq_true rfl) ⟨Nat.zero_le _, Nat.zero_le _⟩ dX3_reply_122 ?_
          obtain rfl := Option.some.inj hf
          exact ro_iret CF hr hlk dX3_reply_125
        · have hf := fk c17 hf
          by_cases c20 : o3 = (5 : Int32)
          · have hf := tk c20 hf
            refine lv_tableIn (off := 73) (tgt := 86) hx hb dX3_reply_13 (by rw [c20]; decide) (by rw [c20]; decide) (by rw [c20]; decide) (by decide) ?_
            refine lv_aload_n hx hb dX3_reply_86 rfl (lv_at hl 2 rfl) ?_
            refine lv_iload hx hb dX3_reply_87 (lv_at hl 0 rfl) ?_
            refine lv_iload_n hx hb dX3_reply_89 rfl (lv_at hl 4 rfl) ?_
            refine lv_iload hx hb dX3_reply_90 (lv_at hl 6 rfl) ?_
            obtain ⟨o21, e22, hf⟩ := lp_bind hf
            refine ro_Si (x := o21) (As := [.ref a_w, .int o1, .int p4, .int p6]) (rest := []) CF (c_X3_halfAreLike l D cI cB cT a_w a_w_codes a_w_masks a_w_alike a_w_havers w_size w_codes w_masks w_alike w_havers o1 p4 p6 e22) ok_X3_halfAreLike wm_566 ⟨rfl, rfl, Nat.le_of_ble_eq_true rfl, Nat.le_of_ble_eq_true rfl⟩ hG hP rfl hl.1 rfl (Nat.le_of_ble_eq_true rfl) ⟨Nat.zero_le _, Nat.zero_le _⟩ dX3_reply_92 ?_
            refine lv_if_eq (tgt := 109) hx hb dX3_reply_95 (by decide) (fun c23 => ?_) (fun c23 => ?_)
            · have hf := tk c23 hf
              refine lv_aload_n hx hb dX3_reply_109 rfl (lv_at hl 2 rfl) ?_
              refine lv_iload_n hx hb dX3_reply_110 rfl (lv_at hl 4 rfl) ?_
              refine lv_iload hx hb dX3_reply_111 (lv_at hl 6 rfl) ?_
              obtain ⟨o24, e25, hf⟩ := lp_bind hf
              refine ro_Vi (x := o24) (As := [.int p4, .int p6]) (rest := []) CF (c_X9_commonestMask l D cI cB cT a_w a_w_codes a_w_masks a_w_alike a_w_havers w_size w_codes w_masks w_alike w_havers p4 p6 e25) ok_X9_commonestMask wm_541 ⟨rfl, rfl, Nat.le_of_ble_eq_true rfl, Nat.le_of_ble_eq_true rfl⟩ hG hP 0 7 vq_7 rfl ce_w_0 rfl hl.1 rfl (Nat.le_of_ble_eq_true rfl) ⟨Nat.zero_le _, Nat.zero_le _⟩ dX3_reply_113 ?_
              obtain rfl := Option.some.inj hf
              exact ro_iret CF hr hlk dX3_reply_116
            · have hf := fk c23 hf
              refine lv_aload_n hx hb dX3_reply_98 rfl (lv_at hl 2 rfl) ?_
              refine lv_iload hx hb dX3_reply_99 (lv_at hl 0 rfl) ?_
              refine lv_iload hx hb dX3_reply_101 (lv_at hl 6 rfl) ?_
              obtain ⟨o26, e27, hf⟩ := lp_bind hf
              refine ro_Vi (x := o26) (As := [.int o1, .int p6]) (rest := []) CF (c_X9_maskOf l D cI cB cT a_w a_w_codes a_w_masks a_w_alike a_w_havers w_size w_codes w_masks w_alike w_havers o1 p6 e27) ok_X9_maskOf wm_571 ⟨rfl, rfl, Nat.le_of_ble_eq_true rfl, Nat.le_of_ble_eq_true rfl⟩ hG hP 0 7 vq_7 rfl ce_w_0 rfl hl.1 rfl (Nat.le_of_ble_eq_true rfl) ⟨Nat.zero_le _, Nat.zero_le _⟩ dX3_reply_103 ?_
              refine lv_goto (tgt := 116) hx hb dX3_reply_106 (by decide) ?_
              obtain rfl := Option.some.inj hf
              exact ro_iret CF hr hlk dX3_reply_116
          · have hf := fk c20 hf
            refine lv_tableOut (tgt := 117) hx hb dX3_reply_13 (sw_out (fun z h1 h2 h3 => ?_)) (by decide) ?_
            · have h4 : z = 1 ∨ z = 2 ∨ z = 3 ∨ z = 4 ∨ z = 5 := by omega
              rcases h4 with h4 | h4 | h4 | h4 | h4
              · exact c5 (Int32.toInt_inj.mp (by rw [h3, h4]; decide))
              · exact c8 (Int32.toInt_inj.mp (by rw [h3, h4]; decide))
              · exact c14 (Int32.toInt_inj.mp (by rw [h3, h4]; decide))
              · exact c17 (Int32.toInt_inj.mp (by rw [h3, h4]; decide))
              · exact c20 (Int32.toInt_inj.mp (by rw [h3, h4]; decide))
            · refine lv_aload_n hx hb dX3_reply_117 rfl (lv_at hl 2 rfl) ?_
              refine lv_iload hx hb dX3_reply_118 (lv_at hl 0 rfl) ?_
              refine lv_iload hx hb dX3_reply_120 (lv_at hl 6 rfl) ?_
              obtain ⟨o28, e29, hf⟩ := lp_bind hf
              refine ro_Vi (x := o28) (As := [.int o1, .int p6]) (rest := []) CF (c_X9_maskOf l D cI cB cT a_w a_w_codes a_w_masks a_w_alike a_w_havers w_size w_codes w_masks w_alike w_havers o1 p6 e29) ok_X9_maskOf wm_571 ⟨rfl, rfl, Nat.le_of_ble_eq_true rfl, Nat.le_of_ble_eq_true rfl⟩ hG hP 0 7 vq_7 rfl ce_w_0 rfl hl.1 rfl (Nat.le_of_ble_eq_true rfl) ⟨Nat.zero_le _, Nat.zero_le _⟩ dX3_reply_122 ?_
              obtain rfl := Option.some.inj hf
              exact ro_iret CF hr hlk dX3_reply_125
end M_X3_reply
