section M_X5_copyFrom
variable {p : Program} {l : Launch} {e : Env} {s : State} {m : MethodId} {args : Array Value} {below : List Frame} {meth : Method} {c : Code} {Q : State → Prop} {A : Nat → Prop} {D : va_G} {cI cB cT : ClassId}
variable {a_q a_q_cells a_oq a_oq_cells : Nat}
def rm_X5_copyFrom : Room := { frames := 1, cells := 0, slots := 0, locals := 40 }
def f_X5_copyFrom (q_len : Nat) (oq_len : Nat) (q_cells : (Nat → Int32)) (oq_size : Int32) (oq_cells : (Nat → Int32)) : Option (Int32 × (Nat → Int32)) := (if ((0 : Int32) < 0 ∨ (0 : Int32) < 0 ∨ (if (Int32.ofNat oq_len) < (Int32.ofNat q_len) then (Int32.ofNat oq_len) else (Int32.ofNat q_len)) < 0 ∨ oq_len < ((0 : Int32)).toNatClampNeg + ((if (Int32.ofNat oq_len) < (Int32.ofNat q_len) then (Int32.ofNat oq_len) else (Int32.ofNat q_len))).toNatClampNeg ∨ q_len < ((0 : Int32)).toNatClampNeg + ((if (Int32.ofNat oq_len) < (Int32.ofNat q_len) then (Int32.ofNat oq_len) else (Int32.ofNat q_len))).toNatClampNeg) then none else some (oq_size, (va_cpy oq_cells q_cells ((0 : Int32)).toNatClampNeg ((0 : Int32)).toNatClampNeg ((if (Int32.ofNat oq_len) < (Int32.ofNat q_len) then (Int32.ofNat oq_len) else (Int32.ofNat q_len))).toNatClampNeg)))
set_option maxHeartbeats 4000000 in
set_option maxRecDepth 100000 in
theorem c_X5_copyFrom (l : Launch) (D : va_G) (cI cB cT : ClassId) (sz : Nat) (a_q a_q_cells a_oq a_oq_cells q_len oq_len : Nat) (q_size : Int32) (q_cells : (Nat → Int32)) (oq_size : Int32) (oq_cells : (Nat → Int32)) {z : Int32 × (Nat → Int32)} (hf : f_X5_copyFrom q_len oq_len q_cells oq_size oq_cells = some z) :
    Met l yX5_copyFrom (Cond.code yX5_copyFrom cX5_copyFrom 2 none :: wsAll) rm_X5_copyFrom (Pwr [.ref a_q, .ref a_oq] D cI cB cT (wd_q_oq a_q a_q_cells a_oq a_oq_cells cI cB cT q_len oq_len q_size q_cells oq_size oq_cells) sz) (Qw none D (wd_q_oq a_q a_q_cells a_oq a_oq_cells cI cB cT q_len oq_len z.1 z.2 oq_size oq_cells) (va_A (wd_q_oq a_q a_q_cells a_oq a_oq_cells cI cB cT q_len oq_len q_size q_cells oq_size oq_cells) sz)) 0 0 (va_A (wd_q_oq a_q a_q_cells a_oq a_oq_cells cI cB cT q_len oq_len q_size q_cells oq_size oq_cells) sz) := by
  refine wr_intro RX5 (by decide +kernel) rfl (Nat.le_of_ble_eq_true rfl) ?_
  intro p e s m below meth c ls A H locs CF hr hlk hG hP hD hS hA hl
  have hl : lv_has ls 2 [(0, .ref a_q), (1, .ref a_oq)] := hl
  obtain ⟨hx, hb, hml, hown, hts⟩ := id CF
  unfold f_X5_copyFrom at hf
  refine lv_aload_n hx hb dX5_copyFrom_0 rfl (lv_at hl 0 rfl) ?_
  refine lv_aload_n hx hb dX5_copyFrom_1 rfl (lv_at hl 1 rfl) ?_
  refine va_get (D := D) (ci := 3) (v := .int oq_size) (C := RX5) (T := TX5) (N := 2) hx hb hts fin_X5 hown hG.1 hP 2 ce_q_oq_2 vq_3 0 (by decide) (hts _ wm_175) (fun _ h9 => h9) rfl dX5_copyFrom_2 ?_
  refine va_put (D := D) (ci := 3) (v := .int oq_size) (ty := .int) (C := RX5) (T := TX5) (N := 2) hx hb hts fin_X5 tyX5 tyX5_ok nmX5 hown hG.1 hP hD hS 0 ce_q_oq_0 vq_3 0 (by decide) (hts _ wm_175) (fun _ h9 => h9) rfl (tyX5_ok 0 (by decide)) rfl rfl (Nat.le_of_ble_eq_true rfl) dX5_copyFrom_5 (fun H locs hP _ hS => ?_)
  have hP : va_P D vwCl (wd_q_oq a_q a_q_cells a_oq a_oq_cells cI cB cT q_len oq_len oq_size q_cells oq_size oq_cells) H := va_P_eq se_q_oq_q_size hP
  have hD : va_D A (wd_q_oq a_q a_q_cells a_oq a_oq_cells cI cB cT q_len oq_len oq_size q_cells oq_size oq_cells) := va_D_fst fs_q_oq hD
  refine lv_aload_n hx hb dX5_copyFrom_8 rfl (lv_at hl 1 rfl) ?_
  refine va_get (D := D) (ci := 3) (v := .ref a_oq_cells) (C := RX5) (T := TX5) (N := 2) hx hb hts fin_X5 hown hG.1 hP 2 ce_q_oq_2 vq_3 1 (by decide) (hts _ wm_178) (fun _ h9 => h9) rfl dX5_copyFrom_9 ?_
  refine lv_iconst (v := (0 : Int32)) hx hb dX5_copyFrom_12 (by decide) ?_
  refine lv_aload_n hx hb dX5_copyFrom_13 rfl (lv_at hl 0 rfl) ?_
  refine va_get (D := D) (ci := 3) (v := .ref a_q_cells) (C := RX5) (T := TX5) (N := 2) hx hb hts fin_X5 hown hG.1 hP 0 ce_q_oq_0 vq_3 1 (by decide) (hts _ wm_178) (fun _ h9 => h9) rfl dX5_copyFrom_14 ?_
  refine lv_iconst (v := (0 : Int32)) hx hb dX5_copyFrom_17 (by decide) ?_
  refine lv_aload_n hx hb dX5_copyFrom_18 rfl (lv_at hl 0 rfl) ?_
  refine va_get (D := D) (ci := 3) (v := .ref a_q_cells) (C := RX5) (T := TX5) (N := 2) hx hb hts fin_X5 hown hG.1 hP 0 ce_q_oq_0 vq_3 1 (by decide) (hts _ wm_178) (fun _ h9 => h9) rfl dX5_copyFrom_19 ?_
  refine va_alen (v := (Int32.ofNat q_len)) hx hb hG.1 hP 1 0 ce_q_oq_1 rfl rfl dX5_copyFrom_22 ?_
  refine lv_aload_n hx hb dX5_copyFrom_23 rfl (lv_at hl 1 rfl) ?_
  refine va_get (D := D) (ci := 3) (v := .ref a_oq_cells) (C := RX5) (T := TX5) (N := 2) hx hb hts fin_X5 hown hG.1 hP 2 ce_q_oq_2 vq_3 1 (by decide) (hts _ wm_178) (fun _ h9 => h9) rfl dX5_copyFrom_24 ?_
  refine va_alen (v := (Int32.ofNat oq_len)) hx hb hG.1 hP 3 0 ce_q_oq_3 rfl rfl dX5_copyFrom_27 ?_
  refine va_mmin hx hb (hml.trans hl.1.symm) hown (hts _ wm_599) (hts _ wm_600) (hts _ wm_89) (hts _ wm_601) (Nat.le_of_ble_eq_true rfl) (Nat.le_of_ble_eq_true rfl) (Nat.zero_le _) (Nat.zero_le _) dX5_copyFrom_28 ?_
  obtain ⟨n1, hf⟩ := nk hf
  refine va_copyi (f := oq_cells) (g := q_cells) (ty := .int) hx hb (hml.trans hl.1.symm) hown (hts _ wm_602) (hts _ wm_590) (hts _ wm_589) (hts _ wm_101) hG.1 hP hD hS 3 1 0 0 ce_q_oq_3 ce_q_oq_1 rfl rfl rfl (fun h => n1 (Or.inl h)) (fun h => n1 (Or.inr (Or.inl h))) (fun h => n1 (Or.inr (Or.inr (Or.inl h)))) (Nat.le_of_not_lt (fun h => n1 (Or.inr (Or.inr (Or.inr (Or.inl h)))))) (Nat.le_of_not_lt (fun h => n1 (Or.inr (Or.inr (Or.inr (Or.inr h)))))) (fun _ _ => rfl) (Nat.le_of_ble_eq_true rfl) (Nat.le_of_ble_eq_true rfl) dX5_copyFrom_31 (fun H locs hP _ hS => ?_)
  have hP : va_P D vwCl (wd_q_oq a_q a_q_cells a_oq a_oq_cells cI cB cT q_len oq_len oq_size (va_cpy oq_cells q_cells ((0 : Int32)).toNatClampNeg ((0 : Int32)).toNatClampNeg ((if (Int32.ofNat oq_len) < (Int32.ofNat q_len) then (Int32.ofNat oq_len) else (Int32.ofNat q_len))).toNatClampNeg) oq_size oq_cells) H := va_P_eq se_q_oq_q_cells hP
  have hD : va_D A (wd_q_oq a_q a_q_cells a_oq a_oq_cells cI cB cT q_len oq_len oq_size (va_cpy oq_cells q_cells ((0 : Int32)).toNatClampNeg ((0 : Int32)).toNatClampNeg ((if (Int32.ofNat oq_len) < (Int32.ofNat q_len) then (Int32.ofNat oq_len) else (Int32.ofNat q_len))).toNatClampNeg) oq_size oq_cells) := va_D_fst fs_q_oq hD
  obtain rfl := Option.some.inj hf
  exact wr_vret CF hr hlk hP hS dX5_copyFrom_34
end M_X5_copyFrom
section M_X5_isFull
variable {p : Program} {l : Launch} {e : Env} {s : State} {m : MethodId} {args : Array Value} {below : List Frame} {meth : Method} {c : Code} {Q : State → Prop} {A : Nat → Prop} {D : va_G} {cI cB cT : ClassId}
variable {a_q a_q_cells : Nat}
def rm_X5_isFull : Room := { frames := 0, cells := 0, slots := 0, locals := 0 }
def f_X5_isFull (q_len : Nat) (q_size : Int32) : Option (Int32) := (if ((q_size + (1 : Int32)) * (4 : Int32)) ≤ (Int32.ofNat q_len) then some (0 : Int32) else some (1 : Int32))
set_option maxHeartbeats 4000000 in
set_option maxRecDepth 100000 in
theorem c_X5_isFull (l : Launch) (D : va_G) (cI cB cT : ClassId) (a_q a_q_cells q_len : Nat) (q_size : Int32) (q_cells : (Nat → Int32)) {z : Int32} (hf : f_X5_isFull q_len q_size = some z) :
    Met l yX5_isFull (Cond.code yX5_isFull cX5_isFull 1 (some .boolean) :: wsAll) rm_X5_isFull (Pro [.ref a_q] D cI cB cT (wd_q a_q a_q_cells cI cB cT q_len q_size q_cells)) (Qr (some (.int z))) 0 0 (fun _ => False) := by
  refine ro_intro RX5 (by decide +kernel) rfl (Nat.le_of_ble_eq_true rfl) ?_
  intro p e s m below meth c ls CF hr hlk hG hP hl
  have hl : lv_has ls 1 [(0, .ref a_q)] := hl
  obtain ⟨hx, hb, hml, hown, hts⟩ := id CF
  unfold f_X5_isFull at hf
  refine lv_aload_n hx hb dX5_isFull_0 rfl (lv_at hl 0 rfl) ?_
  refine va_get (D := D) (ci := 3) (v := .int q_size) (C := RX5) (T := TX5) (N := 2) hx hb hts fin_X5 hown hG.1 hP 0 ce_q_0 vq_3 0 (by decide) (hts _ wm_175) (fun _ h9 => h9) rfl dX5_isFull_1 ?_
  refine lv_iconst (v := (1 : Int32)) hx hb dX5_isFull_4 (by decide) ?_
  refine lv_iadd hx hb dX5_isFull_5 ?_
  refine lv_iconst (v := (4 : Int32)) hx hb dX5_isFull_6 (by decide) ?_
  refine lv_imul hx hb dX5_isFull_7 ?_
  refine lv_aload_n hx hb dX5_isFull_8 rfl (lv_at hl 0 rfl) ?_
  refine va_get (D := D) (ci := 3) (v := .ref a_q_cells) (C := RX5) (T := TX5) (N := 2) hx hb hts fin_X5 hown hG.1 hP 0 ce_q_0 vq_3 1 (by decide) (hts _ wm_178) (fun _ h9 => h9) rfl dX5_isFull_9 ?_
  refine va_alen (v := (Int32.ofNat q_len)) hx hb hG.1 hP 1 0 ce_q_1 rfl rfl dX5_isFull_12 ?_
  refine lv_icmp_le (tgt := 20) hx hb dX5_isFull_13 (by decide) (fun c1 => ?_) (fun c1 => ?_)
  · have hf := tk c1 hf
    refine lv_iconst (v := (0 : Int32)) hx hb dX5_isFull_20 (by decide) ?_
    obtain rfl := Option.some.inj hf
    exact ro_zret CF hr hlk (Or.inl rfl) dX5_isFull_21
  · have hf := fk c1 hf
    refine lv_iconst (v := (1 : Int32)) hx hb dX5_isFull_16 (by decide) ?_
    refine lv_goto (tgt := 21) hx hb dX5_isFull_17 (by decide) ?_
    obtain rfl := Option.some.inj hf
    exact ro_zret CF hr hlk (Or.inr rfl) dX5_isFull_21
end M_X5_isFull
section M_X5_dropFirst
variable {p : Program} {l : Launch} {e : Env} {s : State} {m : MethodId} {args : Array Value} {below : List Frame} {meth : Method} {c : Code} {Q : State → Prop} {A : Nat → Prop} {D : va_G} {cI cB cT : ClassId}
variable {a_q a_q_cells : Nat}
def rm_X5_dropFirst : Room := { frames := 1, cells := 0, slots := 0, locals := 40 }
def f_X5_dropFirst (q_len : Nat) (q_size : Int32) (q_cells : (Nat → Int32)) : Option (Int32 × (Nat → Int32)) := (if q_size ≤ 0 then some (q_size, q_cells) else (if ((4 : Int32) < 0 ∨ (0 : Int32) < 0 ∨ ((Int32.ofNat q_len) - (4 : Int32)) < 0 ∨ q_len < ((4 : Int32)).toNatClampNeg + (((Int32.ofNat q_len) - (4 : Int32))).toNatClampNeg ∨ q_len < ((0 : Int32)).toNatClampNeg + (((Int32.ofNat q_len) - (4 : Int32))).toNatClampNeg) then none else some ((q_size - (1 : Int32)), (va_cpy q_cells q_cells ((4 : Int32)).toNatClampNeg ((0 : Int32)).toNatClampNeg (((Int32.ofNat q_len) - (4 : Int32))).toNatClampNeg))))
set_option maxHeartbeats 4000000 in
set_option maxRecDepth 100000 in
theorem c_X5_dropFirst (l : Launch) (D : va_G) (cI cB cT : ClassId) (sz : Nat) (a_q a_q_cells q_len : Nat) (q_size : Int32) (q_cells : (Nat → Int32)) {z : Int32 × (Nat → Int32)} (hf : f_X5_dropFirst q_len q_size q_cells = some z) :
    Met l yX5_dropFirst (Cond.code yX5_dropFirst cX5_dropFirst 1 none :: wsAll) rm_X5_dropFirst (Pwr [.ref a_q] D cI cB cT (wd_q a_q a_q_cells cI cB cT q_len q_size q_cells) sz) (Qw none D (wd_q a_q a_q_cells cI cB cT q_len z.1 z.2) (va_A (wd_q a_q a_q_cells cI cB cT q_len q_size q_cells) sz)) 0 0 (va_A (wd_q a_q a_q_cells cI cB cT q_len q_size q_cells) sz) := by
  refine wr_intro RX5 (by decide +kernel) rfl (Nat.le_of_ble_eq_true rfl) ?_
  intro p e s m below meth c ls A H locs CF hr hlk hG hP hD hS hA hl
  have hl : lv_has ls 1 [(0, .ref a_q)] := hl
  obtain ⟨hx, hb, hml, hown, hts⟩ := id CF
  unfold f_X5_dropFirst at hf
  refine lv_aload_n hx hb dX5_dropFirst_0 rfl (lv_at hl 0 rfl) ?_
  refine va_get (D := D) (ci := 3) (v := .int q_size) (C := RX5) (T := TX5) (N := 2) hx hb hts fin_X5 hown hG.1 hP 0 ce_q_0 vq_3 0 (by decide) (hts _ wm_175) (fun _ h9 => h9) rfl dX5_dropFirst_1 ?_
  refine lv_if_le (tgt := 37) hx hb dX5_dropFirst_4 (by decide) (fun c1 => ?_) (fun c1 => ?_)
  · have hf := tk c1 hf
    obtain rfl := Option.some.inj hf
    exact wr_vret CF hr hlk hP hS dX5_dropFirst_37
  · have hf := fk c1 hf
    refine lv_aload_n hx hb dX5_dropFirst_7 rfl (lv_at hl 0 rfl) ?_
    refine va_get (D := D) (ci := 3) (v := .ref a_q_cells) (C := RX5) (T := TX5) (N := 2) hx hb hts fin_X5 hown hG.1 hP 0 ce_q_0 vq_3 1 (by decide) (hts _ wm_178) (fun _ h9 => h9) rfl dX5_dropFirst_8 ?_
    refine lv_iconst (v := (4 : Int32)) hx hb dX5_dropFirst_11 (by decide) ?_
    refine lv_aload_n hx hb dX5_dropFirst_12 rfl (lv_at hl 0 rfl) ?_
    refine va_get (D := D) (ci := 3) (v := .ref a_q_cells) (C := RX5) (T := TX5) (N := 2) hx hb hts fin_X5 hown hG.1 hP 0 ce_q_0 vq_3 1 (by decide) (hts _ wm_178) (fun _ h9 => h9) rfl dX5_dropFirst_13 ?_
    refine lv_iconst (v := (0 : Int32)) hx hb dX5_dropFirst_16 (by decide) ?_
    refine lv_aload_n hx hb dX5_dropFirst_17 rfl (lv_at hl 0 rfl) ?_
    refine va_get (D := D) (ci := 3) (v := .ref a_q_cells) (C := RX5) (T := TX5) (N := 2) hx hb hts fin_X5 hown hG.1 hP 0 ce_q_0 vq_3 1 (by decide) (hts _ wm_178) (fun _ h9 => h9) rfl dX5_dropFirst_18 ?_
    refine va_alen (v := (Int32.ofNat q_len)) hx hb hG.1 hP 1 0 ce_q_1 rfl rfl dX5_dropFirst_21 ?_
    refine lv_iconst (v := (4 : Int32)) hx hb dX5_dropFirst_22 (by decide) ?_
    refine lv_isub hx hb dX5_dropFirst_23 ?_
    obtain ⟨n2, hf⟩ := nk hf
    refine va_copyi (f := q_cells) (g := q_cells) (ty := .int) hx hb (hml.trans hl.1.symm) hown (hts _ wm_602) (hts _ wm_590) (hts _ wm_589) (hts _ wm_101) hG.1 hP hD hS 1 1 0 0 ce_q_1 ce_q_1 rfl rfl rfl (fun h => n2 (Or.inl h)) (fun h => n2 (Or.inr (Or.inl h))) (fun h => n2 (Or.inr (Or.inr (Or.inl h)))) (Nat.le_of_not_lt (fun h => n2 (Or.inr (Or.inr (Or.inr (Or.inl h)))))) (Nat.le_of_not_lt (fun h => n2 (Or.inr (Or.inr (Or.inr (Or.inr h)))))) (fun _ _ => rfl) (Nat.le_of_ble_eq_true rfl) (Nat.le_of_ble_eq_true rfl) dX5_dropFirst_24 (fun H locs hP _ hS => ?_)
    have hP : va_P D vwCl (wd_q a_q a_q_cells cI cB cT q_len q_size (va_cpy q_cells q_cells ((4 : Int32)).toNatClampNeg ((0 : Int32)).toNatClampNeg (((Int32.ofNat q_len) - (4 : Int32))).toNatClampNeg)) H := va_P_eq se_q_q_cells hP
    have hD : va_D A (wd_q a_q a_q_cells cI cB cT q_len q_size (va_cpy q_cells q_cells ((4 : Int32)).toNatClampNeg ((0 : Int32)).toNatClampNeg (((Int32.ofNat q_len) - (4 : Int32))).toNatClampNeg)) := va_D_fst fs_q hD
    refine lv_aload_n hx hb dX5_dropFirst_27 rfl (lv_at hl 0 rfl) ?_
    refine lv_dup hx hb dX5_dropFirst_28 rfl ?_
    refine va_get (D := D) (ci := 3) (v := .int q_size) (C := RX5) (T := TX5) (N := 2) hx hb hts fin_X5 hown hG.1 hP 0 ce_q_0 vq_3 0 (by decide) (hts _ wm_175) (fun _ h9 => h9) rfl dX5_dropFirst_29 ?_
    refine lv_iconst (v := (1 : Int32)) hx hb dX5_dropFirst_32 (by decide) ?_
    refine lv_isub hx hb dX5_dropFirst_33 ?_
    refine va_put (D := D) (ci := 3) (v := .int (q_size - (1 : Int32))) (ty := .int) (C := RX5) (T := TX5) (N := 2) hx hb hts fin_X5 tyX5 tyX5_ok nmX5 hown hG.1 hP hD hS 0 ce_q_0 vq_3 0 (by decide) (hts _ wm_175) (fun _ h9 => h9) rfl (tyX5_ok 0 (by decide)) rfl rfl (Nat.le_of_ble_eq_true rfl) dX5_dropFirst_34 (fun H locs hP _ hS => ?_)
    have hP : va_P D vwCl (wd_q a_q a_q_cells cI cB cT q_len (q_size - (1 : Int32)) (va_cpy q_cells q_cells ((4 : Int32)).toNatClampNeg ((0 : Int32)).toNatClampNeg (((Int32.ofNat q_len) - (4 : Int32))).toNatClampNeg)) H := va_P_eq se_q_q_size hP
    have hD : va_D A (wd_q a_q a_q_cells cI cB cT q_len (q_size - (1 : Int32)) (va_cpy q_cells q_cells ((4 : Int32)).toNatClampNeg ((0 : Int32)).toNatClampNeg (((Int32.ofNat q_len) - (4 : Int32))).toNatClampNeg)) := va_D_fst fs_q hD
    obtain rfl := Option.some.inj hf
    exact wr_vret CF hr hlk hP hS dX5_dropFirst_37
end M_X5_dropFirst
section M_X5_add
variable {p : Program} {l : Launch} {e : Env} {s : State} {m : MethodId} {args : Array Value} {below : List Frame} {meth : Method} {c : Code} {Q : State → Prop} {A : Nat → Prop} {D : va_G} {cI cB cT : ClassId}
variable {a_q a_q_cells : Nat}
def rm_X5_add : Room := { frames := 1, cells := 0, slots := 0, locals := 20 }
def f_X5_add (q_len : Nat) (q_size : Int32) (q_cells : (Nat → Int32)) (p1 : Int32) (p2 : Int32) (p3 : Int32) (p4 : Int32) : Option (Int32 × (Nat → Int32)) := ((f_X5_isFull q_len q_size).bind fun o1 => (if o1 = 0 then (if oob (q_size * (4 : Int32)) q_len then none else (if oob ((q_size * (4 : Int32)) + (1 : Int32)) q_len then none else (if oob ((q_size * (4 : Int32)) + (2 : Int32)) q_len then none else (if oob ((q_size * (4 : Int32)) + (3 : Int32)) q_len then none else some ((q_size + (1 : Int32)), (upd (upd (upd (upd q_cells ((q_size * (4 : Int32))).toNatClampNeg p1) (((q_size * (4 : Int32)) + (1 : Int32))).toNatClampNeg p2) (((q_size * (4 : Int32)) + (2 : Int32))).toNatClampNeg p3) (((q_size * (4 : Int32)) + (3 : Int32))).toNatClampNeg p4)))))) else some (q_size, q_cells)))
set_option maxHeartbeats 4000000 in
set_option maxRecDepth 100000 in
theorem c_X5_add (l : Launch) (D : va_G) (cI cB cT : ClassId) (sz : Nat) (a_q a_q_cells q_len : Nat) (q_size : Int32) (q_cells : (Nat → Int32)) (p1 : Int32) (p2 : Int32) (p3 : Int32) (p4 : Int32) {z : Int32 × (Nat → Int32)} (hf : f_X5_add q_len q_size q_cells p1 p2 p3 p4 = some z) :
    Met l yX5_add (Cond.code yX5_add cX5_add 6 none :: wsAll) rm_X5_add (Pwr [.ref a_q, .int p1, .int p2, .int p3, .int p4] D cI cB cT (wd_q a_q a_q_cells cI cB cT q_len q_size q_cells) sz) (Qw none D (wd_q a_q a_q_cells cI cB cT q_len z.1 z.2) (va_A (wd_q a_q a_q_cells cI cB cT q_len q_size q_cells) sz)) 0 0 (va_A (wd_q a_q a_q_cells cI cB cT q_len q_size q_cells) sz) := by
  refine wr_intro RX5 (by decide +kernel) rfl (Nat.le_of_ble_eq_true rfl) ?_
  intro p e s m below meth c ls A H locs CF hr hlk hG hP hD hS hA hl
  have hl : lv_has ls 6 [(0, .ref a_q), (1, .int p1), (2, .int p2), (3, .int p3), (4, .int p4)] := hl
  obtain ⟨hx, hb, hml, hown, hts⟩ := id CF
  unfold f_X5_add at hf
  refine lv_aload_n hx hb dX5_add_0 rfl (lv_at hl 0 rfl) ?_
  obtain ⟨o1, e2, hf⟩ := lp_bind hf
  refine ro_Vi (x := o1) (As := []) (rest := []) CF (c_X5_isFull l D cI cB cT a_q a_q_cells q_len q_size q_cells e2) ok_X5_isFull wm_624 ⟨rfl, rfl, Nat.le_of_ble_eq_true rfl, Nat.le_of_ble_eq_true rfl⟩ hG hP 0 3 vq_3 rfl ce_q_0 rfl hl.1 rfl (Nat.le_of_ble_eq_true rfl) ⟨Nat.zero_le _, Nat.zero_le _⟩ dX5_add_1 ?_
  refine lv_if_ne (tgt := 64) hx hb dX5_add_4 (by decide) (fun c3 => ?_) (fun c3 => ?_)
  · have hf := fk c3 hf
    obtain rfl := Option.some.inj hf
    exact wr_vret CF hr hlk hP hS dX5_add_64
  · have hf := tk c3 hf
    refine lv_aload_n hx hb dX5_add_7 rfl (lv_at hl 0 rfl) ?_
    refine va_get (D := D) (ci := 3) (v := .int q_size) (C := RX5) (T := TX5) (N := 2) hx hb hts fin_X5 hown hG.1 hP 0 ce_q_0 vq_3 0 (by decide) (hts _ wm_175) (fun _ h9 => h9) rfl dX5_add_8 ?_
    refine lv_iconst (v := (4 : Int32)) hx hb dX5_add_11 (by decide) ?_
    refine lv_imul hx hb dX5_add_12 ?_
    refine lv_istore (lv' := [(5, .int (q_size * (4 : Int32))), (0, .ref a_q), (1, .int p1), (2, .int p2), (3, .int p3), (4, .int p4)]) hx hb dX5_add_13 hl (by decide) rfl (fun ls hl => ?_)
    refine lv_aload_n hx hb dX5_add_15 rfl (lv_at hl 1 rfl) ?_
    refine va_get (D := D) (ci := 3) (v := .ref a_q_cells) (C := RX5) (T := TX5) (N := 2) hx hb hts fin_X5 hown hG.1 hP 0 ce_q_0 vq_3 1 (by decide) (hts _ wm_178) (fun _ h9 => h9) rfl dX5_add_16 ?_
    refine lv_iload hx hb dX5_add_19 (lv_at hl 0 rfl) ?_
    refine lv_iload_n hx hb dX5_add_21 rfl (lv_at hl 2 rfl) ?_
    obtain ⟨n4, hf⟩ := nk hf
    refine va_iast (f := q_cells) hx hb hG.1 hP hD hS 1 0 ce_q_1 rfl n4 dX5_add_22 (fun H locs hP _ hS => ?_)
    have hP : va_P D vwCl (wd_q a_q a_q_cells cI cB cT q_len q_size (upd q_cells ((q_size * (4 : Int32))).toNatClampNeg p1)) H := va_P_eq se_q_q_cells hP
    have hD : va_D A (wd_q a_q a_q_cells cI cB cT q_len q_size (upd q_cells ((q_size * (4 : Int32))).toNatClampNeg p1)) := va_D_fst fs_q hD
    refine lv_aload_n hx hb dX5_add_23 rfl (lv_at hl 1 rfl) ?_
    refine va_get (D := D) (ci := 3) (v := .ref a_q_cells) (C := RX5) (T := TX5) (N := 2) hx hb hts fin_X5 hown hG.1 hP 0 ce_q_0 vq_3 1 (by decide) (hts _ wm_178) (fun _ h9 => h9) rfl dX5_add_24 ?_
    refine lv_iload hx hb dX5_add_27 (lv_at hl 0 rfl) ?_
    refine lv_iconst (v := (1 : Int32)) hx hb dX5_add_29 (by decide) ?_
    refine lv_iadd hx hb dX5_add_30 ?_
    refine lv_iload_n hx hb dX5_add_31 rfl (lv_at hl 3 rfl) ?_
    obtain ⟨n5, hf⟩ := nk hf
    refine va_iast (f := (upd q_cells ((q_size * (4 : Int32))).toNatClampNeg p1)) hx hb hG.1 hP hD hS 1 0 ce_q_1 rfl n5 dX5_add_32 (fun H locs hP _ hS => ?_)
    have hP : va_P D vwCl (wd_q a_q a_q_cells cI cB cT q_len q_size (upd (upd q_cells ((q_size * (4 : Int32))).toNatClampNeg p1) (((q_size * (4 : Int32)) + (1 : Int32))).toNatClampNeg p2)) H := va_P_eq se_q_q_cells hP
    have hD : va_D A (wd_q a_q a_q_cells cI cB cT q_len q_size (upd (upd q_cells ((q_size * (4 : Int32))).toNatClampNeg p1) (((q_size * (4 : Int32)) + (1 : Int32))).toNatClampNeg p2)) := va_D_fst fs_q hD
    refine lv_aload_n hx hb dX5_add_33 rfl (lv_at hl 1 rfl) ?_
    refine va_get (D := D) (ci := 3) (v := .ref a_q_cells) (C := RX5) (T := TX5) (N := 2) hx hb hts fin_X5 hown hG.1 hP 0 ce_q_0 vq_3 1 (by decide) (hts _ wm_178) (fun _ h9 => h9) rfl dX5_add_34 ?_
    refine lv_iload hx hb dX5_add_37 (lv_at hl 0 rfl) ?_
    refine lv_iconst (v := (2 : Int32)) hx hb dX5_add_39 (by decide) ?_
    refine lv_iadd hx hb dX5_add_40 ?_
    refine lv_iload_n hx hb dX5_add_41 rfl (lv_at hl 4 rfl) ?_
    obtain ⟨n6, hf⟩ := nk hf
    refine va_iast (f := (upd (upd q_cells ((q_size * (4 : Int32))).toNatClampNeg p1) (((q_size * (4 : Int32)) + (1 : Int32))).toNatClampNeg p2)) hx hb hG.1 hP hD hS 1 0 ce_q_1 rfl n6 dX5_add_42 (fun H locs hP _ hS => ?_)
    have hP : va_P D vwCl (wd_q a_q a_q_cells cI cB cT q_len q_size (upd (upd (upd q_cells ((q_size * (4 : Int32))).toNatClampNeg p1) (((q_size * (4 : Int32)) + (1 : Int32))).toNatClampNeg p2) (((q_size * (4 : Int32)) + (2 : Int32))).toNatClampNeg p3)) H := va_P_eq se_q_q_cells hP
    have hD : va_D A (wd_q a_q a_q_cells cI cB cT q_len q_size (upd (upd (upd q_cells ((q_size * (4 : Int32))).toNatClampNeg p1) (((q_size * (4 : Int32)) + (1 : Int32))).toNatClampNeg p2) (((q_size * (4 : Int32)) + (2 : Int32))).toNatClampNeg p3)) := va_D_fst fs_q hD
    refine lv_aload_n hx hb dX5_add_43 rfl (lv_at hl 1 rfl) ?_
    refine va_get (D := D) (ci := 3) (v := .ref a_q_cells) (C := RX5) (T := TX5) (N := 2) hx hb hts fin_X5 hown hG.1 hP 0 ce_q_0 vq_3 1 (by decide) (hts _ wm_178) (fun _ h9 => h9) rfl dX5_add_44 ?_
    refine lv_iload hx hb dX5_add_47 (lv_at hl 0 rfl) ?_
    refine lv_iconst (v := (3 : Int32)) hx hb dX5_add_49 (by decide) ?_
    refine lv_iadd hx hb dX5_add_50 ?_
    refine lv_iload hx hb dX5_add_51 (lv_at hl 5 rfl) ?_
    obtain ⟨n7, hf⟩ := nk hf
    refine va_iast (f := (upd (upd (upd q_cells ((q_size * (4 : Int32))).toNatClampNeg p1) (((q_size * (4 : Int32)) + (1 : Int32))).toNatClampNeg p2) (((q_size * (4 : Int32)) + (2 : Int32))).toNatClampNeg p3)) hx hb hG.1 hP hD hS 1 0 ce_q_1 rfl n7 dX5_add_53 (fun H locs hP _ hS => ?_)
    have hP : va_P D vwCl (wd_q a_q a_q_cells cI cB cT q_len q_size (upd (upd (upd (upd q_cells ((q_size * (4 : Int32))).toNatClampNeg p1) (((q_size * (4 : Int32)) + (1 : Int32))).toNatClampNeg p2) (((q_size * (4 : Int32)) + (2 : Int32))).toNatClampNeg p3) (((q_size * (4 : Int32)) + (3 : Int32))).toNatClampNeg p4)) H := va_P_eq se_q_q_cells hP
    have hD : va_D A (wd_q a_q a_q_cells cI cB cT q_len q_size (upd (upd (upd (upd q_cells ((q_size * (4 : Int32))).toNatClampNeg p1) (((q_size * (4 : Int32)) + (1 : Int32))).toNatClampNeg p2) (((q_size * (4 : Int32)) + (2 : Int32))).toNatClampNeg p3) (((q_size * (4 : Int32)) + (3 : Int32))).toNatClampNeg p4)) := va_D_fst fs_q hD
    refine lv_aload_n hx hb dX5_add_54 rfl (lv_at hl 1 rfl) ?_
    refine lv_dup hx hb dX5_add_55 rfl ?_
    refine va_get (D := D) (ci := 3) (v := .int q_size) (C := RX5) (T := TX5) (N := 2) hx hb hts fin_X5 hown hG.1 hP 0 ce_q_0 vq_3 0 (by decide) (hts _ wm_175) (fun _ h9 => h9) rfl dX5_add_56 ?_
    refine lv_iconst (v := (1 : Int32)) hx hb dX5_add_59 (by decide) ?_
    refine lv_iadd hx hb dX5_add_60 ?_
    refine va_put (D := D) (ci := 3) (v := .int (q_size + (1 : Int32))) (ty := .int) (C := RX5) (T := TX5) (N := 2) hx hb hts fin_X5 tyX5 tyX5_ok nmX5 hown hG.1 hP hD hS 0 ce_q_0 vq_3 0 (by decide) (hts _ wm_175) (fun _ h9 => h9) rfl (tyX5_ok 0 (by decide)) rfl rfl (Nat.le_of_ble_eq_true rfl) dX5_add_61 (fun H locs hP _ hS => ?_)
    have hP : va_P D vwCl (wd_q a_q a_q_cells cI cB cT q_len (q_size + (1 : Int32)) (upd (upd (upd (upd q_cells ((q_size * (4 : Int32))).toNatClampNeg p1) (((q_size * (4 : Int32)) + (1 : Int32))).toNatClampNeg p2) (((q_size * (4 : Int32)) + (2 : Int32))).toNatClampNeg p3) (((q_size * (4 : Int32)) + (3 : Int32))).toNatClampNeg p4)) H := va_P_eq se_q_q_size hP
    have hD : va_D A (wd_q a_q a_q_cells cI cB cT q_len (q_size + (1 : Int32)) (upd (upd (upd (upd q_cells ((q_size * (4 : Int32))).toNatClampNeg p1) (((q_size * (4 : Int32)) + (1 : Int32))).toNatClampNeg p2) (((q_size * (4 : Int32)) + (2 : Int32))).toNatClampNeg p3) (((q_size * (4 : Int32)) + (3 : Int32))).toNatClampNeg p4)) := va_D_fst fs_q hD
    obtain rfl := Option.some.inj hf
    exact wr_vret CF hr hlk hP hS dX5_add_64
end M_X5_add
section M_X10_isBelow
variable {p : Program} {l : Launch} {e : Env} {s : State} {m : MethodId} {args : Array Value} {below : List Frame} {meth : Method} {c : Code} {Q : State → Prop} {A : Nat → Prop} {D : va_G} {cI cB cT : ClassId}
def rm_X10_isBelow : Room := { frames := 0, cells := 0, slots := 0, locals := 0 }
def f_X10_isBelow (p1 : Int32) (p2 : Int32) : Option (Int32) := (if p1 < 0 then some (0 : Int32) else (if p2 ≤ p1 then some (0 : Int32) else some (1 : Int32)))
set_option maxHeartbeats 4000000 in
set_option maxRecDepth 100000 in
theorem c_X10_isBelow (l : Launch) (D : va_G) (cI cB cT : ClassId) (p1 : Int32) (p2 : Int32) {z : Int32} (hf : f_X10_isBelow p1 p2 = some z) :
    Met l yX10_isBelow (Cond.code yX10_isBelow cX10_isBelow 2 (some .boolean) :: wsAll) rm_X10_isBelow (Pro [.int p1, .int p2] D cI cB cT wd_E) (Qr (some (.int z))) 0 0 (fun _ => False) := by
  refine ro_intro RX10 (by decide +kernel) rfl (Nat.le_of_ble_eq_true rfl) ?_
  intro p e s m below meth c ls CF hr hlk hG hP hl
  have hl : lv_has ls 2 [(0, .int p1), (1, .int p2)] := hl
  obtain ⟨hx, hb, hml, hown, hts⟩ := id CF
  unfold f_X10_isBelow at hf
  refine lv_iload_n hx hb dX10_isBelow_0 rfl (lv_at hl 0 rfl) ?_
  refine lv_if_lt (tgt := 13) hx hb dX10_isBelow_1 (by decide) (fun c1 => ?_) (fun c1 => ?_)
  · have hf := tk c1 hf
    refine lv_iconst (v := (0 : Int32)) hx hb dX10_isBelow_13 (by decide) ?_
    obtain rfl := Option.some.inj hf
    exact ro_zret CF hr hlk (Or.inl rfl) dX10_isBelow_14
  · have hf := fk c1 hf
    refine lv_iload_n hx hb dX10_isBelow_4 rfl (lv_at hl 0 rfl) ?_
    refine lv_iload_n hx hb dX10_isBelow_5 rfl (lv_at hl 1 rfl) ?_
    refine lv_icmp_ge (tgt := 13) hx hb dX10_isBelow_6 (by decide) (fun c2 => ?_) (fun c2 => ?_)
    · have hf := tk c2 hf
      refine lv_iconst (v := (0 : Int32)) hx hb dX10_isBelow_13 (by decide) ?_
      obtain rfl := Option.some.inj hf
      exact ro_zret CF hr hlk (Or.inl rfl) dX10_isBelow_14
    · have hf := fk c2 hf
      refine lv_iconst (v := (1 : Int32)) hx hb dX10_isBelow_9 (by decide) ?_
      refine lv_goto (tgt := 14) hx hb dX10_isBelow_10 (by decide) ?_
      obtain rfl := Option.some.inj hf
      exact ro_zret CF hr hlk (Or.inr rfl) dX10_isBelow_14
end M_X10_isBelow
section M_X5_cell
variable {p : Program} {l : Launch} {e : Env} {s : State} {m : MethodId} {args : Array Value} {below : List Frame} {meth : Method} {c : Code} {Q : State → Prop} {A : Nat → Prop} {D : va_G} {cI cB cT : ClassId}
variable {a_q a_q_cells : Nat}
def rm_X5_cell : Room := { frames := 1, cells := 0, slots := 0, locals := 21 }
def f_X5_cell (q_len : Nat) (q_cells : (Nat → Int32)) (p1 : Int32) (p2 : Int32) : Option (Int32) := ((f_X10_isBelow ((p1 * (4 : Int32)) + p2) (Int32.ofNat q_len)).bind fun o1 => (if o1 = 0 then some (0 : Int32) else (if oob ((p1 * (4 : Int32)) + p2) q_len then none else some (q_cells (((p1 * (4 : Int32)) + p2)).toNatClampNeg))))
set_option maxHeartbeats 4000000 in
set_option maxRecDepth 100000 in
theorem c_X5_cell (l : Launch) (D : va_G) (cI cB cT : ClassId) (a_q a_q_cells q_len : Nat) (q_size : Int32) (q_cells : (Nat → Int32)) (p1 : Int32) (p2 : Int32) {z : Int32} (hf : f_X5_cell q_len q_cells p1 p2 = some z) :
    Met l yX5_cell (Cond.code yX5_cell cX5_cell 4 (some .int) :: wsAll) rm_X5_cell (Pro [.ref a_q, .int p1, .int p2] D cI cB cT (wd_q a_q a_q_cells cI cB cT q_len q_size q_cells)) (Qr (some (.int z))) 0 0 (fun _ => False) := by
  refine ro_intro RX5 (by decide +kernel) rfl (Nat.le_of_ble_eq_true rfl) ?_
  intro p e s m below meth c ls CF hr hlk hG hP hl
  have hl : lv_has ls 4 [(0, .ref a_q), (1, .int p1), (2, .int p2)] := hl
  obtain ⟨hx, hb, hml, hown, hts⟩ := id CF
  unfold f_X5_cell at hf
  refine lv_iload_n hx hb dX5_cell_0 rfl (lv_at hl 1 rfl) ?_
  refine lv_iconst (v := (4 : Int32)) hx hb dX5_cell_1 (by decide) ?_
  refine lv_imul hx hb dX5_cell_2 ?_
  refine lv_iload_n hx hb dX5_cell_3 rfl (lv_at hl 2 rfl) ?_
  refine lv_iadd hx hb dX5_cell_4 ?_
  refine lv_istore_n (lv' := [(3, .int ((p1 * (4 : Int32)) + p2)), (0, .ref a_q), (1, .int p1), (2, .int p2)]) hx hb dX5_cell_5 rfl hl (by decide) rfl (fun ls hl => ?_)
  refine lv_iload_n hx hb dX5_cell_6 rfl (lv_at hl 0 rfl) ?_
  refine lv_aload_n hx hb dX5_cell_7 rfl (lv_at hl 1 rfl) ?_
  refine va_get (D := D) (ci := 3) (v := .ref a_q_cells) (C := RX5) (T := TX5) (N := 2) hx hb hts fin_X5 hown hG.1 hP 0 ce_q_0 vq_3 1 (by decide) (hts _ wm_178) (fun _ h9 => h9) rfl dX5_cell_8 ?_
  refine va_alen (v := (Int32.ofNat q_len)) hx hb hG.1 hP 1 0 ce_q_1 rfl rfl dX5_cell_11 ?_
  obtain ⟨o1, e2, hf⟩ := lp_bind hf
  refine ro_SNi (x := o1) (As := [.int ((p1 * (4 : Int32)) + p2), .int (Int32.ofNat q_len)]) (rest := []) CF (c_X10_isBelow l D cI cB cT ((p1 * (4 : Int32)) + p2) (Int32.ofNat q_len) e2) ok_X10_isBelow nm_10 ⟨rfl, rfl, Nat.le_of_ble_eq_true rfl, Nat.le_of_ble_eq_true rfl⟩ hG wd_E_P rfl hl.1 rfl (Nat.le_of_ble_eq_true rfl) ⟨Nat.zero_le _, Nat.zero_le _⟩ dX5_cell_12 ?_
  refine lv_if_eq (tgt := 27) hx hb dX5_cell_15 (by decide) (fun c3 => ?_) (fun c3 => ?_)
  · have hf := tk c3 hf
    refine lv_iconst (v := (0 : Int32)) hx hb dX5_cell_27 (by decide) ?_
    obtain rfl := Option.some.inj hf
    exact ro_iret CF hr hlk dX5_cell_28
  · have hf := fk c3 hf
    refine lv_aload_n hx hb dX5_cell_18 rfl (lv_at hl 1 rfl) ?_
    refine va_get (D := D) (ci := 3) (v := .ref a_q_cells) (C := RX5) (T := TX5) (N := 2) hx hb hts fin_X5 hown hG.1 hP 0 ce_q_0 vq_3 1 (by decide) (hts _ wm_178) (fun _ h9 => h9) rfl dX5_cell_19 ?_
    refine lv_iload_n hx hb dX5_cell_22 rfl (lv_at hl 0 rfl) ?_
    obtain ⟨n4, hf⟩ := nk hf
    refine va_iald (f := q_cells) hx hb hG.1 hP 1 0 ce_q_1 rfl n4 dX5_cell_23 ?_
    refine lv_goto (tgt := 28) hx hb dX5_cell_24 (by decide) ?_
    obtain rfl := Option.some.inj hf
    exact ro_iret CF hr hlk dX5_cell_28
end M_X5_cell
section M_X5_digestOn
variable {p : Program} {l : Launch} {e : Env} {s : State} {m : MethodId} {args : Array Value} {below : List Frame} {meth : Method} {c : Code} {Q : State → Prop} {A : Nat → Prop} {D : va_G} {cI cB cT : ClassId}
variable {a_q a_q_cells : Nat}
def rm_X5_digestOn : Room := { frames := 2, cells := 0, slots := 0, locals := 44 }
def B_X5_digestOn_18 (q_len : Nat) (q_cells : (Nat → Int32)) (x3 : Int32) (x6 : Int32) (x4 : Int64) (x7 : Int32) : Option ((Int64 × Int32) ⊕ (Int64)) := (if x3 ≤ x7 then some (Sum.inr x4) else ((f_X5_cell q_len q_cells x6 x7).bind fun o3 => some (Sum.inl ((((31 : Int64) * x4) + (o3).toInt64), (x7 + (1 : Int32))))))
def B_X5_digestOn_6 (q_len : Nat) (q_size : Int32) (q_cells : (Nat → Int32)) (x3 : Int32) (x4 : Int64) (x6 : Int32) : Option ((Int64 × Int32) ⊕ (Int64)) := (if q_size ≤ x6 then some (Sum.inr x4) else ((lp (fun v => B_X5_digestOn_18 q_len q_cells x3 x6 v.1 v.2) KN (x4, (0 : Int32))).bind fun o5 => some (Sum.inl (o5, (x6 + (1 : Int32))))))
def f_X5_digestOn (q_len : Nat) (q_size : Int32) (q_cells : (Nat → Int32)) (p1 : Int64) (p2 : Int32) : Option (Int64) := ((lp (fun v => B_X5_digestOn_6 q_len q_size q_cells p2 v.1 v.2) KN (p1, (0 : Int32))).bind fun o7 => some o7)
set_option maxHeartbeats 4000000 in
set_option maxRecDepth 100000 in
theorem B_X5_digestOn_18_W {q_len : Nat} {q_size : Int32} {q_cells : (Nat → Int32)} {x3 : Int32} {x4 : Int64} {x6 : Int32} {x7 : Int32} (CF : CallFix p m c cX5_digestOn 8 s args wsAll RX5) (hG : Gd D cI cB cT s) {z : (Int64 × Int32) ⊕ (Int64)} (hk : ∀ (v' : Int64 × Int32) (ls : Array Slot), z = Sum.inl v' → lv_has ls 8 [(0, .ref a_q), (3, .int x3), (4, .long (v'.1)), (6, .int x6), (7, .int (v'.2))] → W p l e rm_X5_digestOn s m args below meth c s.heap [] 0 0 Q (F0 m 18 ls [])) (hx0 : ∀ (o' : Int64) (ls : Array Slot), z = Sum.inr o' → lv_has ls 8 [(0, .ref a_q), (3, .int x3), (4, .long (o')), (6, .int x6)] → W p l e rm_X5_digestOn s m args below meth c s.heap [] 0 0 Q (F0 m 48 ls [])) {ls : Array Slot} (hP : va_P D vwCl (wd_q a_q a_q_cells cI cB cT q_len q_size q_cells) s.heap) (hl : lv_has ls 8 [(0, .ref a_q), (3, .int x3), (4, .long x4), (6, .int x6), (7, .int x7)]) (hf : B_X5_digestOn_18 q_len q_cells x3 x6 x4 x7 = some z) : W p l e rm_X5_digestOn s m args below meth c s.heap [] 0 0 Q (F0 m 18 ls []) := by
  obtain ⟨hx, hb, hml, hown, hts⟩ := id CF
  unfold B_X5_digestOn_18 at hf
  refine lv_iload hx hb dX5_digestOn_18 (lv_at hl 4 rfl) ?_
  refine lv_iload_n hx hb dX5_digestOn_20 rfl (lv_at hl 1 rfl) ?_
  refine lv_icmp_ge (tgt := 48) hx hb dX5_digestOn_21 (by decide) (fun c2 => ?_) (fun c2 => ?_)
  · have hf := tk c2 hf
    exact hx0 _ _ (Option.some.inj hf).symm (lv_sub hl [0, 1, 2, 3] rfl)
  · have hf := fk c2 hf
    refine lv_ldc2 (v := (31 : Int64)) hx hb hown (hts _ wm_906) dX5_digestOn_24 ?_
    refine lv_lload hx hb dX5_digestOn_27 (lv_at hl 2 rfl) ?_
    refine lv_lmul hx hb dX5_digestOn_29 ?_
    refine lv_aload_n hx hb dX5_digestOn_30 rfl (lv_at hl 0 rfl) ?_
    refine lv_iload hx hb dX5_digestOn_31 (lv_at hl 3 rfl) ?_
    refine lv_iload hx hb dX5_digestOn_33 (lv_at hl 4 rfl) ?_
    obtain ⟨o3, e4, hf⟩ := lp_bind hf
    refine ro_Vi (x := o3) (As := [.int x6, .int x7]) (rest := [.long ((31 : Int64) * x4)]) CF (c_X5_cell l D cI cB cT a_q a_q_cells q_len q_size q_cells x6 x7 e4) ok_X5_cell wm_907 ⟨rfl, rfl, Nat.le_of_ble_eq_true rfl, Nat.le_of_ble_eq_true rfl⟩ hG hP 0 3 vq_3 rfl ce_q_0 rfl hl.1 rfl (Nat.le_of_ble_eq_true rfl) ⟨Nat.zero_le _, Nat.zero_le _⟩ dX5_digestOn_35 ?_
    refine lv_i2l hx hb dX5_digestOn_38 rfl ?_
    refine lv_ladd hx hb dX5_digestOn_39 ?_
    refine lv_lstore (lv' := [(4, .long (((31 : Int64) * x4) + (o3).toInt64)), (0, .ref a_q), (3, .int x3), (6, .int x6), (7, .int x7)]) hx hb dX5_digestOn_40 hl (by decide) rfl (fun ls hl => ?_)
    refine lv_iinc (v := (x7 + (1 : Int32))) (lv' := [(7, .int (x7 + (1 : Int32))), (4, .long (((31 : Int64) * x4) + (o3).toInt64)), (0, .ref a_q), (3, .int x3), (6, .int x6)]) hx hb dX5_digestOn_42 hl (k := 4) rfl (iinc_eq (by decide)) (by decide) rfl (fun ls hl => ?_)
    refine lv_goto (tgt := 18) hx hb dX5_digestOn_45 (by decide) ?_
    exact hk _ _ (Option.some.inj hf).symm (lv_sub hl [2, 3, 1, 4, 0] rfl)
set_option maxHeartbeats 4000000 in
set_option maxRecDepth 100000 in
theorem L_X5_digestOn_18_W {q_len : Nat} {q_size : Int32} {q_cells : (Nat → Int32)} {x3 : Int32} {x6 : Int32} (CF : CallFix p m c cX5_digestOn 8 s args wsAll RX5) (hG : Gd D cI cB cT s) {o : Int64} (hx0 : ∀ (ls : Array Slot), lv_has ls 8 [(0, .ref a_q), (3, .int x3), (4, .long o), (6, .int x6)] → W p l e rm_X5_digestOn s m args below meth c s.heap [] 0 0 Q (F0 m 48 ls [])) : ∀ (n : Nat) (x4 : Int64) (x7 : Int32) (ls : Array Slot), va_P D vwCl (wd_q a_q a_q_cells cI cB cT q_len q_size q_cells) s.heap → lv_has ls 8 [(0, .ref a_q), (3, .int x3), (4, .long x4), (6, .int x6), (7, .int x7)] → lp (fun v => B_X5_digestOn_18 q_len q_cells x3 x6 v.1 v.2) n (x4, x7) = some o → W p l e rm_X5_digestOn s m args below meth c s.heap [] 0 0 Q (F0 m 18 ls []) := by
  intro n
  induction n with
  | zero =>
    intro x4 x7 ls hP hl hf
    exact (lp_zero hf).elim
  | succ n ih =>
    intro x4 x7 ls hP hl hf
    obtain ⟨z, hz, hf⟩ := lp_succ hf
    refine B_X5_digestOn_18_W CF hG ?_ ?_ hP hl hz
    · intro v' ls ez hl
      rcases hf with ⟨v2, ev, hf⟩ | ev
      · cases Sum.inl.inj (ez.symm.trans ev)
        exact ih v'.1 v'.2 ls hP hl hf
      · exact (lp_lr (ez.symm.trans ev)).elim
    · intro o' ls ez hl
      rcases hf with ⟨v2, ev, hf⟩ | ev
      · exact (lp_lr (ev.symm.trans ez)).elim
      · cases Sum.inr.inj (ez.symm.trans ev)
        exact hx0 ls  hl
set_option maxHeartbeats 4000000 in
set_option maxRecDepth 100000 in
theorem B_X5_digestOn_6_W {q_len : Nat} {q_size : Int32} {q_cells : (Nat → Int32)} {x3 : Int32} {x4 : Int64} {x6 : Int32} (CF : CallFix p m c cX5_digestOn 8 s args wsAll RX5) (hG : Gd D cI cB cT s) {z : (Int64 × Int32) ⊕ (Int64)} (hk : ∀ (v' : Int64 × Int32) (ls : Array Slot), z = Sum.inl v' → lv_has ls 8 [(0, .ref a_q), (3, .int x3), (4, .long (v'.1)), (6, .int (v'.2))] → W p l e rm_X5_digestOn s m args below meth c s.heap [] 0 0 Q (F0 m 6 ls [])) (hx0 : ∀ (o' : Int64) (ls : Array Slot), z = Sum.inr o' → lv_has ls 8 [(4, .long (o'))] → W p l e rm_X5_digestOn s m args below meth c s.heap [] 0 0 Q (F0 m 54 ls [])) {ls : Array Slot} (hP : va_P D vwCl (wd_q a_q a_q_cells cI cB cT q_len q_size q_cells) s.heap) (hl : lv_has ls 8 [(0, .ref a_q), (3, .int x3), (4, .long x4), (6, .int x6)]) (hf : B_X5_digestOn_6 q_len q_size q_cells x3 x4 x6 = some z) : W p l e rm_X5_digestOn s m args below meth c s.heap [] 0 0 Q (F0 m 6 ls []) := by
  obtain ⟨hx, hb, hml, hown, hts⟩ := id CF
  unfold B_X5_digestOn_6 at hf
  refine lv_iload hx hb dX5_digestOn_6 (lv_at hl 3 rfl) ?_
  refine lv_aload_n hx hb dX5_digestOn_8 rfl (lv_at hl 0 rfl) ?_
  refine va_get (D := D) (ci := 3) (v := .int q_size) (C := RX5) (T := TX5) (N := 2) hx hb hts fin_X5 hown hG.1 hP 0 ce_q_0 vq_3 0 (by decide) (hts _ wm_175) (fun _ h9 => h9) rfl dX5_digestOn_9 ?_
  refine lv_icmp_ge (tgt := 54) hx hb dX5_digestOn_12 (by decide) (fun c1 => ?_) (fun c1 => ?_)
  · have hf := tk c1 hf
    exact hx0 _ _ (Option.some.inj hf).symm (lv_sub hl [2] rfl)
  · have hf := fk c1 hf
    refine lv_iconst (v := (0 : Int32)) hx hb dX5_digestOn_15 (by decide) ?_
    refine lv_istore (lv' := [(7, .int (0 : Int32)), (0, .ref a_q), (3, .int x3), (4, .long x4), (6, .int x6)]) hx hb dX5_digestOn_16 hl (by decide) rfl (fun ls hl => ?_)
    obtain ⟨o5, e6, hf⟩ := lp_bind hf
    refine L_X5_digestOn_18_W CF hG ?_ KN _ _ _ hP (lv_sub hl [1, 2, 3, 4, 0] rfl) e6
    intro ls hl
    refine lv_iinc (v := (x6 + (1 : Int32))) (lv' := [(6, .int (x6 + (1 : Int32))), (0, .ref a_q), (3, .int x3), (4, .long o5)]) hx hb dX5_digestOn_48 hl (k := 3) rfl (iinc_eq (by decide)) (by decide) rfl (fun ls hl => ?_)
    refine lv_goto (tgt := 6) hx hb dX5_digestOn_51 (by decide) ?_
    exact hk _ _ (Option.some.inj hf).symm (lv_sub hl [1, 2, 3, 0] rfl)
set_option maxHeartbeats 4000000 in
set_option maxRecDepth 100000 in
theorem L_X5_digestOn_6_W {q_len : Nat} {q_size : Int32} {q_cells : (Nat → Int32)} {x3 : Int32} (CF : CallFix p m c cX5_digestOn 8 s args wsAll RX5) (hG : Gd D cI cB cT s) {o : Int64} (hx0 : ∀ (ls : Array Slot), lv_has ls 8 [(4, .long o)] → W p l e rm_X5_digestOn s m args below meth c s.heap [] 0 0 Q (F0 m 54 ls [])) : ∀ (n : Nat) (x4 : Int64) (x6 : Int32) (ls : Array Slot), va_P D vwCl (wd_q a_q a_q_cells cI cB cT q_len q_size q_cells) s.heap → lv_has ls 8 [(0, .ref a_q), (3, .int x3), (4, .long x4), (6, .int x6)] → lp (fun v => B_X5_digestOn_6 q_len q_size q_cells x3 v.1 v.2) n (x4, x6) = some o → W p l e rm_X5_digestOn s m args below meth c s.heap [] 0 0 Q (F0 m 6 ls []) := by
  intro n
  induction n with
  | zero =>
    intro x4 x6 ls hP hl hf
    exact (lp_zero hf).elim
  | succ n ih =>
    intro x4 x6 ls hP hl hf
    obtain ⟨z, hz, hf⟩ := lp_succ hf
    refine B_X5_digestOn_6_W CF hG ?_ ?_ hP hl hz
    · intro v' ls ez hl
      rcases hf with ⟨v2, ev, hf⟩ | ev
      · cases Sum.inl.inj (ez.symm.trans ev)
        exact ih v'.1 v'.2 ls hP hl hf
      · exact (lp_lr (ez.symm.trans ev)).elim
    · intro o' ls ez hl
      rcases hf with ⟨v2, ev, hf⟩ | ev
      · exact (lp_lr (ev.symm.trans ez)).elim
      · cases Sum.inr.inj (ez.symm.trans ev)
        exact hx0 ls  hl
set_option maxHeartbeats 4000000 in
set_option maxRecDepth 100000 in
theorem c_X5_digestOn (l : Launch) (D : va_G) (cI cB cT : ClassId) (a_q a_q_cells q_len : Nat) (q_size : Int32) (q_cells : (Nat → Int32)) (p1 : Int64) (p2 : Int32) {z : Int64} (hf : f_X5_digestOn q_len q_size q_cells p1 p2 = some z) :
    Met l yX5_digestOn (Cond.code yX5_digestOn cX5_digestOn 8 (some .long) :: wsAll) rm_X5_digestOn (Pro [.ref a_q, .long p1, .int p2] D cI cB cT (wd_q a_q a_q_cells cI cB cT q_len q_size q_cells)) (Qr (some (.long z))) 0 0 (fun _ => False) := by
  refine ro_intro RX5 (by decide +kernel) rfl (Nat.le_of_ble_eq_true rfl) ?_
  intro p e s m below meth c ls CF hr hlk hG hP hl
  have hl : lv_has ls 8 [(0, .ref a_q), (1, .long p1), (3, .int p2)] := hl
  obtain ⟨hx, hb, hml, hown, hts⟩ := id CF
  unfold f_X5_digestOn at hf
  refine lv_lload_n hx hb dX5_digestOn_0 rfl (lv_at hl 1 rfl) ?_
  refine lv_lstore (lv' := [(4, .long p1), (0, .ref a_q), (1, .long p1), (3, .int p2)]) hx hb dX5_digestOn_1 hl (by decide) rfl (fun ls hl => ?_)
  refine lv_iconst (v := (0 : Int32)) hx hb dX5_digestOn_3 (by decide) ?_
  refine lv_istore (lv' := [(6, .int (0 : Int32)), (4, .long p1), (0, .ref a_q), (1, .long p1), (3, .int p2)]) hx hb dX5_digestOn_4 hl (by decide) rfl (fun ls hl => ?_)
  obtain ⟨o7, e8, hf⟩ := lp_bind hf
  refine L_X5_digestOn_6_W CF hG ?_ KN _ _ _ hP (lv_sub hl [2, 4, 1, 0] rfl) e8
  intro ls hl
  refine lv_lload hx hb dX5_digestOn_54 (lv_at hl 0 rfl) ?_
  obtain rfl := Option.some.inj hf
  exact ro_lret CF hr hlk dX5_digestOn_56
end M_X5_digestOn
section M_X0_commonDivisor
variable {p : Program} {l : Launch} {e : Env} {s : State} {m : MethodId} {args : Array Value} {below : List Frame} {meth : Method} {c : Code} {Q : State → Prop} {A : Nat → Prop} {D : va_G} {cI cB cT : ClassId}
def rm_X0_commonDivisor : Room := { frames := 0, cells := 0, slots := 0, locals := 0 }
def B_X0_commonDivisor_7 (x2 : Int32) (x3 : Int32) (x4 : Int32) : Option ((Int32 × Int32 × Int32) ⊕ (Int32)) := (if (100 : Int32) ≤ x4 then some (Sum.inr x2) else (if x3 = 0 then some (Sum.inr x2) else (if x3 = 0 then none else some (Sum.inl (x3, (x2 - x2 / x3 * x3), (x4 + (1 : Int32)))))))
def f_X0_commonDivisor (p1 : Int32) (p2 : Int32) : Option (Int32) := ((lp (fun v => B_X0_commonDivisor_7 v.1 v.2.1 v.2.2) KN (p1, p2, (0 : Int32))).bind fun o4 => some o4)
set_option maxHeartbeats 4000000 in
set_option maxRecDepth 100000 in
theorem B_X0_commonDivisor_7_W {x2 : Int32} {x3 : Int32} {x4 : Int32} (CF : CallFix p m c cX0_commonDivisor 6 s args wsAll RX0) (hG : Gd D cI cB cT s) {z : (Int32 × Int32 × Int32) ⊕ (Int32)} (hk : ∀ (v' : Int32 × Int32 × Int32) (ls : Array Slot), z = Sum.inl v' → lv_has ls 6 [(2, .int (v'.1)), (3, .int (v'.2.1)), (4, .int (v'.2.2))] → W p l e rm_X0_commonDivisor s m args below meth c s.heap [] 0 0 Q (F0 m 7 ls [])) (hx0 : ∀ (o' : Int32) (ls : Array Slot), z = Sum.inr o' → lv_has ls 6 [(2, .int (o'))] → W p l e rm_X0_commonDivisor s m args below meth c s.heap [] 0 0 Q (F0 m 34 ls [])) {ls : Array Slot} (hP : va_P D vwCl wd_E s.heap) (hl : lv_has ls 6 [(2, .int x2), (3, .int x3), (4, .int x4)]) (hf : B_X0_commonDivisor_7 x2 x3 x4 = some z) : W p l e rm_X0_commonDivisor s m args below meth c s.heap [] 0 0 Q (F0 m 7 ls []) := by
  obtain ⟨hx, hb, hml, hown, hts⟩ := id CF
  unfold B_X0_commonDivisor_7 at hf
  refine lv_iload hx hb dX0_commonDivisor_7 (lv_at hl 2 rfl) ?_
  refine lv_bipush (v := (100 : Int32)) hx hb dX0_commonDivisor_9 (by decide) ?_
  refine lv_icmp_ge (tgt := 34) hx hb dX0_commonDivisor_11 (by decide) (fun c1 => ?_) (fun c1 => ?_)
  · have hf := tk c1 hf
    exact hx0 _ _ (Option.some.inj hf).symm (lv_sub hl [0] rfl)
  · have hf := fk c1 hf
    refine lv_iload_n hx hb dX0_commonDivisor_14 rfl (lv_at hl 1 rfl) ?_
    refine lv_if_eq (tgt := 34) hx hb dX0_commonDivisor_15 (by decide) (fun c2 => ?_) (fun c2 => ?_)
    · have hf := tk c2 hf
      exact hx0 _ _ (Option.some.inj hf).symm (lv_sub hl [0] rfl)
    · have hf := fk c2 hf
      refine lv_iload_n hx hb dX0_commonDivisor_18 rfl (lv_at hl 0 rfl) ?_
      refine lv_iload_n hx hb dX0_commonDivisor_19 rfl (lv_at hl 1 rfl) ?_
      obtain ⟨n3, hf⟩ := nk hf
      refine lv_irem hx hb dX0_commonDivisor_20 n3 ?_
      refine lv_istore (lv' := [(5, .int (x2 - x2 / x3 * x3)), (2, .int x2), (3, .int x3), (4, .int x4)]) hx hb dX0_commonDivisor_21 hl (by decide) rfl (fun ls hl => ?_)
      refine lv_iload_n hx hb dX0_commonDivisor_23 rfl (lv_at hl 2 rfl) ?_
      refine lv_istore_n (lv' := [(2, .int x3), (5, .int (x2 - x2 / x3 * x3)), (3, .int x3), (4, .int x4)]) hx hb dX0_commonDivisor_24 rfl hl (by decide) rfl (fun ls hl => ?_)
      refine lv_iload hx hb dX0_commonDivisor_25 (lv_at hl 1 rfl) ?_
      refine lv_istore_n (lv' := [(3, .int (x2 - x2 / x3 * x3)), (2, .int x3), (5, .int (x2 - x2 / x3 * x3)), (4, .int x4)]) hx hb dX0_commonDivisor_27 rfl hl (by decide) rfl (fun ls hl => ?_)
      refine lv_iinc (v := (x4 + (1 : Int32))) (lv' := [(4, .int (x4 + (1 : Int32))), (3, .int (x2 - x2 / x3 * x3)), (2, .int x3), (5, .int (x2 - x2 / x3 * x3))]) hx hb dX0_commonDivisor_28 hl (k := 3) rfl (iinc_eq (by decide)) (by decide) rfl (fun ls hl => ?_)
      refine lv_goto (tgt := 7) hx hb dX0_commonDivisor_31 (by decide) ?_
      exact hk _ _ (Option.some.inj hf).symm (lv_sub hl [2, 1, 0] rfl)
set_option maxHeartbeats 4000000 in
set_option maxRecDepth 100000 in
theorem L_X0_commonDivisor_7_W  (CF : CallFix p m c cX0_commonDivisor 6 s args wsAll RX0) (hG : Gd D cI cB cT s) {o : Int32} (hx0 : ∀ (ls : Array Slot), lv_has ls 6 [(2, .int o)] → W p l e rm_X0_commonDivisor s m args below meth c s.heap [] 0 0 Q (F0 m 34 ls [])) : ∀ (n : Nat) (x2 : Int32) (x3 : Int32) (x4 : Int32) (ls : Array Slot), va_P D vwCl wd_E s.heap → lv_has ls 6 [(2, .int x2), (3, .int x3), (4, .int x4)] → lp (fun v => B_X0_commonDivisor_7 v.1 v.2.1 v.2.2) n (x2, x3, x4) = some o → W p l e rm_X0_commonDivisor s m args below meth c s.heap [] 0 0 Q (F0 m 7 ls []) := by
  intro n
  induction n with
  | zero =>
    intro x2 x3 x4 ls hP hl hf
    exact (lp_zero hf).elim
  | succ n ih =>
    intro x2 x3 x4 ls hP hl hf
    obtain ⟨z, hz, hf⟩ := lp_succ hf
    refine B_X0_commonDivisor_7_W CF hG ?_ ?_ hP hl hz
    · intro v' ls ez hl
      rcases hf with ⟨v2, ev, hf⟩ | ev
      · cases Sum.inl.inj (ez.symm.trans ev)
        exact ih v'.1 v'.2.1 v'.2.2 ls hP hl hf
      · exact (lp_lr (ez.symm.trans ev)).elim
    · intro o' ls ez hl
      rcases hf with ⟨v2, ev, hf⟩ | ev
      · exact (lp_lr (ev.symm.trans ez)).elim
      · cases Sum.inr.inj (ez.symm.trans ev)
        exact hx0 ls  hl
set_option maxHeartbeats 4000000 in
set_option maxRecDepth 100000 in
theorem c_X0_commonDivisor (l : Launch) (D : va_G) (cI cB cT : ClassId) (p1 : Int32) (p2 : Int32) {z : Int32} (hf : f_X0_commonDivisor p1 p2 = some z) :
    Met l yX0_commonDivisor (Cond.code yX0_commonDivisor cX0_commonDivisor 6 (some .int) :: wsAll) rm_X0_commonDivisor (Pro [.int p1, .int p2] D cI cB cT wd_E) (Qr (some (.int z))) 0 0 (fun _ => False) := by
  refine ro_intro RX0 (by decide +kernel) rfl (Nat.le_of_ble_eq_true rfl) ?_
  intro p e s m below meth c ls CF hr hlk hG hP hl
  have hl : lv_has ls 6 [(0, .int p1), (1, .int p2)] := hl
  obtain ⟨hx, hb, hml, hown, hts⟩ := id CF
  unfold f_X0_commonDivisor at hf
  refine lv_iload_n hx hb dX0_commonDivisor_0 rfl (lv_at hl 0 rfl) ?_
  refine lv_istore_n (lv' := [(2, .int p1), (0, .int p1), (1, .int p2)]) hx hb dX0_commonDivisor_1 rfl hl (by decide) rfl (fun ls hl => ?_)
  refine lv_iload_n hx hb dX0_commonDivisor_2 rfl (lv_at hl 2 rfl) ?_
  refine lv_istore_n (lv' := [(3, .int p2), (2, .int p1), (0, .int p1), (1, .int p2)]) hx hb dX0_commonDivisor_3 rfl hl (by decide) rfl (fun ls hl => ?_)
  refine lv_iconst (v := (0 : Int32)) hx hb dX0_commonDivisor_4 (by decide) ?_
  refine lv_istore (lv' := [(4, .int (0 : Int32)), (3, .int p2), (2, .int p1), (0, .int p1), (1, .int p2)]) hx hb dX0_commonDivisor_5 hl (by decide) rfl (fun ls hl => ?_)
  obtain ⟨o4, e5, hf⟩ := lp_bind hf
  refine L_X0_commonDivisor_7_W CF hG ?_ KN _ _ _ _ hP (lv_sub hl [2, 1, 0] rfl) e5
  intro ls hl
  refine lv_iload_n hx hb dX0_commonDivisor_34 rfl (lv_at hl 0 rfl) ?_
  obtain rfl := Option.some.inj hf
  exact ro_iret CF hr hlk dX0_commonDivisor_35
end M_X0_commonDivisor
section M_X0_put
variable {p : Program} {l : Launch} {e : Env} {s : State} {m : MethodId} {args : Array Value} {below : List Frame} {meth : Method} {c : Code} {Q : State → Prop} {A : Nat → Prop} {D : va_G} {cI cB cT : ClassId}
variable {a_fr : Nat}
def rm_X0_put : Room := { frames := 1, cells := 0, slots := 0, locals := 25 }
def J_X0_put_13 (x1 : Int32) (x2 : Int32) (y0 : Int32) : Option (Int64 × Int64) := (if y0 = 0 then (if y0 = 0 then some ((0 : Int64), (1 : Int64)) else (if y0 = 0 then none else some ((0 : Int64), ((x2 / y0)).toInt64))) else (if y0 = 0 then none else (if y0 = 0 then some (((x1 / y0)).toInt64, (1 : Int64)) else (if y0 = 0 then none else some (((x1 / y0)).toInt64, ((x2 / y0)).toInt64)))))
def f_X0_put (p1 : Int32) (p2 : Int32) : Option (Int64 × Int64) := (if 0 < p2 then ((f_X0_commonDivisor p1 p2).bind fun o2 => J_X0_put_13 p1 p2 o2) else J_X0_put_13 p1 p2 (0 : Int32))
set_option maxHeartbeats 4000000 in
set_option maxRecDepth 100000 in
theorem J_X0_put_13_W {fr_above : Int64} {fr_below : Int64} {x1 : Int32} {x2 : Int32} {y0 : Int32} (CF : CallFix p m c cX0_put 4 s args wsAll RX0) (hG : Gd D cI cB cT s) (hA : ∀ q : Nat, s.heap.size ≤ q → A q) {z : Int64 × Int64} {H : Heap} {locs : List Loc} (hr : meth.sig.returnType = none) (hlk : meth.locks = false) {ls : Array Slot} (hP : va_P D vwCl (wd_fr a_fr cI cB cT fr_above fr_below) H) (hD : va_D A (wd_fr a_fr cI cB cT fr_above fr_below)) (hS : va_S A s.heap H locs) (hl : lv_has ls 4 [(0, .ref a_fr), (1, .int x1), (2, .int x2)]) (hf : J_X0_put_13 x1 x2 y0 = some z) : W p l e rm_X0_put s m args below meth c H locs 0 0 (MQ below (Qw none D (wd_fr a_fr cI cB cT z.1 z.2) A) args s 0 0 A) (F0 m 13 ls [.int y0]) := by
  obtain ⟨hx, hb, hml, hown, hts⟩ := id CF
  unfold J_X0_put_13 at hf
  refine lv_istore_n (lv' := [(3, .int y0), (0, .ref a_fr), (1, .int x1), (2, .int x2)]) hx hb dX0_put_13 rfl hl (by decide) rfl (fun ls hl => ?_)
  refine lv_aload_n hx hb dX0_put_14 rfl (lv_at hl 1 rfl) ?_
  refine lv_iload_n hx hb dX0_put_15 rfl (lv_at hl 0 rfl) ?_
  refine lv_if_ne (tgt := 23) hx hb dX0_put_16 (by decide) (fun c4 => ?_) (fun c4 => ?_)
  · have hf := fk c4 hf
    refine lv_iload_n hx hb dX0_put_23 rfl (lv_at hl 2 rfl) ?_
    refine lv_iload_n hx hb dX0_put_24 rfl (lv_at hl 0 rfl) ?_
    obtain ⟨n5, hf⟩ := nk hf
    refine lv_idiv hx hb dX0_put_25 n5 ?_
    refine lv_i2l hx hb dX0_put_26 rfl ?_
    refine va_put (D := D) (ci := 0) (v := .long (((x1 / y0)).toInt64)) (ty := .long) (C := RX0) (T := TX0) (N := 2) hx hb hts fin_X0 tyX0 tyX0_ok nmX0 hown hG.1 hP hD hS 0 ce_fr_0 vq_0 0 (by decide) (hts _ wm_271) (fun _ h9 => h9) rfl (tyX0_ok 0 (by decide)) rfl rfl (Nat.le_of_ble_eq_true rfl) dX0_put_27 (fun H locs hP _ hS => ?_)
    have hP : va_P D vwCl (wd_fr a_fr cI cB cT (((x1 / y0)).toInt64) fr_below) H := va_P_eq se_fr_fr_above hP
    have hD : va_D A (wd_fr a_fr cI cB cT (((x1 / y0)).toInt64) fr_below) := va_D_fst fs_fr hD
    refine lv_aload_n hx hb dX0_put_30 rfl (lv_at hl 1 rfl) ?_
    refine lv_iload_n hx hb dX0_put_31 rfl (lv_at hl 0 rfl) ?_
    refine lv_if_ne (tgt := 39) hx hb dX0_put_32 (by decide) (fun c6 => ?_) (fun c6 => ?_)
    · have hf := fk c6 hf
      refine lv_iload_n hx hb dX0_put_39 rfl (lv_at hl 3 rfl) ?_
      refine lv_iload_n hx hb dX0_put_40 rfl (lv_at hl 0 rfl) ?_
      obtain ⟨n7, hf⟩ := nk hf
      refine lv_idiv hx hb dX0_put_41 n7 ?_
      refine lv_i2l hx hb dX0_put_42 rfl ?_
      refine va_put (D := D) (ci := 0) (v := .long (((x2 / y0)).toInt64)) (ty := .long) (C := RX0) (T := TX0) (N := 2) hx hb hts fin_X0 tyX0 tyX0_ok nmX0 hown hG.1 hP hD hS 0 ce_fr_0 vq_0 1 (by decide) (hts _ wm_273) (fun _ h9 => h9) rfl (tyX0_ok 1 (by decide)) rfl rfl (Nat.le_of_ble_eq_true rfl) dX0_put_43 (fun H locs hP _ hS => ?_)
      have hP : va_P D vwCl (wd_fr a_fr cI cB cT (((x1 / y0)).toInt64) (((x2 / y0)).toInt64)) H := va_P_eq se_fr_fr_below hP
      have hD : va_D A (wd_fr a_fr cI cB cT (((x1 / y0)).toInt64) (((x2 / y0)).toInt64)) := va_D_fst fs_fr hD
      obtain rfl := Option.some.inj hf
      exact wr_vret CF hr hlk hP hS dX0_put_46
    · have hf := tk c6 hf
      refine lv_lconst (v := (1 : Int64)) hx hb dX0_put_35 (by decide) ?_
      refine lv_goto (tgt := 43) hx hb dX0_put_36 (by decide) ?_
      refine va_put (D := D) (ci := 0) (v := .long (1 : Int64)) (ty := .long) (C := RX0) (T := TX0) (N := 2) hx hb hts fin_X0 tyX0 tyX0_ok nmX0 hown hG.1 hP hD hS 0 ce_fr_0 vq_0 1 (by decide) (hts _ wm_273) (fun _ h9 => h9) rfl (tyX0_ok 1 (by decide)) rfl rfl (Nat.le_of_ble_eq_true rfl) dX0_put_43 (fun H locs hP _ hS => ?_)
      have hP : va_P D vwCl (wd_fr a_fr cI cB cT (((x1 / y0)).toInt64) (1 : Int64)) H := va_P_eq se_fr_fr_below hP
      have hD : va_D A (wd_fr a_fr cI cB cT (((x1 / y0)).toInt64) (1 : Int64)) := va_D_fst fs_fr hD
      obtain rfl := Option.some.inj hf
      exact wr_vret CF hr hlk hP hS dX0_put_46
  · have hf := tk c4 hf
    refine lv_lconst (v := (0 : Int64)) hx hb dX0_put_19 (by decide) ?_
    refine lv_goto (tgt := 27) hx hb dX0_put_20 (by decide) ?_
    refine va_put (D := D) (ci := 0) (v := .long (0 : Int64)) (ty := .long) (C := RX0) (T := TX0) (N := 2) hx hb hts fin_X0 tyX0 tyX0_ok nmX0 hown hG.1 hP hD hS 0 ce_fr_0 vq_0 0 (by decide) (hts _ wm_271) (fun _ h9 => h9) rfl (tyX0_ok 0 (by decide)) rfl rfl (Nat.le_of_ble_eq_true rfl) dX0_put_27 (fun H locs hP _ hS => ?_)
    have hP : va_P D vwCl (wd_fr a_fr cI cB cT (0 : Int64) fr_below) H := va_P_eq se_fr_fr_above hP
    have hD : va_D A (wd_fr a_fr cI cB cT (0 : Int64) fr_below) := va_D_fst fs_fr hD
    refine lv_aload_n hx hb dX0_put_30 rfl (lv_at hl 1 rfl) ?_
    refine lv_iload_n hx hb dX0_put_31 rfl (lv_at hl 0 rfl) ?_
    refine lv_if_ne (tgt := 39) hx hb dX0_put_32 (by decide) (fun c8 => ?_) (fun c8 => ?_)
    · have hf := fk c8 hf
      refine lv_iload_n hx hb dX0_put_39 rfl (lv_at hl 3 rfl) ?_
      refine lv_iload_n hx hb dX0_put_40 rfl (lv_at hl 0 rfl) ?_
      obtain ⟨n9, hf⟩ := nk hf
      refine lv_idiv hx hb dX0_put_41 n9 ?_
      refine lv_i2l hx hb dX0_put_42 rfl ?_
      refine va_put (D := D) (ci := 0) (v := .long (((x2 / y0)).toInt64)) (ty := .long) (C := RX0) (T := TX0) (N := 2) hx hb hts fin_X0 tyX0 tyX0_ok nmX0 hown hG.1 hP hD hS 0 ce_fr_0 vq_0 1 (by decide) (hts _ wm_273) (fun _ h9 => h9) rfl (tyX0_ok 1 (by decide)) rfl rfl (Nat.le_of_ble_eq_true rfl) dX0_put_43 (fun H locs hP _ hS => ?_)
      have hP : va_P D vwCl (wd_fr a_fr cI cB cT (0 : Int64) (((x2 / y0)).toInt64)) H := va_P_eq se_fr_fr_below hP
      have hD : va_D A (wd_fr a_fr cI cB cT (0 : Int64) (((x2 / y0)).toInt64)) := va_D_fst fs_fr hD
      obtain rfl := Option.some.inj hf
      exact wr_vret CF hr hlk hP hS dX0_put_46
    · have hf := tk c8 hf
      refine lv_lconst (v := (1 : Int64)) hx hb dX0_put_35 (by decide) ?_
      refine lv_goto (tgt := 43) hx hb dX0_put_36 (by decide) ?_
      refine va_put (D := D) (ci := 0) (v := .long (1 : Int64)) (ty := .long) (C := RX0) (T := TX0) (N := 2) hx hb hts fin_X0 tyX0 tyX0_ok nmX0 hown hG.1 hP hD hS 0 ce_fr_0 vq_0 1 (by decide) (hts _ wm_273) (fun _ h9 => h9) rfl (tyX0_ok 1 (by decide)) rfl rfl (Nat.le_of_ble_eq_true rfl) dX0_put_43 (fun H locs hP _ hS => ?_)
      have hP : va_P D vwCl (wd_fr a_fr cI cB cT (0 : Int64) (1 : Int64)) H := va_P_eq se_fr_fr_below hP
      have hD : va_D A (wd_fr a_fr cI cB cT (0 : Int64) (1 : Int64)) := va_D_fst fs_fr hD
      obtain rfl := Option.some.inj hf
      exact wr_vret CF hr hlk hP hS dX0_put_46
set_option maxHeartbeats 4000000 in
set_option maxRecDepth 100000 in
theorem c_X0_put (l : Launch) (D : va_G) (cI cB cT : ClassId) (sz : Nat) (a_fr : Nat) (fr_above : Int64) (fr_below : Int64) (p1 : Int32) (p2 : Int32) {z : Int64 × Int64} (hf : f_X0_put p1 p2 = some z) :
    Met l yX0_put (Cond.code yX0_put cX0_put 4 none :: wsAll) rm_X0_put (Pwr [.ref a_fr, .int p1, .int p2] D cI cB cT (wd_fr a_fr cI cB cT fr_above fr_below) sz) (Qw none D (wd_fr a_fr cI cB cT z.1 z.2) (va_A (wd_fr a_fr cI cB cT fr_above fr_below) sz)) 0 0 (va_A (wd_fr a_fr cI cB cT fr_above fr_below) sz) := by
  refine wr_intro RX0 (by decide +kernel) rfl (Nat.le_of_ble_eq_true rfl) ?_
  intro p e s m below meth c ls A H locs CF hr hlk hG hP hD hS hA hl
  have hl : lv_has ls 4 [(0, .ref a_fr), (1, .int p1), (2, .int p2)] := hl
  obtain ⟨hx, hb, hml, hown, hts⟩ := id CF
  unfold f_X0_put at hf
  refine lv_iload_n hx hb dX0_put_0 rfl (lv_at hl 2 rfl) ?_
  refine lv_if_gt (tgt := 8) hx hb dX0_put_1 (by decide) (fun c1 => ?_) (fun c1 => ?_)
  · have hf := tk c1 hf
    refine lv_iload_n hx hb dX0_put_8 rfl (lv_at hl 1 rfl) ?_
    refine lv_iload_n hx hb dX0_put_9 rfl (lv_at hl 2 rfl) ?_
    obtain ⟨o2, e3, hf⟩ := lp_bind hf
    refine ro_Si (x := o2) (As := [.int p1, .int p2]) (rest := []) CF (c_X0_commonDivisor l D cI cB cT p1 p2 e3) ok_X0_commonDivisor wm_779 ⟨rfl, rfl, Nat.le_of_ble_eq_true rfl, Nat.le_of_ble_eq_true rfl⟩ hG wd_E_P rfl hl.1 rfl (Nat.le_of_ble_eq_true rfl) ⟨Nat.zero_le _, Nat.zero_le _⟩ dX0_put_10 ?_
    exact J_X0_put_13_W CF hG hA hr hlk hP hD hS (lv_sub hl [0, 1, 2] rfl) hf
  · have hf := fk c1 hf
    refine lv_iconst (v := (0 : Int32)) hx hb dX0_put_4 (by decide) ?_
    refine lv_goto (tgt := 13) hx hb dX0_put_5 (by decide) ?_
    exact J_X0_put_13_W CF hG hA hr hlk hP hD hS (lv_sub hl [0, 1, 2] rfl) hf
end M_X0_put
