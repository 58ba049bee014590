section M_X8_add
variable {p : Program} {l : Launch} {e : Env} {s : State} {m : MethodId} {args : Array Value} {below : List Frame} {meth : Method} {c : Code} {Q : State → Prop} {A : Nat → Prop} {D : va_G} {cI cB cT : ClassId}
variable {a_k a_k_bytes : Nat}
def rm_X8_add : Room := { frames := 0, cells := 0, slots := 0, locals := 0 }
def f_X8_add (k_size : Int32) (k_bytes : (Nat → Int32)) (p1 : Int32) : Option (Int32 × (Nat → Int32)) := (if (150 : Int32) ≤ k_size then some (k_size, k_bytes) else (if oob k_size 150 then none else some ((k_size + (1 : Int32)), (upd k_bytes (k_size).toNatClampNeg (vp_nar .byte ((p1).toInt8.toInt32))))))
set_option maxHeartbeats 4000000 in
set_option maxRecDepth 100000 in
theorem c_X8_add (l : Launch) (D : va_G) (cI cB cT : ClassId) (sz : Nat) (a_k a_k_bytes : Nat) (k_size : Int32) (k_place : Int32) (k_sort : Int32) (k_number : Int32) (k_behind : Int32) (k_bytes : (Nat → Int32)) (p1 : Int32) {z : Int32 × (Nat → Int32)} (hf : f_X8_add k_size k_bytes p1 = some z) :
    Met l yX8_add (Cond.code yX8_add cX8_add 2 none :: wsAll) rm_X8_add (Pwr [.ref a_k, .int p1] D cI cB cT (wd_k a_k a_k_bytes cI cB cT k_size k_place k_sort k_number k_behind k_bytes) sz) (Qw none D (wd_k a_k a_k_bytes cI cB cT z.1 k_place k_sort k_number k_behind z.2) (va_A (wd_k a_k a_k_bytes cI cB cT k_size k_place k_sort k_number k_behind k_bytes) sz)) 0 0 (va_A (wd_k a_k a_k_bytes cI cB cT k_size k_place k_sort k_number k_behind k_bytes) sz) := by
  refine wr_intro RX8 (by decide +kernel) rfl (Nat.le_of_ble_eq_true rfl) ?_
  intro p e s m below meth c ls A H locs CF hr hlk hG hP hD hS hA hl
  have hl : lv_has ls 2 [(0, .ref a_k), (1, .int p1)] := hl
  obtain ⟨hx, hb, hml, hown, hts⟩ := id CF
  unfold f_X8_add at hf
  refine lv_aload_n hx hb dX8_add_0 rfl (lv_at hl 0 rfl) ?_
  refine va_get (D := D) (ci := 6) (v := .int k_size) (C := RX8) (T := TX8) (N := 6) hx hb hts fin_X8 hown hG.1 hP 0 ce_k_0 vq_6 0 (by decide) (hts _ wm_230) (fun _ h9 => h9) rfl dX8_add_1 ?_
  refine lv_sipush (v := (150 : Int32)) hx hb dX8_add_4 (by decide) ?_
  refine lv_icmp_ge (tgt := 31) hx hb dX8_add_7 (by decide) (fun c1 => ?_) (fun c1 => ?_)
  · have hf := tk c1 hf
    obtain rfl := Option.some.inj hf
    exact wr_vret CF hr hlk hP hS dX8_add_31
  · have hf := fk c1 hf
    refine lv_aload_n hx hb dX8_add_10 rfl (lv_at hl 0 rfl) ?_
    refine va_get (D := D) (ci := 6) (v := .ref a_k_bytes) (C := RX8) (T := TX8) (N := 6) hx hb hts fin_X8 hown hG.1 hP 0 ce_k_0 vq_6 5 (by decide) (hts _ wm_239) (fun _ h9 => h9) rfl dX8_add_11 ?_
    refine lv_aload_n hx hb dX8_add_14 rfl (lv_at hl 0 rfl) ?_
    refine va_get (D := D) (ci := 6) (v := .int k_size) (C := RX8) (T := TX8) (N := 6) hx hb hts fin_X8 hown hG.1 hP 0 ce_k_0 vq_6 0 (by decide) (hts _ wm_230) (fun _ h9 => h9) rfl dX8_add_15 ?_
    refine lv_iload_n hx hb dX8_add_18 rfl (lv_at hl 1 rfl) ?_
    refine lv_i2b hx hb dX8_add_19 rfl ?_
    obtain ⟨n2, hf⟩ := nk hf
    refine va_bast (f := k_bytes) hx hb hG.1 hP hD hS 1 1 ce_k_1 rfl n2 dX8_add_20 (fun H locs hP _ hS => ?_)
    have hP : va_P D vwCl (wd_k a_k a_k_bytes cI cB cT k_size k_place k_sort k_number k_behind (upd k_bytes (k_size).toNatClampNeg (vp_nar .byte ((p1).toInt8.toInt32)))) H := va_P_eq se_k_k_bytes hP
    have hD : va_D A (wd_k a_k a_k_bytes cI cB cT k_size k_place k_sort k_number k_behind (upd k_bytes (k_size).toNatClampNeg (vp_nar .byte ((p1).toInt8.toInt32)))) := va_D_fst fs_k hD
    refine lv_aload_n hx hb dX8_add_21 rfl (lv_at hl 0 rfl) ?_
    refine lv_dup hx hb dX8_add_22 rfl ?_
    refine va_get (D := D) (ci := 6) (v := .int k_size) (C := RX8) (T := TX8) (N := 6) hx hb hts fin_X8 hown hG.1 hP 0 ce_k_0 vq_6 0 (by decide) (hts _ wm_230) (fun _ h9 => h9) rfl dX8_add_23 ?_
    refine lv_iconst (v := (1 : Int32)) hx hb dX8_add_26 (by decide) ?_
    refine lv_iadd hx hb dX8_add_27 ?_
    refine va_put (D := D) (ci := 6) (v := .int (k_size + (1 : Int32))) (ty := .int) (C := RX8) (T := TX8) (N := 6) hx hb hts fin_X8 tyX8 tyX8_ok nmX8 hown hG.1 hP hD hS 0 ce_k_0 vq_6 0 (by decide) (hts _ wm_230) (fun _ h9 => h9) rfl (tyX8_ok 0 (by decide)) rfl rfl (Nat.le_of_ble_eq_true rfl) dX8_add_28 (fun H locs hP _ hS => ?_)
    have hP : va_P D vwCl (wd_k a_k a_k_bytes cI cB cT (k_size + (1 : Int32)) k_place k_sort k_number k_behind (upd k_bytes (k_size).toNatClampNeg (vp_nar .byte ((p1).toInt8.toInt32)))) H := va_P_eq se_k_k_size hP
    have hD : va_D A (wd_k a_k a_k_bytes cI cB cT (k_size + (1 : Int32)) k_place k_sort k_number k_behind (upd k_bytes (k_size).toNatClampNeg (vp_nar .byte ((p1).toInt8.toInt32)))) := va_D_fst fs_k hD
    obtain rfl := Option.some.inj hf
    exact wr_vret CF hr hlk hP hS dX8_add_31
end M_X8_add
section M_X8_rewind
variable {p : Program} {l : Launch} {e : Env} {s : State} {m : MethodId} {args : Array Value} {below : List Frame} {meth : Method} {c : Code} {Q : State → Prop} {A : Nat → Prop} {D : va_G} {cI cB cT : ClassId}
variable {a_k a_k_bytes : Nat}
def rm_X8_rewind : Room := { frames := 0, cells := 0, slots := 0, locals := 0 }
def f_X8_rewind  : Option (Int32) := some (0 : Int32)
set_option maxHeartbeats 4000000 in
set_option maxRecDepth 100000 in
theorem c_X8_rewind (l : Launch) (D : va_G) (cI cB cT : ClassId) (sz : Nat) (a_k a_k_bytes : Nat) (k_size : Int32) (k_place : Int32) (k_sort : Int32) (k_number : Int32) (k_behind : Int32) (k_bytes : (Nat → Int32)) {z : Int32} (hf : f_X8_rewind  = some z) :
    Met l yX8_rewind (Cond.code yX8_rewind cX8_rewind 1 none :: wsAll) rm_X8_rewind (Pwr [.ref a_k] D cI cB cT (wd_k a_k a_k_bytes cI cB cT k_size k_place k_sort k_number k_behind k_bytes) sz) (Qw none D (wd_k a_k a_k_bytes cI cB cT k_size k_place k_sort k_number z k_bytes) (va_A (wd_k a_k a_k_bytes cI cB cT k_size k_place k_sort k_number k_behind k_bytes) sz)) 0 0 (va_A (wd_k a_k a_k_bytes cI cB cT k_size k_place k_sort k_number k_behind k_bytes) sz) := by
  refine wr_intro RX8 (by decide +kernel) rfl (Nat.le_of_ble_eq_true rfl) ?_
  intro p e s m below meth c ls A H locs CF hr hlk hG hP hD hS hA hl
  have hl : lv_has ls 1 [(0, .ref a_k)] := hl
  obtain ⟨hx, hb, hml, hown, hts⟩ := id CF
  unfold f_X8_rewind at hf
  refine lv_aload_n hx hb dX8_rewind_0 rfl (lv_at hl 0 rfl) ?_
  refine lv_iconst (v := (0 : Int32)) hx hb dX8_rewind_1 (by decide) ?_
  refine va_put (D := D) (ci := 6) (v := .int (0 : Int32)) (ty := .int) (C := RX8) (T := TX8) (N := 6) hx hb hts fin_X8 tyX8 tyX8_ok nmX8 hown hG.1 hP hD hS 0 ce_k_0 vq_6 4 (by decide) (hts _ wm_238) (fun _ h9 => h9) rfl (tyX8_ok 4 (by decide)) rfl rfl (Nat.le_of_ble_eq_true rfl) dX8_rewind_2 (fun H locs hP _ hS => ?_)
  have hP : va_P D vwCl (wd_k a_k a_k_bytes cI cB cT k_size k_place k_sort k_number (0 : Int32) k_bytes) H := va_P_eq se_k_k_behind hP
  have hD : va_D A (wd_k a_k a_k_bytes cI cB cT k_size k_place k_sort k_number (0 : Int32) k_bytes) := va_D_fst fs_k hD
  obtain rfl := Option.some.inj hf
  exact wr_vret CF hr hlk hP hS dX8_rewind_5
end M_X8_rewind
section M_X8_endOfRun
variable {p : Program} {l : Launch} {e : Env} {s : State} {m : MethodId} {args : Array Value} {below : List Frame} {meth : Method} {c : Code} {Q : State → Prop} {A : Nat → Prop} {D : va_G} {cI cB cT : ClassId}
variable {a_k a_k_bytes : Nat}
def rm_X8_endOfRun : Room := { frames := 0, cells := 0, slots := 0, locals := 0 }
def B_X8_endOfRun_3 (k_size : Int32) (k_bytes : (Nat → Int32)) (x2 : Int32) (x3 : Int32) (x4 : Int32) : Option ((Int32) ⊕ (Int32)) := (if k_size ≤ x4 then some (Sum.inr x4) else (if (150 : Int32) ≤ x4 then some (Sum.inr x4) else (if oob x4 150 then none else (if (k_bytes (x4).toNatClampNeg) < x2 then some (Sum.inr x4) else (if oob x4 150 then none else (if x3 < (k_bytes (x4).toNatClampNeg) then some (Sum.inr x4) else some (Sum.inl (x4 + (1 : Int32)))))))))
def f_X8_endOfRun (k_size : Int32) (k_bytes : (Nat → Int32)) (p1 : Int32) (p2 : Int32) (p3 : Int32) : Option (Int32) := ((lp (fun v => B_X8_endOfRun_3 k_size k_bytes p2 p3 v) KN p1).bind fun o7 => some o7)
set_option maxHeartbeats 4000000 in
set_option maxRecDepth 100000 in
theorem B_X8_endOfRun_3_W {k_size : Int32} {k_place : Int32} {k_sort : Int32} {k_number : Int32} {k_behind : Int32} {k_bytes : (Nat → Int32)} {x2 : Int32} {x3 : Int32} {x4 : Int32} (CF : CallFix p m c cX8_endOfRun 5 s args wsAll RX8) (hG : Gd D cI cB cT s) {z : (Int32) ⊕ (Int32)} (hk : ∀ (v' : Int32) (ls : Array Slot), z = Sum.inl v' → lv_has ls 5 [(0, .ref a_k), (2, .int x2), (3, .int x3), (4, .int (v'))] → W p l e rm_X8_endOfRun s m args below meth c s.heap [] 0 0 Q (F0 m 3 ls [])) (hx0 : ∀ (o' : Int32) (ls : Array Slot), z = Sum.inr o' → lv_has ls 5 [(4, .int (o'))] → W p l e rm_X8_endOfRun s m args below meth c s.heap [] 0 0 Q (F0 m 48 ls [])) {ls : Array Slot} (hP : va_P D vwCl (wd_k a_k a_k_bytes cI cB cT k_size k_place k_sort k_number k_behind k_bytes) s.heap) (hl : lv_has ls 5 [(0, .ref a_k), (2, .int x2), (3, .int x3), (4, .int x4)]) (hf : B_X8_endOfRun_3 k_size k_bytes x2 x3 x4 = some z) : W p l e rm_X8_endOfRun s m args below meth c s.heap [] 0 0 Q (F0 m 3 ls []) := by
  obtain ⟨hx, hb, hml, hown, hts⟩ := id CF
  unfold B_X8_endOfRun_3 at hf
  refine lv_iload hx hb dX8_endOfRun_3 (lv_at hl 3 rfl) ?_
  refine lv_aload_n hx hb dX8_endOfRun_5 rfl (lv_at hl 0 rfl) ?_
  refine va_get (D := D) (ci := 6) (v := .int k_size) (C := RX8) (T := TX8) (N := 6) hx hb hts fin_X8 hown hG.1 hP 0 ce_k_0 vq_6 0 (by decide) (hts _ wm_230) (fun _ h9 => h9) rfl dX8_endOfRun_6 ?_
  refine lv_icmp_ge (tgt := 48) hx hb dX8_endOfRun_9 (by decide) (fun c1 => ?_) (fun c1 => ?_)
  · have hf := tk c1 hf
    exact hx0 _ _ (Option.some.inj hf).symm (lv_sub hl [3] rfl)
  · have hf := fk c1 hf
    refine lv_iload hx hb dX8_endOfRun_12 (lv_at hl 3 rfl) ?_
    refine lv_sipush (v := (150 : Int32)) hx hb dX8_endOfRun_14 (by decide) ?_
    refine lv_icmp_ge (tgt := 48) hx hb dX8_endOfRun_17 (by decide) (fun c2 => ?_) (fun c2 => ?_)
    · have hf := tk c2 hf
      exact hx0 _ _ (Option.some.inj hf).symm (lv_sub hl [3] rfl)
    · have hf := fk c2 hf
      refine lv_aload_n hx hb dX8_endOfRun_20 rfl (lv_at hl 0 rfl) ?_
      refine va_get (D := D) (ci := 6) (v := .ref a_k_bytes) (C := RX8) (T := TX8) (N := 6) hx hb hts fin_X8 hown hG.1 hP 0 ce_k_0 vq_6 5 (by decide) (hts _ wm_239) (fun _ h9 => h9) rfl dX8_endOfRun_21 ?_
      refine lv_iload hx hb dX8_endOfRun_24 (lv_at hl 3 rfl) ?_
      obtain ⟨n3, hf⟩ := nk hf
      refine va_bald (f := k_bytes) hx hb hG.1 hP 1 1 ce_k_1 rfl n3 dX8_endOfRun_26 ?_
      refine lv_iload_n hx hb dX8_endOfRun_27 rfl (lv_at hl 1 rfl) ?_
      refine lv_icmp_lt (tgt := 48) hx hb dX8_endOfRun_28 (by decide) (fun c4 => ?_) (fun c4 => ?_)
      · have hf := tk c4 hf
        exact hx0 _ _ (Option.some.inj hf).symm (lv_sub hl [3] rfl)
      · have hf := fk c4 hf
        refine lv_aload_n hx hb dX8_endOfRun_31 rfl (lv_at hl 0 rfl) ?_
        refine va_get (D := D) (ci := 6) (v := .ref a_k_bytes) (C := RX8) (T := TX8) (N := 6) hx hb hts fin_X8 hown hG.1 hP 0 ce_k_0 vq_6 5 (by decide) (hts _ wm_239) (fun _ h9 => h9) rfl dX8_endOfRun_32 ?_
        refine lv_iload hx hb dX8_endOfRun_35 (lv_at hl 3 rfl) ?_
        obtain ⟨n5, hf⟩ := nk hf
        refine va_bald (f := k_bytes) hx hb hG.1 hP 1 1 ce_k_1 rfl n5 dX8_endOfRun_37 ?_
        refine lv_iload_n hx hb dX8_endOfRun_38 rfl (lv_at hl 2 rfl) ?_
        refine lv_icmp_gt (tgt := 48) hx hb dX8_endOfRun_39 (by decide) (fun c6 => ?_) (fun c6 => ?_)
        · have hf := tk c6 hf
          exact hx0 _ _ (Option.some.inj hf).symm (lv_sub hl [3] rfl)
        · have hf := fk c6 hf
          refine lv_iinc (v := (x4 + (1 : Int32))) (lv' := [(4, .int (x4 + (1 : Int32))), (0, .ref a_k), (2, .int x2), (3, .int x3)]) hx hb dX8_endOfRun_42 hl (k := 3) rfl (iinc_eq (by decide)) (by decide) rfl (fun ls hl => ?_)
          refine lv_goto (tgt := 3) hx hb dX8_endOfRun_45 (by decide) ?_
          exact hk _ _ (Option.some.inj hf).symm (lv_sub hl [1, 2, 3, 0] rfl)
set_option maxHeartbeats 4000000 in
set_option maxRecDepth 100000 in
theorem L_X8_endOfRun_3_W {k_size : Int32} {k_place : Int32} {k_sort : Int32} {k_number : Int32} {k_behind : Int32} {k_bytes : (Nat → Int32)} {x2 : Int32} {x3 : Int32} (CF : CallFix p m c cX8_endOfRun 5 s args wsAll RX8) (hG : Gd D cI cB cT s) {o : Int32} (hx0 : ∀ (ls : Array Slot), lv_has ls 5 [(4, .int o)] → W p l e rm_X8_endOfRun s m args below meth c s.heap [] 0 0 Q (F0 m 48 ls [])) : ∀ (n : Nat) (x4 : Int32) (ls : Array Slot), va_P D vwCl (wd_k a_k a_k_bytes cI cB cT k_size k_place k_sort k_number k_behind k_bytes) s.heap → lv_has ls 5 [(0, .ref a_k), (2, .int x2), (3, .int x3), (4, .int x4)] → lp (fun v => B_X8_endOfRun_3 k_size k_bytes x2 x3 v) n x4 = some o → W p l e rm_X8_endOfRun s m args below meth c s.heap [] 0 0 Q (F0 m 3 ls []) := by
  intro n
  induction n with
  | zero =>
    intro x4 ls hP hl hf
    exact (lp_zero hf).elim
  | succ n ih =>
    intro x4 ls hP hl hf
    obtain ⟨z, hz, hf⟩ := lp_succ hf
    refine B_X8_endOfRun_3_W CF hG ?_ ?_ hP hl hz
    · intro v' ls ez hl
      rcases hf with ⟨v2, ev, hf⟩ | ev
      · cases Sum.inl.inj (ez.symm.trans ev)
        exact ih v' ls hP hl hf
      · exact (lp_lr (ez.symm.trans ev)).elim
    · intro o' ls ez hl
      rcases hf with ⟨v2, ev, hf⟩ | ev
      · exact (lp_lr (ev.symm.trans ez)).elim
      · cases Sum.inr.inj (ez.symm.trans ev)
        exact hx0 ls  hl
set_option maxHeartbeats 4000000 in
set_option maxRecDepth 100000 in
theorem c_X8_endOfRun (l : Launch) (D : va_G) (cI cB cT : ClassId) (a_k a_k_bytes : Nat) (k_size : Int32) (k_place : Int32) (k_sort : Int32) (k_number : Int32) (k_behind : Int32) (k_bytes : (Nat → Int32)) (p1 : Int32) (p2 : Int32) (p3 : Int32) {z : Int32} (hf : f_X8_endOfRun k_size k_bytes p1 p2 p3 = some z) :
    Met l yX8_endOfRun (Cond.code yX8_endOfRun cX8_endOfRun 5 (some .int) :: wsAll) rm_X8_endOfRun (Pro [.ref a_k, .int p1, .int p2, .int p3] D cI cB cT (wd_k a_k a_k_bytes cI cB cT k_size k_place k_sort k_number k_behind k_bytes)) (Qr (some (.int z))) 0 0 (fun _ => False) := by
  refine ro_intro RX8 (by decide +kernel) rfl (Nat.le_of_ble_eq_true rfl) ?_
  intro p e s m below meth c ls CF hr hlk hG hP hl
  have hl : lv_has ls 5 [(0, .ref a_k), (1, .int p1), (2, .int p2), (3, .int p3)] := hl
  obtain ⟨hx, hb, hml, hown, hts⟩ := id CF
  unfold f_X8_endOfRun at hf
  refine lv_iload_n hx hb dX8_endOfRun_0 rfl (lv_at hl 1 rfl) ?_
  refine lv_istore (lv' := [(4, .int p1), (0, .ref a_k), (1, .int p1), (2, .int p2), (3, .int p3)]) hx hb dX8_endOfRun_1 hl (by decide) rfl (fun ls hl => ?_)
  obtain ⟨o7, e8, hf⟩ := lp_bind hf
  refine L_X8_endOfRun_3_W CF hG ?_ KN _ _ hP (lv_sub hl [1, 3, 4, 0] rfl) e8
  intro ls hl
  refine lv_iload hx hb dX8_endOfRun_48 (lv_at hl 0 rfl) ?_
  obtain rfl := Option.some.inj hf
  exact ro_iret CF hr hlk dX8_endOfRun_50
end M_X8_endOfRun
section M_X8_takeNumber
variable {p : Program} {l : Launch} {e : Env} {s : State} {m : MethodId} {args : Array Value} {below : List Frame} {meth : Method} {c : Code} {Q : State → Prop} {A : Nat → Prop} {D : va_G} {cI cB cT : ClassId}
variable {a_k a_k_bytes : Nat}
def rm_X8_takeNumber : Room := { frames := 0, cells := 0, slots := 0, locals := 0 }
def B_X8_takeNumber_32 (k_sort : Int32) (k_behind : Int32) (k_bytes : (Nat → Int32)) (x1 : Int32) (k_number : Int32) : Option ((Int32 × Int32) ⊕ (Int32)) := (if k_behind ≤ x1 then some (Sum.inr k_number) else (if k_sort = (2 : Int32) then (if oob x1 150 then none else some (Sum.inl ((x1 + (1 : Int32)), ((((10 : Int32) * k_number) + (k_bytes (x1).toNatClampNeg)) - (48 : Int32))))) else some (Sum.inr k_number)))
def J_X8_takeNumber_19 (k_place : Int32) (k_behind : Int32) (k_bytes : (Nat → Int32)) (y1 : Int32) : Option (Int32 × Int32) := ((lp (fun v => B_X8_takeNumber_32 y1 k_behind k_bytes v.1 v.2) KN (k_place, (0 : Int32))).bind fun o5 => some (y1, o5))
def f_X8_takeNumber (k_place : Int32) (k_behind : Int32) (k_bytes : (Nat → Int32)) : Option (Int32 × Int32) := (if (2 : Int32) < (k_behind - k_place) then J_X8_takeNumber_19 k_place k_behind k_bytes (4 : Int32) else J_X8_takeNumber_19 k_place k_behind k_bytes (2 : Int32))
set_option maxHeartbeats 4000000 in
set_option maxRecDepth 100000 in
theorem B_X8_takeNumber_32_W {k_size : Int32} {k_place : Int32} {k_sort : Int32} {k_number : Int32} {k_behind : Int32} {k_bytes : (Nat → Int32)} {x1 : Int32} (CF : CallFix p m c cX8_takeNumber 2 s args wsAll RX8) (hG : Gd D cI cB cT s) (hA : ∀ q : Nat, s.heap.size ≤ q → A q) {z : (Int32 × Int32) ⊕ (Int32)} {H : Heap} {locs : List Loc} (hk : ∀ (v' : Int32 × Int32) (H : Heap) (locs : List Loc) (ls : Array Slot), z = Sum.inl v' → va_P D vwCl (wd_k a_k a_k_bytes cI cB cT k_size k_place k_sort (v'.2) k_behind k_bytes) H → va_D A (wd_k a_k a_k_bytes cI cB cT k_size k_place k_sort (v'.2) k_behind k_bytes) → va_S A s.heap H locs → lv_has ls 2 [(0, .ref a_k), (1, .int (v'.1))] → W p l e rm_X8_takeNumber s m args below meth c H locs 0 0 Q (F0 m 32 ls [])) (hx0 : ∀ (o' : Int32) (H : Heap) (locs : List Loc) (ls : Array Slot), z = Sum.inr o' → va_P D vwCl (wd_k a_k a_k_bytes cI cB cT k_size k_place k_sort (o') k_behind k_bytes) H → va_D A (wd_k a_k a_k_bytes cI cB cT k_size k_place k_sort (o') k_behind k_bytes) → va_S A s.heap H locs → lv_has ls 2 [] → W p l e rm_X8_takeNumber s m args below meth c H locs 0 0 Q (F0 m 75 ls [])) {ls : Array Slot} (hP : va_P D vwCl (wd_k a_k a_k_bytes cI cB cT k_size k_place k_sort k_number k_behind k_bytes) H) (hD : va_D A (wd_k a_k a_k_bytes cI cB cT k_size k_place k_sort k_number k_behind k_bytes)) (hS : va_S A s.heap H locs) (hl : lv_has ls 2 [(0, .ref a_k), (1, .int x1)]) (hf : B_X8_takeNumber_32 k_sort k_behind k_bytes x1 k_number = some z) : W p l e rm_X8_takeNumber s m args below meth c H locs 0 0 Q (F0 m 32 ls []) := by
  obtain ⟨hx, hb, hml, hown, hts⟩ := id CF
  unfold B_X8_takeNumber_32 at hf
  refine lv_iload_n hx hb dX8_takeNumber_32 rfl (lv_at hl 1 rfl) ?_
  refine lv_aload_n hx hb dX8_takeNumber_33 rfl (lv_at hl 0 rfl) ?_
  refine va_get (D := D) (ci := 6) (v := .int k_behind) (C := RX8) (T := TX8) (N := 6) hx hb hts fin_X8 hown hG.1 hP 0 ce_k_0 vq_6 4 (by decide) (hts _ wm_238) (fun _ h9 => h9) rfl dX8_takeNumber_34 ?_
  refine lv_icmp_ge (tgt := 75) hx hb dX8_takeNumber_37 (by decide) (fun c2 => ?_) (fun c2 => ?_)
  · have hf := tk c2 hf
    exact hx0 _ _ _ _ (Option.some.inj hf).symm hP hD hS (lv_sub hl [] rfl)
  · have hf := fk c2 hf
    refine lv_aload_n hx hb dX8_takeNumber_40 rfl (lv_at hl 0 rfl) ?_
    refine va_get (D := D) (ci := 6) (v := .int k_sort) (C := RX8) (T := TX8) (N := 6) hx hb hts fin_X8 hown hG.1 hP 0 ce_k_0 vq_6 2 (by decide) (hts _ wm_235) (fun _ h9 => h9) rfl dX8_takeNumber_41 ?_
    refine lv_iconst (v := (2 : Int32)) hx hb dX8_takeNumber_44 (by decide) ?_
    refine lv_icmp_ne (tgt := 75) hx hb dX8_takeNumber_45 (by decide) (fun c3 => ?_) (fun c3 => ?_)
    · have hf := fk c3 hf
      exact hx0 _ _ _ _ (Option.some.inj hf).symm hP hD hS (lv_sub hl [] rfl)
    · have hf := tk c3 hf
      refine lv_aload_n hx hb dX8_takeNumber_48 rfl (lv_at hl 0 rfl) ?_
      refine lv_bipush (v := (10 : Int32)) hx hb dX8_takeNumber_49 (by decide) ?_
      refine lv_aload_n hx hb dX8_takeNumber_51 rfl (lv_at hl 0 rfl) ?_
      refine va_get (D := D) (ci := 6) (v := .int k_number) (C := RX8) (T := TX8) (N := 6) hx hb hts fin_X8 hown hG.1 hP 0 ce_k_0 vq_6 3 (by decide) (hts _ wm_237) (fun _ h9 => h9) rfl dX8_takeNumber_52 ?_
      refine lv_imul hx hb dX8_takeNumber_55 ?_
      refine lv_aload_n hx hb dX8_takeNumber_56 rfl (lv_at hl 0 rfl) ?_
      refine va_get (D := D) (ci := 6) (v := .ref a_k_bytes) (C := RX8) (T := TX8) (N := 6) hx hb hts fin_X8 hown hG.1 hP 0 ce_k_0 vq_6 5 (by decide) (hts _ wm_239) (fun _ h9 => h9) rfl dX8_takeNumber_57 ?_
      refine lv_iload_n hx hb dX8_takeNumber_60 rfl (lv_at hl 1 rfl) ?_
      obtain ⟨n4, hf⟩ := nk hf
      refine va_bald (f := k_bytes) hx hb hG.1 hP 1 1 ce_k_1 rfl n4 dX8_takeNumber_61 ?_
      refine lv_iadd hx hb dX8_takeNumber_62 ?_
      refine lv_bipush (v := (48 : Int32)) hx hb dX8_takeNumber_63 (by decide) ?_
      refine lv_isub hx hb dX8_takeNumber_65 ?_
      refine va_put (D := D) (ci := 6) (v := .int ((((10 : Int32) * k_number) + (k_bytes (x1).toNatClampNeg)) - (48 : Int32))) (ty := .int) (C := RX8) (T := TX8) (N := 6) hx hb hts fin_X8 tyX8 tyX8_ok nmX8 hown hG.1 hP hD hS 0 ce_k_0 vq_6 3 (by decide) (hts _ wm_237) (fun _ h9 => h9) rfl (tyX8_ok 3 (by decide)) rfl rfl (Nat.le_of_ble_eq_true rfl) dX8_takeNumber_66 (fun H locs hP _ hS => ?_)
      have hP : va_P D vwCl (wd_k a_k a_k_bytes cI cB cT k_size k_place k_sort ((((10 : Int32) * k_number) + (k_bytes (x1).toNatClampNeg)) - (48 : Int32)) k_behind k_bytes) H := va_P_eq se_k_k_number hP
      have hD : va_D A (wd_k a_k a_k_bytes cI cB cT k_size k_place k_sort ((((10 : Int32) * k_number) + (k_bytes (x1).toNatClampNeg)) - (48 : Int32)) k_behind k_bytes) := va_D_fst fs_k hD
      refine lv_iinc (v := (x1 + (1 : Int32))) (lv' := [(1, .int (x1 + (1 : Int32))), (0, .ref a_k)]) hx hb dX8_takeNumber_69 hl (k := 1) rfl (iinc_eq (by decide)) (by decide) rfl (fun ls hl => ?_)
      refine lv_goto (tgt := 32) hx hb dX8_takeNumber_72 (by decide) ?_
      exact hk _ _ _ _ (Option.some.inj hf).symm hP hD hS (lv_sub hl [1, 0] rfl)
set_option maxHeartbeats 4000000 in
set_option maxRecDepth 100000 in
theorem L_X8_takeNumber_32_W {k_size : Int32} {k_place : Int32} {k_sort : Int32} {k_behind : Int32} {k_bytes : (Nat → Int32)} (CF : CallFix p m c cX8_takeNumber 2 s args wsAll RX8) (hG : Gd D cI cB cT s) (hA : ∀ q : Nat, s.heap.size ≤ q → A q) {o : Int32} (hx0 : ∀ (H : Heap) (locs : List Loc) (ls : Array Slot), va_P D vwCl (wd_k a_k a_k_bytes cI cB cT k_size k_place k_sort o k_behind k_bytes) H → va_D A (wd_k a_k a_k_bytes cI cB cT k_size k_place k_sort o k_behind k_bytes) → va_S A s.heap H locs → lv_has ls 2 [] → W p l e rm_X8_takeNumber s m args below meth c H locs 0 0 Q (F0 m 75 ls [])) : ∀ (n : Nat) (x1 : Int32) (k_number : Int32) (H : Heap) (locs : List Loc) (ls : Array Slot), va_P D vwCl (wd_k a_k a_k_bytes cI cB cT k_size k_place k_sort k_number k_behind k_bytes) H → va_D A (wd_k a_k a_k_bytes cI cB cT k_size k_place k_sort k_number k_behind k_bytes) → va_S A s.heap H locs → lv_has ls 2 [(0, .ref a_k), (1, .int x1)] → lp (fun v => B_X8_takeNumber_32 k_sort k_behind k_bytes v.1 v.2) n (x1, k_number) = some o → W p l e rm_X8_takeNumber s m args below meth c H locs 0 0 Q (F0 m 32 ls []) := by
  intro n
  induction n with
  | zero =>
    intro x1 k_number H locs ls hP hD hS hl hf
    exact (lp_zero hf).elim
  | succ n ih =>
    intro x1 k_number H locs ls hP hD hS hl hf
    obtain ⟨z, hz, hf⟩ := lp_succ hf
    refine B_X8_takeNumber_32_W CF hG hA ?_ ?_ hP hD hS hl hz
    · intro v' H locs ls ez hP hD hS hl
      rcases hf with ⟨v2, ev, hf⟩ | ev
      · cases Sum.inl.inj (ez.symm.trans ev)
        exact ih v'.1 v'.2 H locs ls hP hD hS hl hf
      · exact (lp_lr (ez.symm.trans ev)).elim
    · intro o' H locs ls ez hP hD hS hl
      rcases hf with ⟨v2, ev, hf⟩ | ev
      · exact (lp_lr (ev.symm.trans ez)).elim
      · cases Sum.inr.inj (ez.symm.trans ev)
        exact hx0 H locs ls hP hD hS hl
set_option maxHeartbeats 4000000 in
set_option maxRecDepth 100000 in
theorem J_X8_takeNumber_19_W {k_size : Int32} {k_place : Int32} {k_sort : Int32} {k_number : Int32} {k_behind : Int32} {k_bytes : (Nat → Int32)} {y1 : Int32} (CF : CallFix p m c cX8_takeNumber 2 s args wsAll RX8) (hG : Gd D cI cB cT s) (hA : ∀ q : Nat, s.heap.size ≤ q → A q) {z : Int32 × Int32} {H : Heap} {locs : List Loc} (hr : meth.sig.returnType = none) (hlk : meth.locks = false) {ls : Array Slot} (hP : va_P D vwCl (wd_k a_k a_k_bytes cI cB cT k_size k_place k_sort k_number k_behind k_bytes) H) (hD : va_D A (wd_k a_k a_k_bytes cI cB cT k_size k_place k_sort k_number k_behind k_bytes)) (hS : va_S A s.heap H locs) (hl : lv_has ls 2 [(0, .ref a_k)]) (hf : J_X8_takeNumber_19 k_place k_behind k_bytes y1 = some z) : W p l e rm_X8_takeNumber s m args below meth c H locs 0 0 (MQ below (Qw none D (wd_k a_k a_k_bytes cI cB cT k_size k_place z.1 z.2 k_behind k_bytes) A) args s 0 0 A) (F0 m 19 ls [.int y1, .ref a_k]) := by
  obtain ⟨hx, hb, hml, hown, hts⟩ := id CF
  unfold J_X8_takeNumber_19 at hf
  refine va_put (D := D) (ci := 6) (v := .int y1) (ty := .int) (C := RX8) (T := TX8) (N := 6) hx hb hts fin_X8 tyX8 tyX8_ok nmX8 hown hG.1 hP hD hS 0 ce_k_0 vq_6 2 (by decide) (hts _ wm_235) (fun _ h9 => h9) rfl (tyX8_ok 2 (by decide)) rfl rfl (Nat.le_of_ble_eq_true rfl) dX8_takeNumber_19 (fun H locs hP _ hS => ?_)
  have hP : va_P D vwCl (wd_k a_k a_k_bytes cI cB cT k_size k_place y1 k_number k_behind k_bytes) H := va_P_eq se_k_k_sort hP
  have hD : va_D A (wd_k a_k a_k_bytes cI cB cT k_size k_place y1 k_number k_behind k_bytes) := va_D_fst fs_k hD
  refine lv_aload_n hx hb dX8_takeNumber_22 rfl (lv_at hl 0 rfl) ?_
  refine lv_iconst (v := (0 : Int32)) hx hb dX8_takeNumber_23 (by decide) ?_
  refine va_put (D := D) (ci := 6) (v := .int (0 : Int32)) (ty := .int) (C := RX8) (T := TX8) (N := 6) hx hb hts fin_X8 tyX8 tyX8_ok nmX8 hown hG.1 hP hD hS 0 ce_k_0 vq_6 3 (by decide) (hts _ wm_237) (fun _ h9 => h9) rfl (tyX8_ok 3 (by decide)) rfl rfl (Nat.le_of_ble_eq_true rfl) dX8_takeNumber_24 (fun H locs hP _ hS => ?_)
  have hP : va_P D vwCl (wd_k a_k a_k_bytes cI cB cT k_size k_place y1 (0 : Int32) k_behind k_bytes) H := va_P_eq se_k_k_number hP
  have hD : va_D A (wd_k a_k a_k_bytes cI cB cT k_size k_place y1 (0 : Int32) k_behind k_bytes) := va_D_fst fs_k hD
  refine lv_aload_n hx hb dX8_takeNumber_27 rfl (lv_at hl 0 rfl) ?_
  refine va_get (D := D) (ci := 6) (v := .int k_place) (C := RX8) (T := TX8) (N := 6) hx hb hts fin_X8 hown hG.1 hP 0 ce_k_0 vq_6 1 (by decide) (hts _ wm_232) (fun _ h9 => h9) rfl dX8_takeNumber_28 ?_
  refine lv_istore_n (lv' := [(1, .int k_place), (0, .ref a_k)]) hx hb dX8_takeNumber_31 rfl hl (by decide) rfl (fun ls hl => ?_)
  obtain ⟨o5, e6, hf⟩ := lp_bind hf
  refine L_X8_takeNumber_32_W CF hG hA ?_ KN _ _ _ _ _ hP hD hS (lv_sub hl [1, 0] rfl) e6
  intro H locs ls hP hD hS hl
  obtain rfl := Option.some.inj hf
  exact wr_vret CF hr hlk hP hS dX8_takeNumber_75
set_option maxHeartbeats 4000000 in
set_option maxRecDepth 100000 in
theorem c_X8_takeNumber (l : Launch) (D : va_G) (cI cB cT : ClassId) (sz : Nat) (a_k a_k_bytes : Nat) (k_size : Int32) (k_place : Int32) (k_sort : Int32) (k_number : Int32) (k_behind : Int32) (k_bytes : (Nat → Int32)) {z : Int32 × Int32} (hf : f_X8_takeNumber k_place k_behind k_bytes = some z) :
    Met l yX8_takeNumber (Cond.code yX8_takeNumber cX8_takeNumber 2 none :: wsAll) rm_X8_takeNumber (Pwr [.ref a_k] D cI cB cT (wd_k a_k a_k_bytes cI cB cT k_size k_place k_sort k_number k_behind k_bytes) sz) (Qw none D (wd_k a_k a_k_bytes cI cB cT k_size k_place z.1 z.2 k_behind k_bytes) (va_A (wd_k a_k a_k_bytes cI cB cT k_size k_place k_sort k_number k_behind k_bytes) sz)) 0 0 (va_A (wd_k a_k a_k_bytes cI cB cT k_size k_place k_sort k_number k_behind k_bytes) sz) := by
  refine wr_intro RX8 (by decide +kernel) rfl (Nat.le_of_ble_eq_true rfl) ?_
  intro p e s m below meth c ls A H locs CF hr hlk hG hP hD hS hA hl
  have hl : lv_has ls 2 [(0, .ref a_k)] := hl
  obtain ⟨hx, hb, hml, hown, hts⟩ := id CF
  unfold f_X8_takeNumber at hf
  refine lv_aload_n hx hb dX8_takeNumber_0 rfl (lv_at hl 0 rfl) ?_
  refine lv_aload_n hx hb dX8_takeNumber_1 rfl (lv_at hl 0 rfl) ?_
  refine va_get (D := D) (ci := 6) (v := .int k_behind) (C := RX8) (T := TX8) (N := 6) hx hb hts fin_X8 hown hG.1 hP 0 ce_k_0 vq_6 4 (by decide) (hts _ wm_238) (fun _ h9 => h9) rfl dX8_takeNumber_2 ?_
  refine lv_aload_n hx hb dX8_takeNumber_5 rfl (lv_at hl 0 rfl) ?_
  refine va_get (D := D) (ci := 6) (v := .int k_place) (C := RX8) (T := TX8) (N := 6) hx hb hts fin_X8 hown hG.1 hP 0 ce_k_0 vq_6 1 (by decide) (hts _ wm_232) (fun _ h9 => h9) rfl dX8_takeNumber_6 ?_
  refine lv_isub hx hb dX8_takeNumber_9 ?_
  refine lv_iconst (v := (2 : Int32)) hx hb dX8_takeNumber_10 (by decide) ?_
  refine lv_icmp_gt (tgt := 18) hx hb dX8_takeNumber_11 (by decide) (fun c1 => ?_) (fun c1 => ?_)
  · have hf := tk c1 hf
    refine lv_iconst (v := (4 : Int32)) hx hb dX8_takeNumber_18 (by decide) ?_
    exact J_X8_takeNumber_19_W CF hG hA hr hlk hP hD hS (lv_sub hl [0] rfl) hf
  · have hf := fk c1 hf
    refine lv_iconst (v := (2 : Int32)) hx hb dX8_takeNumber_14 (by decide) ?_
    refine lv_goto (tgt := 19) hx hb dX8_takeNumber_15 (by decide) ?_
    exact J_X8_takeNumber_19_W CF hG hA hr hlk hP hD hS (lv_sub hl [0] rfl) hf
end M_X8_takeNumber
section M_X8_step
variable {p : Program} {l : Launch} {e : Env} {s : State} {m : MethodId} {args : Array Value} {below : List Frame} {meth : Method} {c : Code} {Q : State → Prop} {A : Nat → Prop} {D : va_G} {cI cB cT : ClassId}
variable {a_k a_k_bytes : Nat}
def rm_X8_step : Room := { frames := 1, cells := 0, slots := 0, locals := 24 }
def J_X8_step_132 (k_place : Int32) (k_number : Int32) (x1 : Int32) : Option (Int32 × Int32 × Int32 × Int32) := (if x1 = (59 : Int32) then some (k_place, (3 : Int32), k_number, (k_place + (1 : Int32))) else some (k_place, (4 : Int32), k_number, (k_place + (1 : Int32))))
def J_X8_step_97 (k_size : Int32) (k_place : Int32) (k_number : Int32) (k_bytes : (Nat → Int32)) (x1 : Int32) : Option (Int32 × Int32 × Int32 × Int32) := (if x1 < (48 : Int32) then J_X8_step_132 k_place k_number x1 else (if (57 : Int32) < x1 then J_X8_step_132 k_place k_number x1 else ((f_X8_endOfRun k_size k_bytes k_place (48 : Int32) (57 : Int32)).bind fun o9 => ((f_X8_takeNumber k_place o9 k_bytes).bind fun o11 => some (k_place, o11.1, o11.2, o9)))))
def J_X8_step_40 (k_size : Int32) (k_place : Int32) (k_number : Int32) (k_bytes : (Nat → Int32)) (y0 : Int32) : Option (Int32 × Int32 × Int32 × Int32) := (if 0 ≤ y0 then (if y0 < (97 : Int32) then J_X8_step_97 k_size k_place k_number k_bytes y0 else (if (122 : Int32) < y0 then J_X8_step_97 k_size k_place k_number k_bytes y0 else ((f_X8_endOfRun k_size k_bytes k_place (97 : Int32) (122 : Int32)).bind fun o14 => some (k_place, (1 : Int32), k_number, o14)))) else some (k_place, (0 : Int32), k_number, k_place))
def f_X8_step (k_size : Int32) (k_number : Int32) (k_behind : Int32) (k_bytes : (Nat → Int32)) : Option (Int32 × Int32 × Int32 × Int32) := ((f_X8_endOfRun k_size k_bytes k_behind (32 : Int32) (32 : Int32)).bind fun o1 => (if k_size ≤ o1 then J_X8_step_40 k_size o1 k_number k_bytes (-1 : Int32) else (if oob o1 150 then none else J_X8_step_40 k_size o1 k_number k_bytes (k_bytes (o1).toNatClampNeg))))
set_option maxHeartbeats 4000000 in
set_option maxRecDepth 100000 in
theorem J_X8_step_132_W {k_size : Int32} {k_place : Int32} {k_sort : Int32} {k_number : Int32} {k_behind : Int32} {k_bytes : (Nat → Int32)} {x1 : Int32} (CF : CallFix p m c cX8_step 2 s args wsAll RX8) (hG : Gd D cI cB cT s) (hA : ∀ q : Nat, s.heap.size ≤ q → A q) {z : Int32 × Int32 × Int32 × Int32} {H : Heap} {locs : List Loc} (hr : meth.sig.returnType = none) (hlk : meth.locks = false) {ls : Array Slot} (hP : va_P D vwCl (wd_k a_k a_k_bytes cI cB cT k_size k_place k_sort k_number k_behind k_bytes) H) (hD : va_D A (wd_k a_k a_k_bytes cI cB cT k_size k_place k_sort k_number k_behind k_bytes)) (hS : va_S A s.heap H locs) (hl : lv_has ls 2 [(0, .ref a_k), (1, .int x1)]) (hf : J_X8_step_132 k_place k_number x1 = some z) : W p l e rm_X8_step s m args below meth c H locs 0 0 (MQ below (Qw none D (wd_k a_k a_k_bytes cI cB cT k_size z.1 z.2.1 z.2.2.1 z.2.2.2 k_bytes) A) args s 0 0 A) (F0 m 132 ls []) := by
  obtain ⟨hx, hb, hml, hown, hts⟩ := id CF
  unfold J_X8_step_132 at hf
  refine lv_aload_n hx hb dX8_step_132 rfl (lv_at hl 0 rfl) ?_
  refine lv_iload_n hx hb dX8_step_133 rfl (lv_at hl 1 rfl) ?_
  refine lv_bipush (v := (59 : Int32)) hx hb dX8_step_134 (by decide) ?_
  refine lv_icmp_ne (tgt := 143) hx hb dX8_step_136 (by decide) (fun c7 => ?_) (fun c7 => ?_)
  · have hf := fk c7 hf
    refine lv_iconst (v := (4 : Int32)) hx hb dX8_step_143 (by decide) ?_
    refine va_put (D := D) (ci := 6) (v := .int (4 : Int32)) (ty := .int) (C := RX8) (T := TX8) (N := 6) hx hb hts fin_X8 tyX8 tyX8_ok nmX8 hown hG.1 hP hD hS 0 ce_k_0 vq_6 2 (by decide) (hts _ wm_235) (fun _ h9 => h9) rfl (tyX8_ok 2 (by decide)) rfl rfl (Nat.le_of_ble_eq_true rfl) dX8_step_144 (fun H locs hP _ hS => ?_)
    have hP : va_P D vwCl (wd_k a_k a_k_bytes cI cB cT k_size k_place (4 : Int32) k_number k_behind k_bytes) H := va_P_eq se_k_k_sort hP
    have hD : va_D A (wd_k a_k a_k_bytes cI cB cT k_size k_place (4 : Int32) k_number k_behind k_bytes) := va_D_fst fs_k hD
    refine lv_aload_n hx hb dX8_step_147 rfl (lv_at hl 0 rfl) ?_
    refine lv_aload_n hx hb dX8_step_148 rfl (lv_at hl 0 rfl) ?_
    refine va_get (D := D) (ci := 6) (v := .int k_place) (C := RX8) (T := TX8) (N := 6) hx hb hts fin_X8 hown hG.1 hP 0 ce_k_0 vq_6 1 (by decide) (hts _ wm_232) (fun _ h9 => h9) rfl dX8_step_149 ?_
    refine lv_iconst (v := (1 : Int32)) hx hb dX8_step_152 (by decide) ?_
    refine lv_iadd hx hb dX8_step_153 ?_
    refine va_put (D := D) (ci := 6) (v := .int (k_place + (1 : Int32))) (ty := .int) (C := RX8) (T := TX8) (N := 6) hx hb hts fin_X8 tyX8 tyX8_ok nmX8 hown hG.1 hP hD hS 0 ce_k_0 vq_6 4 (by decide) (hts _ wm_238) (fun _ h9 => h9) rfl (tyX8_ok 4 (by decide)) rfl rfl (Nat.le_of_ble_eq_true rfl) dX8_step_154 (fun H locs hP _ hS => ?_)
    have hP : va_P D vwCl (wd_k a_k a_k_bytes cI cB cT k_size k_place (4 : Int32) k_number (k_place + (1 : Int32)) k_bytes) H := va_P_eq se_k_k_behind hP
    have hD : va_D A (wd_k a_k a_k_bytes cI cB cT k_size k_place (4 : Int32) k_number (k_place + (1 : Int32)) k_bytes) := va_D_fst fs_k hD
    obtain rfl := Option.some.inj hf
    exact wr_vret CF hr hlk hP hS dX8_step_157
  · have hf := tk c7 hf
    refine lv_iconst (v := (3 : Int32)) hx hb dX8_step_139 (by decide) ?_
    refine lv_goto (tgt := 144) hx hb dX8_step_140 (by decide) ?_
    refine va_put (D := D) (ci := 6) (v := .int (3 : Int32)) (ty := .int) (C := RX8) (T := TX8) (N := 6) hx hb hts fin_X8 tyX8 tyX8_ok nmX8 hown hG.1 hP hD hS 0 ce_k_0 vq_6 2 (by decide) (hts _ wm_235) (fun _ h9 => h9) rfl (tyX8_ok 2 (by decide)) rfl rfl (Nat.le_of_ble_eq_true rfl) dX8_step_144 (fun H locs hP _ hS => ?_)
    have hP : va_P D vwCl (wd_k a_k a_k_bytes cI cB cT k_size k_place (3 : Int32) k_number k_behind k_bytes) H := va_P_eq se_k_k_sort hP
    have hD : va_D A (wd_k a_k a_k_bytes cI cB cT k_size k_place (3 : Int32) k_number k_behind k_bytes) := va_D_fst fs_k hD
    refine lv_aload_n hx hb dX8_step_147 rfl (lv_at hl 0 rfl) ?_
    refine lv_aload_n hx hb dX8_step_148 rfl (lv_at hl 0 rfl) ?_
    refine va_get (D := D) (ci := 6) (v := .int k_place) (C := RX8) (T := TX8) (N := 6) hx hb hts fin_X8 hown hG.1 hP 0 ce_k_0 vq_6 1 (by decide) (hts _ wm_232) (fun _ h9 => h9) rfl dX8_step_149 ?_
    refine lv_iconst (v := (1 : Int32)) hx hb dX8_step_152 (by decide) ?_
    refine lv_iadd hx hb dX8_step_153 ?_
    refine va_put (D := D) (ci := 6) (v := .int (k_place + (1 : Int32))) (ty := .int) (C := RX8) (T := TX8) (N := 6) hx hb hts fin_X8 tyX8 tyX8_ok nmX8 hown hG.1 hP hD hS 0 ce_k_0 vq_6 4 (by decide) (hts _ wm_238) (fun _ h9 => h9) rfl (tyX8_ok 4 (by decide)) rfl rfl (Nat.le_of_ble_eq_true rfl) dX8_step_154 (fun H locs hP _ hS => ?_)
    have hP : va_P D vwCl (wd_k a_k a_k_bytes cI cB cT k_size k_place (3 : Int32) k_number (k_place + (1 : Int32)) k_bytes) H := va_P_eq se_k_k_behind hP
    have hD : va_D A (wd_k a_k a_k_bytes cI cB cT k_size k_place (3 : Int32) k_number (k_place + (1 : Int32)) k_bytes) := va_D_fst fs_k hD
    obtain rfl := Option.some.inj hf
    exact wr_vret CF hr hlk hP hS dX8_step_157
set_option maxHeartbeats 4000000 in
set_option maxRecDepth 100000 in
theorem J_X8_step_97_W {k_size : Int32} {k_place : Int32} {k_sort : Int32} {k_number : Int32} {k_behind : Int32} {k_bytes : (Nat → Int32)} {x1 : Int32} (CF : CallFix p m c cX8_step 2 s args wsAll RX8) (hG : Gd D cI cB cT s) (hA : ∀ q : Nat, s.heap.size ≤ q → A q) {z : Int32 × Int32 × Int32 × Int32} {H : Heap} {locs : List Loc} (hr : meth.sig.returnType = none) (hlk : meth.locks = false) {ls : Array Slot} (hP : va_P D vwCl (wd_k a_k a_k_bytes cI cB cT k_size k_place k_sort k_number k_behind k_bytes) H) (hD : va_D A (wd_k a_k a_k_bytes cI cB cT k_size k_place k_sort k_number k_behind k_bytes)) (hS : va_S A s.heap H locs) (hl : lv_has ls 2 [(0, .ref a_k), (1, .int x1)]) (hf : J_X8_step_97 k_size k_place k_number k_bytes x1 = some z) : W p l e rm_X8_step s m args below meth c H locs 0 0 (MQ below (Qw none D (wd_k a_k a_k_bytes cI cB cT k_size z.1 z.2.1 z.2.2.1 z.2.2.2 k_bytes) A) args s 0 0 A) (F0 m 97 ls []) := by
  obtain ⟨hx, hb, hml, hown, hts⟩ := id CF
  unfold J_X8_step_97 at hf
  refine lv_iload_n hx hb dX8_step_97 rfl (lv_at hl 1 rfl) ?_
  refine lv_bipush (v := (48 : Int32)) hx hb dX8_step_98 (by decide) ?_
  refine lv_icmp_lt (tgt := 132) hx hb dX8_step_100 (by decide) (fun c6 => ?_) (fun c6 => ?_)
  · have hf := tk c6 hf
    exact J_X8_step_132_W CF hG hA hr hlk hP hD hS (lv_sub hl [0, 1] rfl) hf
  · have hf := fk c6 hf
    refine lv_iload_n hx hb dX8_step_103 rfl (lv_at hl 1 rfl) ?_
    refine lv_bipush (v := (57 : Int32)) hx hb dX8_step_104 (by decide) ?_
    refine lv_icmp_gt (tgt := 132) hx hb dX8_step_106 (by decide) (fun c8 => ?_) (fun c8 => ?_)
    · have hf := tk c8 hf
      exact J_X8_step_132_W CF hG hA hr hlk hP hD hS (lv_sub hl [0, 1] rfl) hf
    · have hf := fk c8 hf
      refine lv_aload_n hx hb dX8_step_109 rfl (lv_at hl 0 rfl) ?_
      refine lv_aload_n hx hb dX8_step_110 rfl (lv_at hl 0 rfl) ?_
      refine lv_aload_n hx hb dX8_step_111 rfl (lv_at hl 0 rfl) ?_
      refine va_get (D := D) (ci := 6) (v := .int k_place) (C := RX8) (T := TX8) (N := 6) hx hb hts fin_X8 hown hG.1 hP 0 ce_k_0 vq_6 1 (by decide) (hts _ wm_232) (fun _ h9 => h9) rfl dX8_step_112 ?_
      refine lv_bipush (v := (48 : Int32)) hx hb dX8_step_115 (by decide) ?_
      refine lv_bipush (v := (57 : Int32)) hx hb dX8_step_117 (by decide) ?_
      obtain ⟨o9, e10, hf⟩ := lp_bind hf
      refine ro_Vi (x := o9) (As := [.int k_place, .int (48 : Int32), .int (57 : Int32)]) (rest := [.ref a_k]) CF (c_X8_endOfRun l D cI cB cT a_k a_k_bytes k_size k_place k_sort k_number k_behind k_bytes k_place (48 : Int32) (57 : Int32) e10) ok_X8_endOfRun wm_417 ⟨rfl, rfl, Nat.le_of_ble_eq_true rfl, Nat.le_of_ble_eq_true rfl⟩ hG hP 0 6 vq_6 rfl ce_k_0 rfl hl.1 rfl (Nat.le_of_ble_eq_true rfl) ⟨Nat.zero_le _, Nat.zero_le _⟩ dX8_step_119 ?_
      refine va_put (D := D) (ci := 6) (v := .int o9) (ty := .int) (C := RX8) (T := TX8) (N := 6) hx hb hts fin_X8 tyX8 tyX8_ok nmX8 hown hG.1 hP hD hS 0 ce_k_0 vq_6 4 (by decide) (hts _ wm_238) (fun _ h9 => h9) rfl (tyX8_ok 4 (by decide)) rfl rfl (Nat.le_of_ble_eq_true rfl) dX8_step_122 (fun H locs hP _ hS => ?_)
      have hP : va_P D vwCl (wd_k a_k a_k_bytes cI cB cT k_size k_place k_sort k_number o9 k_bytes) H := va_P_eq se_k_k_behind hP
      have hD : va_D A (wd_k a_k a_k_bytes cI cB cT k_size k_place k_sort k_number o9 k_bytes) := va_D_fst fs_k hD
      refine lv_aload_n hx hb dX8_step_125 rfl (lv_at hl 0 rfl) ?_
      obtain ⟨o11, e12, hf⟩ := lp_bind hf
      refine wr_Wv (ws' := (wd_k a_k a_k_bytes cI cB cT k_size k_place o11.1 o11.2 o9 k_bytes)) (As := []) (rest := []) CF (c_X8_takeNumber l D cI cB cT H.size a_k a_k_bytes k_size k_place k_sort k_number o9 k_bytes e12) ok_X8_takeNumber wm_421 ⟨rfl, rfl, Nat.le_of_ble_eq_true rfl, Nat.le_of_ble_eq_true rfl⟩ hG hP hD hS hA fs_k 0 6 vq_6 rfl ce_k_0 rfl hl.1 rfl (Nat.le_of_ble_eq_true rfl) ⟨Nat.zero_le _, Nat.zero_le _⟩ dX8_step_126 (fun H locs hP hD hS => ?_)
      refine lv_goto (tgt := 157) hx hb dX8_step_129 (by decide) ?_
      obtain rfl := Option.some.inj hf
      exact wr_vret CF hr hlk hP hS dX8_step_157
set_option maxHeartbeats 4000000 in
set_option maxRecDepth 100000 in
theorem J_X8_step_40_W {k_size : Int32} {k_place : Int32} {k_sort : Int32} {k_number : Int32} {k_behind : Int32} {k_bytes : (Nat → Int32)} {y0 : Int32} (CF : CallFix p m c cX8_step 2 s args wsAll RX8) (hG : Gd D cI cB cT s) (hA : ∀ q : Nat, s.heap.size ≤ q → A q) {z : Int32 × Int32 × Int32 × Int32} {H : Heap} {locs : List Loc} (hr : meth.sig.returnType = none) (hlk : meth.locks = false) {ls : Array Slot} (hP : va_P D vwCl (wd_k a_k a_k_bytes cI cB cT k_size k_place k_sort k_number k_behind k_bytes) H) (hD : va_D A (wd_k a_k a_k_bytes cI cB cT k_size k_place k_sort k_number k_behind k_bytes)) (hS : va_S A s.heap H locs) (hl : lv_has ls 2 [(0, .ref a_k)]) (hf : J_X8_step_40 k_size k_place k_number k_bytes y0 = some z) : W p l e rm_X8_step s m args below meth c H locs 0 0 (MQ below (Qw none D (wd_k a_k a_k_bytes cI cB cT k_size z.1 z.2.1 z.2.2.1 z.2.2.2 k_bytes) A) args s 0 0 A) (F0 m 40 ls [.int y0]) := by
  obtain ⟨hx, hb, hml, hown, hts⟩ := id CF
  unfold J_X8_step_40 at hf
  refine lv_istore_n (lv' := [(1, .int y0), (0, .ref a_k)]) hx hb dX8_step_40 rfl hl (by decide) rfl (fun ls hl => ?_)
  refine lv_iload_n hx hb dX8_step_41 rfl (lv_at hl 0 rfl) ?_
  refine lv_if_ge (tgt := 61) hx hb dX8_step_42 (by decide) (fun c4 => ?_) (fun c4 => ?_)
  · have hf := tk c4 hf
    refine lv_iload_n hx hb dX8_step_61 rfl (lv_at hl 0 rfl) ?_
    refine lv_bipush (v := (97 : Int32)) hx hb dX8_step_62 (by decide) ?_
    refine lv_icmp_lt (tgt := 97) hx hb dX8_step_64 (by decide) (fun c5 => ?_) (fun c5 => ?_)
    · have hf := tk c5 hf
      exact J_X8_step_97_W CF hG hA hr hlk hP hD hS (lv_sub hl [1, 0] rfl) hf
    · have hf := fk c5 hf
      refine lv_iload_n hx hb dX8_step_67 rfl (lv_at hl 0 rfl) ?_
      refine lv_bipush (v := (122 : Int32)) hx hb dX8_step_68 (by decide) ?_
      refine lv_icmp_gt (tgt := 97) hx hb dX8_step_70 (by decide) (fun c13 => ?_) (fun c13 => ?_)
      · have hf := tk c13 hf
        exact J_X8_step_97_W CF hG hA hr hlk hP hD hS (lv_sub hl [1, 0] rfl) hf
      · have hf := fk c13 hf
        refine lv_aload_n hx hb dX8_step_73 rfl (lv_at hl 1 rfl) ?_
        refine lv_iconst (v := (1 : Int32)) hx hb dX8_step_74 (by decide) ?_
        refine va_put (D := D) (ci := 6) (v := .int (1 : Int32)) (ty := .int) (C := RX8) (T := TX8) (N := 6) hx hb hts fin_X8 tyX8 tyX8_ok nmX8 hown hG.1 hP hD hS 0 ce_k_0 vq_6 2 (by decide) (hts _ wm_235) (fun _ h9 => h9) rfl (tyX8_ok 2 (by decide)) rfl rfl (Nat.le_of_ble_eq_true rfl) dX8_step_75 (fun H locs hP _ hS => ?_)
        have hP : va_P D vwCl (wd_k a_k a_k_bytes cI cB cT k_size k_place (1 : Int32) k_number k_behind k_bytes) H := va_P_eq se_k_k_sort hP
        have hD : va_D A (wd_k a_k a_k_bytes cI cB cT k_size k_place (1 : Int32) k_number k_behind k_bytes) := va_D_fst fs_k hD
        refine lv_aload_n hx hb dX8_step_78 rfl (lv_at hl 1 rfl) ?_
        refine lv_aload_n hx hb dX8_step_79 rfl (lv_at hl 1 rfl) ?_
        refine lv_aload_n hx hb dX8_step_80 rfl (lv_at hl 1 rfl) ?_
        refine va_get (D := D) (ci := 6) (v := .int k_place) (C := RX8) (T := TX8) (N := 6) hx hb hts fin_X8 hown hG.1 hP 0 ce_k_0 vq_6 1 (by decide) (hts _ wm_232) (fun _ h9 => h9) rfl dX8_step_81 ?_
        refine lv_bipush (v := (97 : Int32)) hx hb dX8_step_84 (by decide) ?_
        refine lv_bipush (v := (122 : Int32)) hx hb dX8_step_86 (by decide) ?_
        obtain ⟨o14, e15, hf⟩ := lp_bind hf
        refine ro_Vi (x := o14) (As := [.int k_place, .int (97 : Int32), .int (122 : Int32)]) (rest := [.ref a_k]) CF (c_X8_endOfRun l D cI cB cT a_k a_k_bytes k_size k_place (1 : Int32) k_number k_behind k_bytes k_place (97 : Int32) (122 : Int32) e15) ok_X8_endOfRun wm_417 ⟨rfl, rfl, Nat.le_of_ble_eq_true rfl, Nat.le_of_ble_eq_true rfl⟩ hG hP 0 6 vq_6 rfl ce_k_0 rfl hl.1 rfl (Nat.le_of_ble_eq_true rfl) ⟨Nat.zero_le _, Nat.zero_le _⟩ dX8_step_88 ?_
        refine va_put (D := D) (ci := 6) (v := .int o14) (ty := .int) (C := RX8) (T := TX8) (N := 6) hx hb hts fin_X8 tyX8 tyX8_ok nmX8 hown hG.1 hP hD hS 0 ce_k_0 vq_6 4 (by decide) (hts _ wm_238) (fun _ h9 => h9) rfl (tyX8_ok 4 (by decide)) rfl rfl (Nat.le_of_ble_eq_true rfl) dX8_step_91 (fun H locs hP _ hS => ?_)
        have hP : va_P D vwCl (wd_k a_k a_k_bytes cI cB cT k_size k_place (1 : Int32) k_number o14 k_bytes) H := va_P_eq se_k_k_behind hP
        have hD : va_D A (wd_k a_k a_k_bytes cI cB cT k_size k_place (1 : Int32) k_number o14 k_bytes) := va_D_fst fs_k hD
        refine lv_goto (tgt := 157) hx hb dX8_step_94 (by decide) ?_
        obtain rfl := Option.some.inj hf
        exact wr_vret CF hr hlk hP hS dX8_step_157
  · have hf := fk c4 hf
    refine lv_aload_n hx hb dX8_step_45 rfl (lv_at hl 1 rfl) ?_
    refine lv_iconst (v := (0 : Int32)) hx hb dX8_step_46 (by decide) ?_
    refine va_put (D := D) (ci := 6) (v := .int (0 : Int32)) (ty := .int) (C := RX8) (T := TX8) (N := 6) hx hb hts fin_X8 tyX8 tyX8_ok nmX8 hown hG.1 hP hD hS 0 ce_k_0 vq_6 2 (by decide) (hts _ wm_235) (fun _ h9 => h9) rfl (tyX8_ok 2 (by decide)) rfl rfl (Nat.le_of_ble_eq_true rfl) dX8_step_47 (fun H locs hP _ hS => ?_)
    have hP : va_P D vwCl (wd_k a_k a_k_bytes cI cB cT k_size k_place (0 : Int32) k_number k_behind k_bytes) H := va_P_eq se_k_k_sort hP
    have hD : va_D A (wd_k a_k a_k_bytes cI cB cT k_size k_place (0 : Int32) k_number k_behind k_bytes) := va_D_fst fs_k hD
    refine lv_aload_n hx hb dX8_step_50 rfl (lv_at hl 1 rfl) ?_
    refine lv_aload_n hx hb dX8_step_51 rfl (lv_at hl 1 rfl) ?_
    refine va_get (D := D) (ci := 6) (v := .int k_place) (C := RX8) (T := TX8) (N := 6) hx hb hts fin_X8 hown hG.1 hP 0 ce_k_0 vq_6 1 (by decide) (hts _ wm_232) (fun _ h9 => h9) rfl dX8_step_52 ?_
    refine va_put (D := D) (ci := 6) (v := .int k_place) (ty := .int) (C := RX8) (T := TX8) (N := 6) hx hb hts fin_X8 tyX8 tyX8_ok nmX8 hown hG.1 hP hD hS 0 ce_k_0 vq_6 4 (by decide) (hts _ wm_238) (fun _ h9 => h9) rfl (tyX8_ok 4 (by decide)) rfl rfl (Nat.le_of_ble_eq_true rfl) dX8_step_55 (fun H locs hP _ hS => ?_)
    have hP : va_P D vwCl (wd_k a_k a_k_bytes cI cB cT k_size k_place (0 : Int32) k_number k_place k_bytes) H := va_P_eq se_k_k_behind hP
    have hD : va_D A (wd_k a_k a_k_bytes cI cB cT k_size k_place (0 : Int32) k_number k_place k_bytes) := va_D_fst fs_k hD
    refine lv_goto (tgt := 157) hx hb dX8_step_58 (by decide) ?_
    obtain rfl := Option.some.inj hf
    exact wr_vret CF hr hlk hP hS dX8_step_157
set_option maxHeartbeats 4000000 in
set_option maxRecDepth 100000 in
theorem c_X8_step (l : Launch) (D : va_G) (cI cB cT : ClassId) (sz : Nat) (a_k a_k_bytes : Nat) (k_size : Int32) (k_place : Int32) (k_sort : Int32) (k_number : Int32) (k_behind : Int32) (k_bytes : (Nat → Int32)) {z : Int32 × Int32 × Int32 × Int32} (hf : f_X8_step k_size k_number k_behind k_bytes = some z) :
    Met l yX8_step (Cond.code yX8_step cX8_step 2 none :: wsAll) rm_X8_step (Pwr [.ref a_k] D cI cB cT (wd_k a_k a_k_bytes cI cB cT k_size k_place k_sort k_number k_behind k_bytes) sz) (Qw none D (wd_k a_k a_k_bytes cI cB cT k_size z.1 z.2.1 z.2.2.1 z.2.2.2 k_bytes) (va_A (wd_k a_k a_k_bytes cI cB cT k_size k_place k_sort k_number k_behind k_bytes) sz)) 0 0 (va_A (wd_k a_k a_k_bytes cI cB cT k_size k_place k_sort k_number k_behind k_bytes) sz) := by
  refine wr_intro RX8 (by decide +kernel) rfl (Nat.le_of_ble_eq_true rfl) ?_
  intro p e s m below meth c ls A H locs CF hr hlk hG hP hD hS hA hl
  have hl : lv_has ls 2 [(0, .ref a_k)] := hl
  obtain ⟨hx, hb, hml, hown, hts⟩ := id CF
  unfold f_X8_step at hf
  refine lv_aload_n hx hb dX8_step_0 rfl (lv_at hl 0 rfl) ?_
  refine lv_aload_n hx hb dX8_step_1 rfl (lv_at hl 0 rfl) ?_
  refine lv_aload_n hx hb dX8_step_2 rfl (lv_at hl 0 rfl) ?_
  refine va_get (D := D) (ci := 6) (v := .int k_behind) (C := RX8) (T := TX8) (N := 6) hx hb hts fin_X8 hown hG.1 hP 0 ce_k_0 vq_6 4 (by decide) (hts _ wm_238) (fun _ h9 => h9) rfl dX8_step_3 ?_
  refine lv_bipush (v := (32 : Int32)) hx hb dX8_step_6 (by decide) ?_
  refine lv_bipush (v := (32 : Int32)) hx hb dX8_step_8 (by decide) ?_
  obtain ⟨o1, e2, hf⟩ := lp_bind hf
  refine ro_Vi (x := o1) (As := [.int k_behind, .int (32 : Int32), .int (32 : Int32)]) (rest := [.ref a_k]) CF (c_X8_endOfRun l D cI cB cT a_k a_k_bytes k_size k_place k_sort k_number k_behind k_bytes k_behind (32 : Int32) (32 : Int32) e2) ok_X8_endOfRun wm_417 ⟨rfl, rfl, Nat.le_of_ble_eq_true rfl, Nat.le_of_ble_eq_true rfl⟩ hG hP 0 6 vq_6 rfl ce_k_0 rfl hl.1 rfl (Nat.le_of_ble_eq_true rfl) ⟨Nat.zero_le _, Nat.zero_le _⟩ dX8_step_10 ?_
  refine va_put (D := D) (ci := 6) (v := .int o1) (ty := .int) (C := RX8) (T := TX8) (N := 6) hx hb hts fin_X8 tyX8 tyX8_ok nmX8 hown hG.1 hP hD hS 0 ce_k_0 vq_6 1 (by decide) (hts _ wm_232) (fun _ h9 => h9) rfl (tyX8_ok 1 (by decide)) rfl rfl (Nat.le_of_ble_eq_true rfl) dX8_step_13 (fun H locs hP _ hS => ?_)
  have hP : va_P D vwCl (wd_k a_k a_k_bytes cI cB cT k_size o1 k_sort k_number k_behind k_bytes) H := va_P_eq se_k_k_place hP
  have hD : va_D A (wd_k a_k a_k_bytes cI cB cT k_size o1 k_sort k_number k_behind k_bytes) := va_D_fst fs_k hD
  refine lv_aload_n hx hb dX8_step_16 rfl (lv_at hl 0 rfl) ?_
  refine va_get (D := D) (ci := 6) (v := .int o1) (C := RX8) (T := TX8) (N := 6) hx hb hts fin_X8 hown hG.1 hP 0 ce_k_0 vq_6 1 (by decide) (hts _ wm_232) (fun _ h9 => h9) rfl dX8_step_17 ?_
  refine lv_aload_n hx hb dX8_step_20 rfl (lv_at hl 0 rfl) ?_
  refine va_get (D := D) (ci := 6) (v := .int k_size) (C := RX8) (T := TX8) (N := 6) hx hb hts fin_X8 hown hG.1 hP 0 ce_k_0 vq_6 0 (by decide) (hts _ wm_230) (fun _ h9 => h9) rfl dX8_step_21 ?_
  refine lv_icmp_ge (tgt := 39) hx hb dX8_step_24 (by decide) (fun c3 => ?_) (fun c3 => ?_)
  · have hf := tk c3 hf
    refine lv_iconst (v := (-1 : Int32)) hx hb dX8_step_39 (by decide) ?_
    exact J_X8_step_40_W CF hG hA hr hlk hP hD hS (lv_sub hl [0] rfl) hf
  · have hf := fk c3 hf
    refine lv_aload_n hx hb dX8_step_27 rfl (lv_at hl 0 rfl) ?_
    refine va_get (D := D) (ci := 6) (v := .ref a_k_bytes) (C := RX8) (T := TX8) (N := 6) hx hb hts fin_X8 hown hG.1 hP 0 ce_k_0 vq_6 5 (by decide) (hts _ wm_239) (fun _ h9 => h9) rfl dX8_step_28 ?_
    refine lv_aload_n hx hb dX8_step_31 rfl (lv_at hl 0 rfl) ?_
    refine va_get (D := D) (ci := 6) (v := .int o1) (C := RX8) (T := TX8) (N := 6) hx hb hts fin_X8 hown hG.1 hP 0 ce_k_0 vq_6 1 (by decide) (hts _ wm_232) (fun _ h9 => h9) rfl dX8_step_32 ?_
    obtain ⟨n16, hf⟩ := nk hf
    refine va_bald (f := k_bytes) hx hb hG.1 hP 1 1 ce_k_1 rfl n16 dX8_step_35 ?_
    refine lv_goto (tgt := 40) hx hb dX8_step_36 (by decide) ?_
    exact J_X8_step_40_W CF hG hA hr hlk hP hD hS (lv_sub hl [0] rfl) hf
end M_X8_step
section M_X4_stepToNumber
variable {p : Program} {l : Launch} {e : Env} {s : State} {m : MethodId} {args : Array Value} {below : List Frame} {meth : Method} {c : Code} {Q : State → Prop} {A : Nat → Prop} {D : va_G} {cI cB cT : ClassId}
variable {a_r a_d a_d_w a_d_w_codes a_d_w_masks a_d_w_alike a_d_w_havers a_d_g a_d_n a_d_n_cells a_d_m a_d_m_cells a_d_p a_d_p_cells a_k a_k_bytes : Nat}
def rm_X4_stepToNumber : Room := { frames := 2, cells := 0, slots := 0, locals := 45 }
def f_X4_stepToNumber (k_size : Int32) (k_number : Int32) (k_behind : Int32) (k_bytes : (Nat → Int32)) (p1 : Int32) : Option (Int32 × Int32 × Int32 × Int32 × Int32) := ((f_X8_step k_size k_number k_behind k_bytes).bind fun o1 => (if o1.2.1 = (2 : Int32) then (if p1 ≤ o1.2.2.1 then some ((0 : Int32), o1.1, o1.2.1, o1.2.2.1, o1.2.2.2) else some ((1 : Int32), o1.1, o1.2.1, o1.2.2.1, o1.2.2.2)) else some ((0 : Int32), o1.1, o1.2.1, o1.2.2.1, o1.2.2.2)))
set_option maxHeartbeats 4000000 in
set_option maxRecDepth 100000 in
theorem c_X4_stepToNumber (l : Launch) (D : va_G) (cI cB cT : ClassId) (sz : Nat) (a_r a_d a_d_w a_d_w_codes a_d_w_masks a_d_w_alike a_d_w_havers a_d_g a_d_n a_d_n_cells a_d_m a_d_m_cells a_d_p a_d_p_cells a_k a_k_bytes : Nat) (d_kind : Int32) (d_secret : Int32) (d_w_size : Int32) (d_w_codes : (Nat → Int32)) (d_w_masks : (Nat → Int32)) (d_w_alike : (Nat → Int32)) (d_w_havers : (Nat → Int32)) (d_g_left : Int32) (d_g_guessed : Int32) (d_g_wrong : Int32) (d_n_size : Int32) (d_n_cells : (Nat → Int32)) (d_m_size : Int32) (d_m_cells : (Nat → Int32)) (d_p_size : Int32) (d_p_cells : (Nat → Int32)) (k_size : Int32) (k_place : Int32) (k_sort : Int32) (k_number : Int32) (k_behind : Int32) (k_bytes : (Nat → Int32)) (p1 : Int32) {z : Int32 × Int32 × Int32 × Int32 × Int32} (hf : f_X4_stepToNumber k_size k_number k_behind k_bytes p1 = some z) :
    Met l yX4_stepToNumber (Cond.code yX4_stepToNumber cX4_stepToNumber 2 (some .boolean) :: wsAll) rm_X4_stepToNumber (Pwr [.ref a_r, .int p1] D cI cB cT (wd_r a_r a_d a_d_w a_d_w_codes a_d_w_masks a_d_w_alike a_d_w_havers a_d_g a_d_n a_d_n_cells a_d_m a_d_m_cells a_d_p a_d_p_cells a_k a_k_bytes cI cB cT d_kind d_secret d_w_size d_w_codes d_w_masks d_w_alike d_w_havers d_g_left d_g_guessed d_g_wrong d_n_size d_n_cells d_m_size d_m_cells d_p_size d_p_cells k_size k_place k_sort k_number k_behind k_bytes) sz) (Qw (some (.int z.1)) D (wd_r a_r a_d a_d_w a_d_w_codes a_d_w_masks a_d_w_alike a_d_w_havers a_d_g a_d_n a_d_n_cells a_d_m a_d_m_cells a_d_p a_d_p_cells a_k a_k_bytes cI cB cT d_kind d_secret d_w_size d_w_codes d_w_masks d_w_alike d_w_havers d_g_left d_g_guessed d_g_wrong d_n_size d_n_cells d_m_size d_m_cells d_p_size d_p_cells k_size z.2.1 z.2.2.1 z.2.2.2.1 z.2.2.2.2 k_bytes) (va_A (wd_r a_r a_d a_d_w a_d_w_codes a_d_w_masks a_d_w_alike a_d_w_havers a_d_g a_d_n a_d_n_cells a_d_m a_d_m_cells a_d_p a_d_p_cells a_k a_k_bytes cI cB cT d_kind d_secret d_w_size d_w_codes d_w_masks d_w_alike d_w_havers d_g_left d_g_guessed d_g_wrong d_n_size d_n_cells d_m_size d_m_cells d_p_size d_p_cells k_size k_place k_sort k_number k_behind k_bytes) sz)) 0 0 (va_A (wd_r a_r a_d a_d_w a_d_w_codes a_d_w_masks a_d_w_alike a_d_w_havers a_d_g a_d_n a_d_n_cells a_d_m a_d_m_cells a_d_p a_d_p_cells a_k a_k_bytes cI cB cT d_kind d_secret d_w_size d_w_codes d_w_masks d_w_alike d_w_havers d_g_left d_g_guessed d_g_wrong d_n_size d_n_cells d_m_size d_m_cells d_p_size d_p_cells k_size k_place k_sort k_number k_behind k_bytes) sz) := by
  refine wr_intro RX4 (by decide +kernel) rfl (Nat.le_of_ble_eq_true rfl) ?_
  intro p e s m below meth c ls A H locs CF hr hlk hG hP hD hS hA hl
  have hl : lv_has ls 2 [(0, .ref a_r), (1, .int p1)] := hl
  obtain ⟨hx, hb, hml, hown, hts⟩ := id CF
  unfold f_X4_stepToNumber at hf
  refine lv_aload_n hx hb dX4_stepToNumber_0 rfl (lv_at hl 0 rfl) ?_
  refine va_get (D := D) (ci := 2) (v := .ref a_k) (C := RX4) (T := TX4) (N := 2) hx hb hts fin_X4 hown hG.1 hP 0 ce_r_0 vq_2 0 (by decide) (hts _ wm_256) (fun _ h9 => h9) rfl dX4_stepToNumber_1 ?_
  obtain ⟨o1, e2, hf⟩ := lp_bind hf
  have hPc : va_P D vwCl (wd_k a_k a_k_bytes cI cB cT k_size k_place k_sort k_number k_behind k_bytes) H := su_13 hP
  refine wr_Vv (ws' := (wd_r a_r a_d a_d_w a_d_w_codes a_d_w_masks a_d_w_alike a_d_w_havers a_d_g a_d_n a_d_n_cells a_d_m a_d_m_cells a_d_p a_d_p_cells a_k a_k_bytes cI cB cT d_kind d_secret d_w_size d_w_codes d_w_masks d_w_alike d_w_havers d_g_left d_g_guessed d_g_wrong d_n_size d_n_cells d_m_size d_m_cells d_p_size d_p_cells k_size o1.1 o1.2.1 o1.2.2.1 o1.2.2.2 k_bytes)) (As := []) (rest := []) CF (c_X8_step l D cI cB cT H.size a_k a_k_bytes k_size k_place k_sort k_number k_behind k_bytes e2) ok_X8_step wm_413 ⟨rfl, rfl, Nat.le_of_ble_eq_true rfl, Nat.le_of_ble_eq_true rfl⟩ hG hP hD hS hA [14, 15] hPc rfl hc_13 rfl pb_13 fs_r 0 6 vq_6 rfl ce_k_0 rfl hl.1 rfl (Nat.le_of_ble_eq_true rfl) ⟨Nat.zero_le _, Nat.zero_le _⟩ dX4_stepToNumber_4 (fun H locs hP hD hS => ?_)
  refine lv_aload_n hx hb dX4_stepToNumber_7 rfl (lv_at hl 0 rfl) ?_
  refine va_get (D := D) (ci := 2) (v := .ref a_k) (C := RX4) (T := TX4) (N := 2) hx hb hts fin_X4 hown hG.1 hP 0 ce_r_0 vq_2 0 (by decide) (hts _ wm_256) (fun _ h9 => h9) rfl dX4_stepToNumber_8 ?_
  refine va_get (D := D) (ci := 6) (v := .int o1.2.1) (C := RX8) (T := TX8) (N := 6) hx hb hts fin_X8 hown hG.1 hP 14 ce_r_14 vq_6 2 (by decide) (hts _ wm_234) (fun _ h9 => h9) rfl dX4_stepToNumber_11 ?_
  refine lv_iconst (v := (2 : Int32)) hx hb dX4_stepToNumber_14 (by decide) ?_
  refine lv_icmp_ne (tgt := 33) hx hb dX4_stepToNumber_15 (by decide) (fun c3 => ?_) (fun c3 => ?_)
  · have hf := fk c3 hf
    refine lv_iconst (v := (0 : Int32)) hx hb dX4_stepToNumber_33 (by decide) ?_
    obtain rfl := Option.some.inj hf
    exact wr_zret CF hr hlk (Or.inl rfl) hP hS dX4_stepToNumber_34
  · have hf := tk c3 hf
    refine lv_aload_n hx hb dX4_stepToNumber_18 rfl (lv_at hl 0 rfl) ?_
    refine va_get (D := D) (ci := 2) (v := .ref a_k) (C := RX4) (T := TX4) (N := 2) hx hb hts fin_X4 hown hG.1 hP 0 ce_r_0 vq_2 0 (by decide) (hts _ wm_256) (fun _ h9 => h9) rfl dX4_stepToNumber_19 ?_
    refine va_get (D := D) (ci := 6) (v := .int o1.2.2.1) (C := RX8) (T := TX8) (N := 6) hx hb hts fin_X8 hown hG.1 hP 14 ce_r_14 vq_6 3 (by decide) (hts _ wm_236) (fun _ h9 => h9) rfl dX4_stepToNumber_22 ?_
    refine lv_iload_n hx hb dX4_stepToNumber_25 rfl (lv_at hl 1 rfl) ?_
    refine lv_icmp_ge (tgt := 33) hx hb dX4_stepToNumber_26 (by decide) (fun c4 => ?_) (fun c4 => ?_)
    · have hf := tk c4 hf
      refine lv_iconst (v := (0 : Int32)) hx hb dX4_stepToNumber_33 (by decide) ?_
      obtain rfl := Option.some.inj hf
      exact wr_zret CF hr hlk (Or.inl rfl) hP hS dX4_stepToNumber_34
    · have hf := fk c4 hf
      refine lv_iconst (v := (1 : Int32)) hx hb dX4_stepToNumber_29 (by decide) ?_
      refine lv_goto (tgt := 34) hx hb dX4_stepToNumber_30 (by decide) ?_
      obtain rfl := Option.some.inj hf
      exact wr_zret CF hr hlk (Or.inr rfl) hP hS dX4_stepToNumber_34
end M_X4_stepToNumber
section M_X4_stepToClose
variable {p : Program} {l : Launch} {e : Env} {s : State} {m : MethodId} {args : Array Value} {below : List Frame} {meth : Method} {c : Code} {Q : State → Prop} {A : Nat → Prop} {D : va_G} {cI cB cT : ClassId}
variable {a_r a_d a_d_w a_d_w_codes a_d_w_masks a_d_w_alike a_d_w_havers a_d_g a_d_n a_d_n_cells a_d_m a_d_m_cells a_d_p a_d_p_cells a_k a_k_bytes : Nat}
def rm_X4_stepToClose : Room := { frames := 2, cells := 0, slots := 0, locals := 45 }
def f_X4_stepToClose (k_size : Int32) (k_number : Int32) (k_behind : Int32) (k_bytes : (Nat → Int32)) : Option (Int32 × Int32 × Int32 × Int32 × Int32) := ((f_X8_step k_size k_number k_behind k_bytes).bind fun o1 => (if o1.2.1 = (3 : Int32) then some ((1 : Int32), o1.1, o1.2.1, o1.2.2.1, o1.2.2.2) else some ((0 : Int32), o1.1, o1.2.1, o1.2.2.1, o1.2.2.2)))
set_option maxHeartbeats 4000000 in
set_option maxRecDepth 100000 in
theorem c_X4_stepToClose (l : Launch) (D : va_G) (cI cB cT : ClassId) (sz : Nat) (a_r a_d a_d_w a_d_w_codes a_d_w_masks a_d_w_alike a_d_w_havers a_d_g a_d_n a_d_n_cells a_d_m a_d_m_cells a_d_p a_d_p_cells a_k a_k_bytes : Nat) (d_kind : Int32) (d_secret : Int32) (d_w_size : Int32) (d_w_codes : (Nat → Int32)) (d_w_masks : (Nat → Int32)) (d_w_alike : (Nat → Int32)) (d_w_havers : (Nat → Int32)) (d_g_left : Int32) (d_g_guessed : Int32) (d_g_wrong : Int32) (d_n_size : Int32) (d_n_cells : (Nat → Int32)) (d_m_size : Int32) (d_m_cells : (Nat → Int32)) (d_p_size : Int32) (d_p_cells : (Nat → Int32)) (k_size : Int32) (k_place : Int32) (k_sort : Int32) (k_number : Int32) (k_behind : Int32) (k_bytes : (Nat → Int32)) {z : Int32 × Int32 × Int32 × Int32 × Int32} (hf : f_X4_stepToClose k_size k_number k_behind k_bytes = some z) :
    Met l yX4_stepToClose (Cond.code yX4_stepToClose cX4_stepToClose 1 (some .boolean) :: wsAll) rm_X4_stepToClose (Pwr [.ref a_r] D cI cB cT (wd_r a_r a_d a_d_w a_d_w_codes a_d_w_masks a_d_w_alike a_d_w_havers a_d_g a_d_n a_d_n_cells a_d_m a_d_m_cells a_d_p a_d_p_cells a_k a_k_bytes cI cB cT d_kind d_secret d_w_size d_w_codes d_w_masks d_w_alike d_w_havers d_g_left d_g_guessed d_g_wrong d_n_size d_n_cells d_m_size d_m_cells d_p_size d_p_cells k_size k_place k_sort k_number k_behind k_bytes) sz) (Qw (some (.int z.1)) D (wd_r a_r a_d a_d_w a_d_w_codes a_d_w_masks a_d_w_alike a_d_w_havers a_d_g a_d_n a_d_n_cells a_d_m a_d_m_cells a_d_p a_d_p_cells a_k a_k_bytes cI cB cT d_kind d_secret d_w_size d_w_codes d_w_masks d_w_alike d_w_havers d_g_left d_g_guessed d_g_wrong d_n_size d_n_cells d_m_size d_m_cells d_p_size d_p_cells k_size z.2.1 z.2.2.1 z.2.2.2.1 z.2.2.2.2 k_bytes) (va_A (wd_r a_r a_d a_d_w a_d_w_codes a_d_w_masks a_d_w_alike a_d_w_havers a_d_g a_d_n a_d_n_cells a_d_m a_d_m_cells a_d_p a_d_p_cells a_k a_k_bytes cI cB cT d_kind d_secret d_w_size d_w_codes d_w_masks d_w_alike d_w_havers d_g_left d_g_guessed d_g_wrong d_n_size d_n_cells d_m_size d_m_cells d_p_size d_p_cells k_size k_place k_sort k_number k_behind k_bytes) sz)) 0 0 (va_A (wd_r a_r a_d a_d_w a_d_w_codes a_d_w_masks a_d_w_alike a_d_w_havers a_d_g a_d_n a_d_n_cells a_d_m a_d_m_cells a_d_p a_d_p_cells a_k a_k_bytes cI cB cT d_kind d_secret d_w_size d_w_codes d_w_masks d_w_alike d_w_havers d_g_left d_g_guessed d_g_wrong d_n_size d_n_cells d_m_size d_m_cells d_p_size d_p_cells k_size k_place k_sort k_number k_behind k_bytes) sz) := by
  refine wr_intro RX4 (by decide +kernel) rfl (Nat.le_of_ble_eq_true rfl) ?_
  intro p e s m below meth c ls A H locs CF hr hlk hG hP hD hS hA hl
  have hl : lv_has ls 1 [(0, .ref a_r)] := hl
  obtain ⟨hx, hb, hml, hown, hts⟩ := id CF
  unfold f_X4_stepToClose at hf
  refine lv_aload_n hx hb dX4_stepToClose_0 rfl (lv_at hl 0 rfl) ?_
  refine va_get (D := D) (ci := 2) (v := .ref a_k) (C := RX4) (T := TX4) (N := 2) hx hb hts fin_X4 hown hG.1 hP 0 ce_r_0 vq_2 0 (by decide) (hts _ wm_256) (fun _ h9 => h9) rfl dX4_stepToClose_1 ?_
  obtain ⟨o1, e2, hf⟩ := lp_bind hf
  have hPc : va_P D vwCl (wd_k a_k a_k_bytes cI cB cT k_size k_place k_sort k_number k_behind k_bytes) H := su_13 hP
  refine wr_Vv (ws' := (wd_r a_r a_d a_d_w a_d_w_codes a_d_w_masks a_d_w_alike a_d_w_havers a_d_g a_d_n a_d_n_cells a_d_m a_d_m_cells a_d_p a_d_p_cells a_k a_k_bytes cI cB cT d_kind d_secret d_w_size d_w_codes d_w_masks d_w_alike d_w_havers d_g_left d_g_guessed d_g_wrong d_n_size d_n_cells d_m_size d_m_cells d_p_size d_p_cells k_size o1.1 o1.2.1 o1.2.2.1 o1.2.2.2 k_bytes)) (As := []) (rest := []) CF (c_X8_step l D cI cB cT H.size a_k a_k_bytes k_size k_place k_sort k_number k_behind k_bytes e2) ok_X8_step wm_413 ⟨rfl, rfl, Nat.le_of_ble_eq_true rfl, Nat.le_of_ble_eq_true rfl⟩ hG hP hD hS hA [14, 15] hPc rfl hc_13 rfl pb_13 fs_r 0 6 vq_6 rfl ce_k_0 rfl hl.1 rfl (Nat.le_of_ble_eq_true rfl) ⟨Nat.zero_le _, Nat.zero_le _⟩ dX4_stepToClose_4 (fun H locs hP hD hS => ?_)
  refine lv_aload_n hx hb dX4_stepToClose_7 rfl (lv_at hl 0 rfl) ?_
  refine va_get (D := D) (ci := 2) (v := .ref a_k) (C := RX4) (T := TX4) (N := 2) hx hb hts fin_X4 hown hG.1 hP 0 ce_r_0 vq_2 0 (by decide) (hts _ wm_256) (fun _ h9 => h9) rfl dX4_stepToClose_8 ?_
  refine va_get (D := D) (ci := 6) (v := .int o1.2.1) (C := RX8) (T := TX8) (N := 6) hx hb hts fin_X8 hown hG.1 hP 14 ce_r_14 vq_6 2 (by decide) (hts _ wm_234) (fun _ h9 => h9) rfl dX4_stepToClose_11 ?_
  refine lv_iconst (v := (3 : Int32)) hx hb dX4_stepToClose_14 (by decide) ?_
  refine lv_icmp_ne (tgt := 22) hx hb dX4_stepToClose_15 (by decide) (fun c3 => ?_) (fun c3 => ?_)
  · have hf := fk c3 hf
    refine lv_iconst (v := (0 : Int32)) hx hb dX4_stepToClose_22 (by decide) ?_
    obtain rfl := Option.some.inj hf
    exact wr_zret CF hr hlk (Or.inl rfl) hP hS dX4_stepToClose_23
  · have hf := tk c3 hf
    refine lv_iconst (v := (1 : Int32)) hx hb dX4_stepToClose_18 (by decide) ?_
    refine lv_goto (tgt := 23) hx hb dX4_stepToClose_19 (by decide) ?_
    obtain rfl := Option.some.inj hf
    exact wr_zret CF hr hlk (Or.inr rfl) hP hS dX4_stepToClose_23
end M_X4_stepToClose
section M_X4_readKind
variable {p : Program} {l : Launch} {e : Env} {s : State} {m : MethodId} {args : Array Value} {below : List Frame} {meth : Method} {c : Code} {Q : State → Prop} {A : Nat → Prop} {D : va_G} {cI cB cT : ClassId}
variable {a_r a_d a_d_w a_d_w_codes a_d_w_masks a_d_w_alike a_d_w_havers a_d_g a_d_n a_d_n_cells a_d_m a_d_m_cells a_d_p a_d_p_cells a_k a_k_bytes : Nat}
def rm_X4_readKind : Room := { frames := 3, cells := 0, slots := 0, locals := 66 }
def f_X4_readKind (d_kind : Int32) (k_size : Int32) (k_number : Int32) (k_behind : Int32) (k_bytes : (Nat → Int32)) : Option (Int32 × Int32 × Int32 × Int32 × Int32 × Int32) := ((f_X4_stepToNumber k_size k_number k_behind k_bytes (6 : Int32)).bind fun o1 => (if o1.1 = 0 then some ((0 : Int32), d_kind, o1.2.1, o1.2.2.1, o1.2.2.2.1, o1.2.2.2.2) else ((f_X4_stepToClose k_size o1.2.2.2.1 o1.2.2.2.2 k_bytes).bind fun o4 => (if (o4.1 = 0 ∨ o4.1 = 1) then some (o4.1, o1.2.2.2.1, o4.2.1, o4.2.2.1, o4.2.2.2.1, o4.2.2.2.2) else none))))
set_option maxHeartbeats 4000000 in
set_option maxRecDepth 100000 in
theorem c_X4_readKind (l : Launch) (D : va_G) (cI cB cT : ClassId) (sz : Nat) (a_r a_d a_d_w a_d_w_codes a_d_w_masks a_d_w_alike a_d_w_havers a_d_g a_d_n a_d_n_cells a_d_m a_d_m_cells a_d_p a_d_p_cells a_k a_k_bytes : Nat) (d_kind : Int32) (d_secret : Int32) (d_w_size : Int32) (d_w_codes : (Nat → Int32)) (d_w_masks : (Nat → Int32)) (d_w_alike : (Nat → Int32)) (d_w_havers : (Nat → Int32)) (d_g_left : Int32) (d_g_guessed : Int32) (d_g_wrong : Int32) (d_n_size : Int32) (d_n_cells : (Nat → Int32)) (d_m_size : Int32) (d_m_cells : (Nat → Int32)) (d_p_size : Int32) (d_p_cells : (Nat → Int32)) (k_size : Int32) (k_place : Int32) (k_sort : Int32) (k_number : Int32) (k_behind : Int32) (k_bytes : (Nat → Int32)) {z : Int32 × Int32 × Int32 × Int32 × Int32 × Int32} (hf : f_X4_readKind d_kind k_size k_number k_behind k_bytes = some z) :
    Met l yX4_readKind (Cond.code yX4_readKind cX4_readKind 1 (some .boolean) :: wsAll) rm_X4_readKind (Pwr [.ref a_r] D cI cB cT (wd_r a_r a_d a_d_w a_d_w_codes a_d_w_masks a_d_w_alike a_d_w_havers a_d_g a_d_n a_d_n_cells a_d_m a_d_m_cells a_d_p a_d_p_cells a_k a_k_bytes cI cB cT d_kind d_secret d_w_size d_w_codes d_w_masks d_w_alike d_w_havers d_g_left d_g_guessed d_g_wrong d_n_size d_n_cells d_m_size d_m_cells d_p_size d_p_cells k_size k_place k_sort k_number k_behind k_bytes) sz) (Qw (some (.int z.1)) D (wd_r a_r a_d a_d_w a_d_w_codes a_d_w_masks a_d_w_alike a_d_w_havers a_d_g a_d_n a_d_n_cells a_d_m a_d_m_cells a_d_p a_d_p_cells a_k a_k_bytes cI cB cT z.2.1 d_secret d_w_size d_w_codes d_w_masks d_w_alike d_w_havers d_g_left d_g_guessed d_g_wrong d_n_size d_n_cells d_m_size d_m_cells d_p_size d_p_cells k_size z.2.2.1 z.2.2.2.1 z.2.2.2.2.1 z.2.2.2.2.2 k_bytes) (va_A (wd_r a_r a_d a_d_w a_d_w_codes a_d_w_masks a_d_w_alike a_d_w_havers a_d_g a_d_n a_d_n_cells a_d_m a_d_m_cells a_d_p a_d_p_cells a_k a_k_bytes cI cB cT d_kind d_secret d_w_size d_w_codes d_w_masks d_w_alike d_w_havers d_g_left d_g_guessed d_g_wrong d_n_size d_n_cells d_m_size d_m_cells d_p_size d_p_cells k_size k_place k_sort k_number k_behind k_bytes) sz)) 0 0 (va_A (wd_r a_r a_d a_d_w a_d_w_codes a_d_w_masks a_d_w_alike a_d_w_havers a_d_g a_d_n a_d_n_cells a_d_m a_d_m_cells a_d_p a_d_p_cells a_k a_k_bytes cI cB cT d_kind d_secret d_w_size d_w_codes d_w_masks d_w_alike d_w_havers d_g_left d_g_guessed d_g_wrong d_n_size d_n_cells d_m_size d_m_cells d_p_size d_p_cells k_size k_place k_sort k_number k_behind k_bytes) sz) := by
  refine wr_intro RX4 (by decide +kernel) rfl (Nat.le_of_ble_eq_true rfl) ?_
  intro p e s m below meth c ls A H locs CF hr hlk hG hP hD hS hA hl
  have hl : lv_has ls 1 [(0, .ref a_r)] := hl
  obtain ⟨hx, hb, hml, hown, hts⟩ := id CF
  unfold f_X4_readKind at hf
  refine lv_aload_n hx hb dX4_readKind_0 rfl (lv_at hl 0 rfl) ?_
  refine lv_bipush (v := (6 : Int32)) hx hb dX4_readKind_1 (by decide) ?_
  obtain ⟨o1, e2, hf⟩ := lp_bind hf
  refine wr_Wi (x := o1.1) (ws' := (wd_r a_r a_d a_d_w a_d_w_codes a_d_w_masks a_d_w_alike a_d_w_havers a_d_g a_d_n a_d_n_cells a_d_m a_d_m_cells a_d_p a_d_p_cells a_k a_k_bytes cI cB cT d_kind d_secret d_w_size d_w_codes d_w_masks d_w_alike d_w_havers d_g_left d_g_guessed d_g_wrong d_n_size d_n_cells d_m_size d_m_cells d_p_size d_p_cells k_size o1.2.1 o1.2.2.1 o1.2.2.2.1 o1.2.2.2.2 k_bytes)) (As := [.int (6 : Int32)]) (rest := []) CF (c_X4_stepToNumber l D cI cB cT H.size a_r a_d a_d_w a_d_w_codes a_d_w_masks a_d_w_alike a_d_w_havers a_d_g a_d_n a_d_n_cells a_d_m a_d_m_cells a_d_p a_d_p_cells a_k a_k_bytes d_kind d_secret d_w_size d_w_codes d_w_masks d_w_alike d_w_havers d_g_left d_g_guessed d_g_wrong d_n_size d_n_cells d_m_size d_m_cells d_p_size d_p_cells k_size k_place k_sort k_number k_behind k_bytes (6 : Int32) e2) ok_X4_stepToNumber wm_486 ⟨rfl, rfl, Nat.le_of_ble_eq_true rfl, Nat.le_of_ble_eq_true rfl⟩ hG hP hD hS hA fs_r 0 2 vq_2 rfl ce_r_0 rfl hl.1 rfl (Nat.le_of_ble_eq_true rfl) ⟨Nat.zero_le _, Nat.zero_le _⟩ dX4_readKind_3 (fun H locs hP hD hS => ?_)
  refine lv_if_ne (tgt := 11) hx hb dX4_readKind_6 (by decide) (fun c3 => ?_) (fun c3 => ?_)
  · have hf := fk c3 hf
    refine lv_aload_n hx hb dX4_readKind_11 rfl (lv_at hl 0 rfl) ?_
    refine va_get (D := D) (ci := 2) (v := .ref a_d) (C := RX4) (T := TX4) (N := 2) hx hb hts fin_X4 hown hG.1 hP 0 ce_r_0 vq_2 1 (by decide) (hts _ wm_258) (fun _ h9 => h9) rfl dX4_readKind_12 ?_
    refine lv_aload_n hx hb dX4_readKind_15 rfl (lv_at hl 0 rfl) ?_
    refine va_get (D := D) (ci := 2) (v := .ref a_k) (C := RX4) (T := TX4) (N := 2) hx hb hts fin_X4 hown hG.1 hP 0 ce_r_0 vq_2 0 (by decide) (hts _ wm_256) (fun _ h9 => h9) rfl dX4_readKind_16 ?_
    refine va_get (D := D) (ci := 6) (v := .int o1.2.2.2.1) (C := RX8) (T := TX8) (N := 6) hx hb hts fin_X8 hown hG.1 hP 14 ce_r_14 vq_6 3 (by decide) (hts _ wm_236) (fun _ h9 => h9) rfl dX4_readKind_19 ?_
    refine va_put (D := D) (ci := 5) (v := .int o1.2.2.2.1) (ty := .int) (C := RX7) (T := TX7) (N := 7) hx hb hts fin_X7 tyX7 tyX7_ok nmX7 hown hG.1 hP hD hS 1 ce_r_1 vq_5 5 (by decide) (hts _ wm_198) (fun _ h9 => h9) rfl (tyX7_ok 5 (by decide)) rfl rfl (Nat.le_of_ble_eq_true rfl) dX4_readKind_22 (fun H locs hP _ hS => ?_)
    have hP : va_P D vwCl (wd_r a_r a_d a_d_w a_d_w_codes a_d_w_masks a_d_w_alike a_d_w_havers a_d_g a_d_n a_d_n_cells a_d_m a_d_m_cells a_d_p a_d_p_cells a_k a_k_bytes cI cB cT o1.2.2.2.1 d_secret d_w_size d_w_codes d_w_masks d_w_alike d_w_havers d_g_left d_g_guessed d_g_wrong d_n_size d_n_cells d_m_size d_m_cells d_p_size d_p_cells k_size o1.2.1 o1.2.2.1 o1.2.2.2.1 o1.2.2.2.2 k_bytes) H := va_P_eq se_r_d_kind hP
    have hD : va_D A (wd_r a_r a_d a_d_w a_d_w_codes a_d_w_masks a_d_w_alike a_d_w_havers a_d_g a_d_n a_d_n_cells a_d_m a_d_m_cells a_d_p a_d_p_cells a_k a_k_bytes cI cB cT o1.2.2.2.1 d_secret d_w_size d_w_codes d_w_masks d_w_alike d_w_havers d_g_left d_g_guessed d_g_wrong d_n_size d_n_cells d_m_size d_m_cells d_p_size d_p_cells k_size o1.2.1 o1.2.2.1 o1.2.2.2.1 o1.2.2.2.2 k_bytes) := va_D_fst fs_r hD
    refine lv_aload_n hx hb dX4_readKind_25 rfl (lv_at hl 0 rfl) ?_
    obtain ⟨o4, e5, hf⟩ := lp_bind hf
    refine wr_Wi (x := o4.1) (ws' := (wd_r a_r a_d a_d_w a_d_w_codes a_d_w_masks a_d_w_alike a_d_w_havers a_d_g a_d_n a_d_n_cells a_d_m a_d_m_cells a_d_p a_d_p_cells a_k a_k_bytes cI cB cT o1.2.2.2.1 d_secret d_w_size d_w_codes d_w_masks d_w_alike d_w_havers d_g_left d_g_guessed d_g_wrong d_n_size d_n_cells d_m_size d_m_cells d_p_size d_p_cells k_size o4.2.1 o4.2.2.1 o4.2.2.2.1 o4.2.2.2.2 k_bytes)) (As := []) (rest := []) CF (c_X4_stepToClose l D cI cB cT H.size a_r a_d a_d_w a_d_w_codes a_d_w_masks a_d_w_alike a_d_w_havers a_d_g a_d_n a_d_n_cells a_d_m a_d_m_cells a_d_p a_d_p_cells a_k a_k_bytes o1.2.2.2.1 d_secret d_w_size d_w_codes d_w_masks d_w_alike d_w_havers d_g_left d_g_guessed d_g_wrong d_n_size d_n_cells d_m_size d_m_cells d_p_size d_p_cells k_size o1.2.1 o1.2.2.1 o1.2.2.2.1 o1.2.2.2.2 k_bytes e5) ok_X4_stepToClose wm_490 ⟨rfl, rfl, Nat.le_of_ble_eq_true rfl, Nat.le_of_ble_eq_true rfl⟩ hG hP hD hS hA fs_r 0 2 vq_2 rfl ce_r_0 rfl hl.1 rfl (Nat.le_of_ble_eq_true rfl) ⟨Nat.zero_le _, Nat.zero_le _⟩ dX4_readKind_26 (fun H locs hP hD hS => ?_)
    obtain ⟨n6, hf⟩ := yk hf
    obtain rfl := Option.some.inj hf
    exact wr_zret CF hr hlk n6 hP hS dX4_readKind_29
  · have hf := tk c3 hf
    refine lv_iconst (v := (0 : Int32)) hx hb dX4_readKind_9 (by decide) ?_
    obtain rfl := Option.some.inj hf
    exact wr_zret CF hr hlk (Or.inl rfl) hP hS dX4_readKind_10
end M_X4_readKind
section M_X4_readWord
variable {p : Program} {l : Launch} {e : Env} {s : State} {m : MethodId} {args : Array Value} {below : List Frame} {meth : Method} {c : Code} {Q : State → Prop} {A : Nat → Prop} {D : va_G} {cI cB cT : ClassId}
variable {a_r a_d a_d_w a_d_w_codes a_d_w_masks a_d_w_alike a_d_w_havers a_d_g a_d_n a_d_n_cells a_d_m a_d_m_cells a_d_p a_d_p_cells a_k a_k_bytes : Nat}
def rm_X4_readWord : Room := { frames := 4, cells := 0, slots := 0, locals := 92 }
def B_X4_readWord_34 (k_size : Int32) (k_bytes : (Nat → Int32)) (x1 : Int32) (x2 : Int32) (k_place : Int32) (k_sort : Int32) (k_number : Int32) (k_behind : Int32) : Option ((Int32 × Int32 × Int32 × Int32 × Int32 × Int32) ⊕ (Nat × Int32 × Int32 × Int32 × Int32 × Int32)) := (if (4 : Int32) ≤ x2 then some (Sum.inr (1, x1, k_place, k_sort, k_number, k_behind)) else ((f_X4_stepToNumber k_size k_number k_behind k_bytes (10 : Int32)).bind fun o4 => (if o4.1 = 0 then some (Sum.inr (0, x1, o4.2.1, o4.2.2.1, o4.2.2.2.1, o4.2.2.2.2)) else some (Sum.inl ((((10 : Int32) * x1) + o4.2.2.2.1), (x2 + (1 : Int32)), o4.2.1, o4.2.2.1, o4.2.2.2.1, o4.2.2.2.2)))))
def f_X4_readWord (d_w_size : Int32) (d_w_codes : (Nat → Int32)) (d_w_masks : (Nat → Int32)) (d_w_alike : (Nat → Int32)) (d_w_havers : (Nat → Int32)) (d_g_left : Int32) (d_g_guessed : Int32) (d_g_wrong : Int32) (d_p_size : Int32) (k_size : Int32) (k_place : Int32) (k_sort : Int32) (k_number : Int32) (k_behind : Int32) (k_bytes : (Nat → Int32)) : Option (Int32 × Int32 × (Nat → Int32) × (Nat → Int32) × (Nat → Int32) × (Nat → Int32) × Int32 × Int32 × Int32 × Int32 × Int32 × Int32 × Int32 × Int32) := (if (8 : Int32) ≤ d_w_size then some ((0 : Int32), d_w_size, d_w_codes, d_w_masks, d_w_alike, d_w_havers, d_g_left, d_g_guessed, d_g_wrong, d_p_size, k_place, k_sort, k_number, k_behind) else (if d_g_guessed = 0 then ((lp (fun v => B_X4_readWord_34 k_size k_bytes v.1 v.2.1 v.2.2.1 v.2.2.2.1 v.2.2.2.2.1 v.2.2.2.2.2) KN ((0 : Int32), (0 : Int32), k_place, k_sort, k_number, k_behind)).bind fun o7 => (if o7.1 = 0 then some ((0 : Int32), d_w_size, d_w_codes, d_w_masks, d_w_alike, d_w_havers, d_g_left, d_g_guessed, d_g_wrong, d_p_size, o7.2.2.1, o7.2.2.2.1, o7.2.2.2.2.1, o7.2.2.2.2.2) else ((f_X9_numberOf d_w_size d_w_codes o7.2.1).bind fun o9 => (if o9 = (-1 : Int32) then ((f_X7_addWord d_w_size d_w_codes d_w_masks d_w_alike d_w_havers o7.2.1).bind fun o12 => ((f_X4_stepToClose k_size o7.2.2.2.2.1 o7.2.2.2.2.2 k_bytes).bind fun o14 => (if (o14.1 = 0 ∨ o14.1 = 1) then some (o14.1, o12.1, o12.2.1, o12.2.2.1, o12.2.2.2.1, o12.2.2.2.2.1, o12.2.2.2.2.2.1, o12.2.2.2.2.2.2.1, o12.2.2.2.2.2.2.2.1, o12.2.2.2.2.2.2.2.2, o14.2.1, o14.2.2.1, o14.2.2.2.1, o14.2.2.2.2) else none))) else some ((0 : Int32), d_w_size, d_w_codes, d_w_masks, d_w_alike, d_w_havers, d_g_left, d_g_guessed, d_g_wrong, d_p_size, o7.2.2.1, o7.2.2.2.1, o7.2.2.2.2.1, o7.2.2.2.2.2))))) else some ((0 : Int32), d_w_size, d_w_codes, d_w_masks, d_w_alike, d_w_havers, d_g_left, d_g_guessed, d_g_wrong, d_p_size, k_place, k_sort, k_number, k_behind)))
set_option maxHeartbeats 4000000 in
set_option maxRecDepth 100000 in
theorem B_X4_readWord_34_W {d_kind : Int32} {d_secret : Int32} {d_w_size : Int32} {d_w_codes : (Nat → Int32)} {d_w_masks : (Nat → Int32)} {d_w_alike : (Nat → Int32)} {d_w_havers : (Nat → Int32)} {d_g_left : Int32} {d_g_guessed : Int32} {d_g_wrong : Int32} {d_n_size : Int32} {d_n_cells : (Nat → Int32)} {d_m_size : Int32} {d_m_cells : (Nat → Int32)} {d_p_size : Int32} {d_p_cells : (Nat → Int32)} {k_size : Int32} {k_place : Int32} {k_sort : Int32} {k_number : Int32} {k_behind : Int32} {k_bytes : (Nat → Int32)} {x1 : Int32} {x2 : Int32} (CF : CallFix p m c cX4_readWord 3 s args wsAll RX4) (hG : Gd D cI cB cT s) (hA : ∀ q : Nat, s.heap.size ≤ q → A q) {z : (Int32 × Int32 × Int32 × Int32 × Int32 × Int32) ⊕ (Nat × Int32 × Int32 × Int32 × Int32 × Int32)} {H : Heap} {locs : List Loc} (hk : ∀ (v' : Int32 × Int32 × Int32 × Int32 × Int32 × Int32) (H : Heap) (locs : List Loc) (ls : Array Slot), z = Sum.inl v' → va_P D vwCl (wd_r a_r a_d a_d_w a_d_w_codes a_d_w_masks a_d_w_alike a_d_w_havers a_d_g a_d_n a_d_n_cells a_d_m a_d_m_cells a_d_p a_d_p_cells a_k a_k_bytes cI cB cT d_kind d_secret d_w_size d_w_codes d_w_masks d_w_alike d_w_havers d_g_left d_g_guessed d_g_wrong d_n_size d_n_cells d_m_size d_m_cells d_p_size d_p_cells k_size (v'.2.2.1) (v'.2.2.2.1) (v'.2.2.2.2.1) (v'.2.2.2.2.2) k_bytes) H → va_D A (wd_r a_r a_d a_d_w a_d_w_codes a_d_w_masks a_d_w_alike a_d_w_havers a_d_g a_d_n a_d_n_cells a_d_m a_d_m_cells a_d_p a_d_p_cells a_k a_k_bytes cI cB cT d_kind d_secret d_w_size d_w_codes d_w_masks d_w_alike d_w_havers d_g_left d_g_guessed d_g_wrong d_n_size d_n_cells d_m_size d_m_cells d_p_size d_p_cells k_size (v'.2.2.1) (v'.2.2.2.1) (v'.2.2.2.2.1) (v'.2.2.2.2.2) k_bytes) → va_S A s.heap H locs → lv_has ls 3 [(0, .ref a_r), (1, .int (v'.1)), (2, .int (v'.2.1))] → W p l e rm_X4_readWord s m args below meth c H locs 0 0 Q (F0 m 34 ls [])) (hx0 : ∀ (o' : Nat × Int32 × Int32 × Int32 × Int32 × Int32) (H : Heap) (locs : List Loc) (ls : Array Slot), z = Sum.inr o' → o'.1 = 0 → va_P D vwCl (wd_r a_r a_d a_d_w a_d_w_codes a_d_w_masks a_d_w_alike a_d_w_havers a_d_g a_d_n a_d_n_cells a_d_m a_d_m_cells a_d_p a_d_p_cells a_k a_k_bytes cI cB cT d_kind d_secret d_w_size d_w_codes d_w_masks d_w_alike d_w_havers d_g_left d_g_guessed d_g_wrong d_n_size d_n_cells d_m_size d_m_cells d_p_size d_p_cells k_size (o'.2.2.1) (o'.2.2.2.1) (o'.2.2.2.2.1) (o'.2.2.2.2.2) k_bytes) H → va_D A (wd_r a_r a_d a_d_w a_d_w_codes a_d_w_masks a_d_w_alike a_d_w_havers a_d_g a_d_n a_d_n_cells a_d_m a_d_m_cells a_d_p a_d_p_cells a_k a_k_bytes cI cB cT d_kind d_secret d_w_size d_w_codes d_w_masks d_w_alike d_w_havers d_g_left d_g_guessed d_g_wrong d_n_size d_n_cells d_m_size d_m_cells d_p_size d_p_cells k_size (o'.2.2.1) (o'.2.2.2.1) (o'.2.2.2.2.1) (o'.2.2.2.2.2) k_bytes) → va_S A s.heap H locs → lv_has ls 3 [] → W p l e rm_X4_readWord s m args below meth c H locs 0 0 Q (F0 m 48 ls [])) (hx1 : ∀ (o' : Nat × Int32 × Int32 × Int32 × Int32 × Int32) (H : Heap) (locs : List Loc) (ls : Array Slot), z = Sum.inr o' → o'.1 = 1 → va_P D vwCl (wd_r a_r a_d a_d_w a_d_w_codes a_d_w_masks a_d_w_alike a_d_w_havers a_d_g a_d_n a_d_n_cells a_d_m a_d_m_cells a_d_p a_d_p_cells a_k a_k_bytes cI cB cT d_kind d_secret d_w_size d_w_codes d_w_masks d_w_alike d_w_havers d_g_left d_g_guessed d_g_wrong d_n_size d_n_cells d_m_size d_m_cells d_p_size d_p_cells k_size (o'.2.2.1) (o'.2.2.2.1) (o'.2.2.2.2.1) (o'.2.2.2.2.2) k_bytes) H → va_D A (wd_r a_r a_d a_d_w a_d_w_codes a_d_w_masks a_d_w_alike a_d_w_havers a_d_g a_d_n a_d_n_cells a_d_m a_d_m_cells a_d_p a_d_p_cells a_k a_k_bytes cI cB cT d_kind d_secret d_w_size d_w_codes d_w_masks d_w_alike d_w_havers d_g_left d_g_guessed d_g_wrong d_n_size d_n_cells d_m_size d_m_cells d_p_size d_p_cells k_size (o'.2.2.1) (o'.2.2.2.1) (o'.2.2.2.2.1) (o'.2.2.2.2.2) k_bytes) → va_S A s.heap H locs → lv_has ls 3 [(0, .ref a_r), (1, .int (o'.2.1))] → W p l e rm_X4_readWord s m args below meth c H locs 0 0 Q (F0 m 69 ls [])) {ls : Array Slot} (hP : va_P D vwCl (wd_r a_r a_d a_d_w a_d_w_codes a_d_w_masks a_d_w_alike a_d_w_havers a_d_g a_d_n a_d_n_cells a_d_m a_d_m_cells a_d_p a_d_p_cells a_k a_k_bytes cI cB cT d_kind d_secret d_w_size d_w_codes d_w_masks d_w_alike d_w_havers d_g_left d_g_guessed d_g_wrong d_n_size d_n_cells d_m_size d_m_cells d_p_size d_p_cells k_size k_place k_sort k_number k_behind k_bytes) H) (hD : va_D A (wd_r a_r a_d a_d_w a_d_w_codes a_d_w_masks a_d_w_alike a_d_w_havers a_d_g a_d_n a_d_n_cells a_d_m a_d_m_cells a_d_p a_d_p_cells a_k a_k_bytes cI cB cT d_kind d_secret d_w_size d_w_codes d_w_masks d_w_alike d_w_havers d_g_left d_g_guessed d_g_wrong d_n_size d_n_cells d_m_size d_m_cells d_p_size d_p_cells k_size k_place k_sort k_number k_behind k_bytes)) (hS : va_S A s.heap H locs) (hl : lv_has ls 3 [(0, .ref a_r), (1, .int x1), (2, .int x2)]) (hf : B_X4_readWord_34 k_size k_bytes x1 x2 k_place k_sort k_number k_behind = some z) : W p l e rm_X4_readWord s m args below meth c H locs 0 0 Q (F0 m 34 ls []) := by
  obtain ⟨hx, hb, hml, hown, hts⟩ := id CF
  unfold B_X4_readWord_34 at hf
  refine lv_iload_n hx hb dX4_readWord_34 rfl (lv_at hl 2 rfl) ?_
  refine lv_iconst (v := (4 : Int32)) hx hb dX4_readWord_35 (by decide) ?_
  refine lv_icmp_ge (tgt := 69) hx hb dX4_readWord_36 (by decide) (fun c3 => ?_) (fun c3 => ?_)
  · have hf := tk c3 hf
    exact hx1 _ _ _ _ (Option.some.inj hf).symm rfl hP hD hS (lv_sub hl [0, 1] rfl)
  · have hf := fk c3 hf
    refine lv_aload_n hx hb dX4_readWord_39 rfl (lv_at hl 0 rfl) ?_
    refine lv_bipush (v := (10 : Int32)) hx hb dX4_readWord_40 (by decide) ?_
    obtain ⟨o4, e5, hf⟩ := lp_bind hf
    refine wr_Wi (x := o4.1) (ws' := (wd_r a_r a_d a_d_w a_d_w_codes a_d_w_masks a_d_w_alike a_d_w_havers a_d_g a_d_n a_d_n_cells a_d_m a_d_m_cells a_d_p a_d_p_cells a_k a_k_bytes cI cB cT d_kind d_secret d_w_size d_w_codes d_w_masks d_w_alike d_w_havers d_g_left d_g_guessed d_g_wrong d_n_size d_n_cells d_m_size d_m_cells d_p_size d_p_cells k_size o4.2.1 o4.2.2.1 o4.2.2.2.1 o4.2.2.2.2 k_bytes)) (As := [.int (10 : Int32)]) (rest := []) CF (c_X4_stepToNumber l D cI cB cT H.size a_r a_d a_d_w a_d_w_codes a_d_w_masks a_d_w_alike a_d_w_havers a_d_g a_d_n a_d_n_cells a_d_m a_d_m_cells a_d_p a_d_p_cells a_k a_k_bytes d_kind d_secret d_w_size d_w_codes d_w_masks d_w_alike d_w_havers d_g_left d_g_guessed d_g_wrong d_n_size d_n_cells d_m_size d_m_cells d_p_size d_p_cells k_size k_place k_sort k_number k_behind k_bytes (10 : Int32) e5) ok_X4_stepToNumber wm_486 ⟨rfl, rfl, Nat.le_of_ble_eq_true rfl, Nat.le_of_ble_eq_true rfl⟩ hG hP hD hS hA fs_r 0 2 vq_2 rfl ce_r_0 rfl hl.1 rfl (Nat.le_of_ble_eq_true rfl) ⟨Nat.zero_le _, Nat.zero_le _⟩ dX4_readWord_42 (fun H locs hP hD hS => ?_)
    refine lv_if_ne (tgt := 50) hx hb dX4_readWord_45 (by decide) (fun c6 => ?_) (fun c6 => ?_)
    · have hf := fk c6 hf
      refine lv_bipush (v := (10 : Int32)) hx hb dX4_readWord_50 (by decide) ?_
      refine lv_iload_n hx hb dX4_readWord_52 rfl (lv_at hl 1 rfl) ?_
      refine lv_imul hx hb dX4_readWord_53 ?_
      refine lv_aload_n hx hb dX4_readWord_54 rfl (lv_at hl 0 rfl) ?_
      refine va_get (D := D) (ci := 2) (v := .ref a_k) (C := RX4) (T := TX4) (N := 2) hx hb hts fin_X4 hown hG.1 hP 0 ce_r_0 vq_2 0 (by decide) (hts _ wm_256) (fun _ h9 => h9) rfl dX4_readWord_55 ?_
      refine va_get (D := D) (ci := 6) (v := .int o4.2.2.2.1) (C := RX8) (T := TX8) (N := 6) hx hb hts fin_X8 hown hG.1 hP 14 ce_r_14 vq_6 3 (by decide) (hts _ wm_236) (fun _ h9 => h9) rfl dX4_readWord_58 ?_
      refine lv_iadd hx hb dX4_readWord_61 ?_
      refine lv_istore_n (lv' := [(1, .int (((10 : Int32) * x1) + o4.2.2.2.1)), (0, .ref a_r), (2, .int x2)]) hx hb dX4_readWord_62 rfl hl (by decide) rfl (fun ls hl => ?_)
      refine lv_iinc (v := (x2 + (1 : Int32))) (lv' := [(2, .int (x2 + (1 : Int32))), (1, .int (((10 : Int32) * x1) + o4.2.2.2.1)), (0, .ref a_r)]) hx hb dX4_readWord_63 hl (k := 2) rfl (iinc_eq (by decide)) (by decide) rfl (fun ls hl => ?_)
      refine lv_goto (tgt := 34) hx hb dX4_readWord_66 (by decide) ?_
      exact hk _ _ _ _ (Option.some.inj hf).symm hP hD hS (lv_sub hl [2, 1, 0] rfl)
    · have hf := tk c6 hf
      exact hx0 _ _ _ _ (Option.some.inj hf).symm rfl hP hD hS (lv_sub hl [] rfl)
set_option maxHeartbeats 4000000 in
set_option maxRecDepth 100000 in
theorem L_X4_readWord_34_W {d_kind : Int32} {d_secret : Int32} {d_w_size : Int32} {d_w_codes : (Nat → Int32)} {d_w_masks : (Nat → Int32)} {d_w_alike : (Nat → Int32)} {d_w_havers : (Nat → Int32)} {d_g_left : Int32} {d_g_guessed : Int32} {d_g_wrong : Int32} {d_n_size : Int32} {d_n_cells : (Nat → Int32)} {d_m_size : Int32} {d_m_cells : (Nat → Int32)} {d_p_size : Int32} {d_p_cells : (Nat → Int32)} {k_size : Int32} {k_bytes : (Nat → Int32)} (CF : CallFix p m c cX4_readWord 3 s args wsAll RX4) (hG : Gd D cI cB cT s) (hA : ∀ q : Nat, s.heap.size ≤ q → A q) {o : Nat × Int32 × Int32 × Int32 × Int32 × Int32} (hx0 : ∀ (H : Heap) (locs : List Loc) (ls : Array Slot), o.1 = 0 → va_P D vwCl (wd_r a_r a_d a_d_w a_d_w_codes a_d_w_masks a_d_w_alike a_d_w_havers a_d_g a_d_n a_d_n_cells a_d_m a_d_m_cells a_d_p a_d_p_cells a_k a_k_bytes cI cB cT d_kind d_secret d_w_size d_w_codes d_w_masks d_w_alike d_w_havers d_g_left d_g_guessed d_g_wrong d_n_size d_n_cells d_m_size d_m_cells d_p_size d_p_cells k_size o.2.2.1 o.2.2.2.1 o.2.2.2.2.1 o.2.2.2.2.2 k_bytes) H → va_D A (wd_r a_r a_d a_d_w a_d_w_codes a_d_w_masks a_d_w_alike a_d_w_havers a_d_g a_d_n a_d_n_cells a_d_m a_d_m_cells a_d_p a_d_p_cells a_k a_k_bytes cI cB cT d_kind d_secret d_w_size d_w_codes d_w_masks d_w_alike d_w_havers d_g_left d_g_guessed d_g_wrong d_n_size d_n_cells d_m_size d_m_cells d_p_size d_p_cells k_size o.2.2.1 o.2.2.2.1 o.2.2.2.2.1 o.2.2.2.2.2 k_bytes) → va_S A s.heap H locs → lv_has ls 3 [] → W p l e rm_X4_readWord s m args below meth c H locs 0 0 Q (F0 m 48 ls [])) (hx1 : ∀ (H : Heap) (locs : List Loc) (ls : Array Slot), o.1 = 1 → va_P D vwCl (wd_r a_r a_d a_d_w a_d_w_codes a_d_w_masks a_d_w_alike a_d_w_havers a_d_g a_d_n a_d_n_cells a_d_m a_d_m_cells a_d_p a_d_p_cells a_k a_k_bytes cI cB cT d_kind d_secret d_w_size d_w_codes d_w_masks d_w_alike d_w_havers d_g_left d_g_guessed d_g_wrong d_n_size d_n_cells d_m_size d_m_cells d_p_size d_p_cells k_size o.2.2.1 o.2.2.2.1 o.2.2.2.2.1 o.2.2.2.2.2 k_bytes) H → va_D A (wd_r a_r a_d a_d_w a_d_w_codes a_d_w_masks a_d_w_alike a_d_w_havers a_d_g a_d_n a_d_n_cells a_d_m a_d_m_cells a_d_p a_d_p_cells a_k a_k_bytes cI cB cT d_kind d_secret d_w_size d_w_codes d_w_masks d_w_alike d_w_havers d_g_left d_g_guessed d_g_wrong d_n_size d_n_cells d_m_size d_m_cells d_p_size d_p_cells k_size o.2.2.1 o.2.2.2.1 o.2.2.2.2.1 o.2.2.2.2.2 k_bytes) → va_S A s.heap H locs → lv_has ls 3 [(0, .ref a_r), (1, .int o.2.1)] → W p l e rm_X4_readWord s m args below meth c H locs 0 0 Q (F0 m 69 ls [])) : ∀ (n : Nat) (x1 : Int32) (x2 : Int32) (k_place : Int32) (k_sort : Int32) (k_number : Int32) (k_behind : Int32) (H : Heap) (locs : List Loc) (ls : Array Slot), va_P D vwCl (wd_r a_r a_d a_d_w a_d_w_codes a_d_w_masks a_d_w_alike a_d_w_havers a_d_g a_d_n a_d_n_cells a_d_m a_d_m_cells a_d_p a_d_p_cells a_k a_k_bytes cI cB cT d_kind d_secret d_w_size d_w_codes d_w_masks d_w_alike d_w_havers d_g_left d_g_guessed d_g_wrong d_n_size d_n_cells d_m_size d_m_cells d_p_size d_p_cells k_size k_place k_sort k_number k_behind k_bytes) H → va_D A (wd_r a_r a_d a_d_w a_d_w_codes a_d_w_masks a_d_w_alike a_d_w_havers a_d_g a_d_n a_d_n_cells a_d_m a_d_m_cells a_d_p a_d_p_cells a_k a_k_bytes cI cB cT d_kind d_secret d_w_size d_w_codes d_w_masks d_w_alike d_w_havers d_g_left d_g_guessed d_g_wrong d_n_size d_n_cells d_m_size d_m_cells d_p_size d_p_cells k_size k_place k_sort k_number k_behind k_bytes) → va_S A s.heap H locs → lv_has ls 3 [(0, .ref a_r), (1, .int x1), (2, .int x2)] → lp (fun v => B_X4_readWord_34 k_size k_bytes v.1 v.2.1 v.2.2.1 v.2.2.2.1 v.2.2.2.2.1 v.2.2.2.2.2) n (x1, x2, k_place, k_sort, k_number, k_behind) = some o → W p l e rm_X4_readWord s m args below meth c H locs 0 0 Q (F0 m 34 ls []) := by
  intro n
  induction n with
  | zero =>
    intro x1 x2 k_place k_sort k_number k_behind H locs ls hP hD hS hl hf
    exact (lp_zero hf).elim
  | succ n ih =>
    intro x1 x2 k_place k_sort k_number k_behind H locs ls hP hD hS hl hf
    obtain ⟨z, hz, hf⟩ := lp_succ hf
    refine B_X4_readWord_34_W CF hG hA ?_ ?_ ?_ hP hD hS hl hz
    · intro v' H locs ls ez hP hD hS hl
      rcases hf with ⟨v2, ev, hf⟩ | ev
      · cases Sum.inl.inj (ez.symm.trans ev)
        exact ih v'.1 v'.2.1 v'.2.2.1 v'.2.2.2.1 v'.2.2.2.2.1 v'.2.2.2.2.2 H locs ls hP hD hS hl hf
      · exact (lp_lr (ez.symm.trans ev)).elim
    · intro o' H locs ls ez et hP hD hS hl
      rcases hf with ⟨v2, ev, hf⟩ | ev
      · exact (lp_lr (ev.symm.trans ez)).elim
      · cases Sum.inr.inj (ez.symm.trans ev)
        exact hx0 H locs ls et hP hD hS hl
    · intro o' H locs ls ez et hP hD hS hl
      rcases hf with ⟨v2, ev, hf⟩ | ev
      · exact (lp_lr (ev.symm.trans ez)).elim
      · cases Sum.inr.inj (ez.symm.trans ev)
        exact hx1 H locs ls et hP hD hS hl
set_option maxHeartbeats 4000000 in
set_option maxRecDepth 100000 in
theorem c_X4_readWord (l : Launch) (D : va_G) (cI cB cT : ClassId) (sz : Nat) (a_r a_d a_d_w a_d_w_codes a_d_w_masks a_d_w_alike a_d_w_havers a_d_g a_d_n a_d_n_cells a_d_m a_d_m_cells a_d_p a_d_p_cells a_k a_k_bytes : Nat) (d_kind : Int32) (d_secret : Int32) (d_w_size : Int32) (d_w_codes : (Nat → Int32)) (d_w_masks : (Nat → Int32)) (d_w_alike : (Nat → Int32)) (d_w_havers : (Nat → Int32)) (d_g_left : Int32) (d_g_guessed : Int32) (d_g_wrong : Int32) (d_n_size : Int32) (d_n_cells : (Nat → Int32)) (d_m_size : Int32) (d_m_cells : (Nat → Int32)) (d_p_size : Int32) (d_p_cells : (Nat → Int32)) (k_size : Int32) (k_place : Int32) (k_sort : Int32) (k_number : Int32) (k_behind : Int32) (k_bytes : (Nat → Int32)) {z : Int32 × Int32 × (Nat → Int32) × (Nat → Int32) × (Nat → Int32) × (Nat → Int32) × Int32 × Int32 × Int32 × Int32 × Int32 × Int32 × Int32 × Int32} (hf : f_X4_readWord d_w_size d_w_codes d_w_masks d_w_alike d_w_havers d_g_left d_g_guessed d_g_wrong d_p_size k_size k_place k_sort k_number k_behind k_bytes = some z) :
    Met l yX4_readWord (Cond.code yX4_readWord cX4_readWord 3 (some .boolean) :: wsAll) rm_X4_readWord (Pwr [.ref a_r] D cI cB cT (wd_r a_r a_d a_d_w a_d_w_codes a_d_w_masks a_d_w_alike a_d_w_havers a_d_g a_d_n a_d_n_cells a_d_m a_d_m_cells a_d_p a_d_p_cells a_k a_k_bytes cI cB cT d_kind d_secret d_w_size d_w_codes d_w_masks d_w_alike d_w_havers d_g_left d_g_guessed d_g_wrong d_n_size d_n_cells d_m_size d_m_cells d_p_size d_p_cells k_size k_place k_sort k_number k_behind k_bytes) sz) (Qw (some (.int z.1)) D (wd_r a_r a_d a_d_w a_d_w_codes a_d_w_masks a_d_w_alike a_d_w_havers a_d_g a_d_n a_d_n_cells a_d_m a_d_m_cells a_d_p a_d_p_cells a_k a_k_bytes cI cB cT d_kind d_secret z.2.1 z.2.2.1 z.2.2.2.1 z.2.2.2.2.1 z.2.2.2.2.2.1 z.2.2.2.2.2.2.1 z.2.2.2.2.2.2.2.1 z.2.2.2.2.2.2.2.2.1 d_n_size d_n_cells d_m_size d_m_cells z.2.2.2.2.2.2.2.2.2.1 d_p_cells k_size z.2.2.2.2.2.2.2.2.2.2.1 z.2.2.2.2.2.2.2.2.2.2.2.1 z.2.2.2.2.2.2.2.2.2.2.2.2.1 z.2.2.2.2.2.2.2.2.2.2.2.2.2 k_bytes) (va_A (wd_r a_r a_d a_d_w a_d_w_codes a_d_w_masks a_d_w_alike a_d_w_havers a_d_g a_d_n a_d_n_cells a_d_m a_d_m_cells a_d_p a_d_p_cells a_k a_k_bytes cI cB cT d_kind d_secret d_w_size d_w_codes d_w_masks d_w_alike d_w_havers d_g_left d_g_guessed d_g_wrong d_n_size d_n_cells d_m_size d_m_cells d_p_size d_p_cells k_size k_place k_sort k_number k_behind k_bytes) sz)) 0 0 (va_A (wd_r a_r a_d a_d_w a_d_w_codes a_d_w_masks a_d_w_alike a_d_w_havers a_d_g a_d_n a_d_n_cells a_d_m a_d_m_cells a_d_p a_d_p_cells a_k a_k_bytes cI cB cT d_kind d_secret d_w_size d_w_codes d_w_masks d_w_alike d_w_havers d_g_left d_g_guessed d_g_wrong d_n_size d_n_cells d_m_size d_m_cells d_p_size d_p_cells k_size k_place k_sort k_number k_behind k_bytes) sz) := by
  refine wr_intro RX4 (by decide +kernel) rfl (Nat.le_of_ble_eq_true rfl) ?_
  intro p e s m below meth c ls A H locs CF hr hlk hG hP hD hS hA hl
  have hl : lv_has ls 3 [(0, .ref a_r)] := hl
  obtain ⟨hx, hb, hml, hown, hts⟩ := id CF
  unfold f_X4_readWord at hf
  refine lv_aload_n hx hb dX4_readWord_0 rfl (lv_at hl 0 rfl) ?_
  refine va_get (D := D) (ci := 2) (v := .ref a_d) (C := RX4) (T := TX4) (N := 2) hx hb hts fin_X4 hown hG.1 hP 0 ce_r_0 vq_2 1 (by decide) (hts _ wm_258) (fun _ h9 => h9) rfl dX4_readWord_1 ?_
  refine va_get (D := D) (ci := 5) (v := .ref a_d_w) (C := RX7) (T := TX7) (N := 7) hx hb hts fin_X7 hown hG.1 hP 1 ce_r_1 vq_5 0 (by decide) (hts _ wm_186) (fun _ h9 => h9) rfl dX4_readWord_4 ?_
  refine va_get (D := D) (ci := 7) (v := .int d_w_size) (C := RX9) (T := TX9) (N := 5) hx hb hts fin_X9 hown hG.1 hP 2 ce_r_2 vq_7 0 (by decide) (hts _ wm_125) (fun _ h9 => h9) rfl dX4_readWord_7 ?_
  refine lv_bipush (v := (8 : Int32)) hx hb dX4_readWord_10 (by decide) ?_
  refine lv_icmp_ge (tgt := 28) hx hb dX4_readWord_12 (by decide) (fun c1 => ?_) (fun c1 => ?_)
  · have hf := tk c1 hf
    refine lv_iconst (v := (0 : Int32)) hx hb dX4_readWord_28 (by decide) ?_
    obtain rfl := Option.some.inj hf
    exact wr_zret CF hr hlk (Or.inl rfl) hP hS dX4_readWord_29
  · have hf := fk c1 hf
    refine lv_aload_n hx hb dX4_readWord_15 rfl (lv_at hl 0 rfl) ?_
    refine va_get (D := D) (ci := 2) (v := .ref a_d) (C := RX4) (T := TX4) (N := 2) hx hb hts fin_X4 hown hG.1 hP 0 ce_r_0 vq_2 1 (by decide) (hts _ wm_258) (fun _ h9 => h9) rfl dX4_readWord_16 ?_
    refine va_get (D := D) (ci := 5) (v := .ref a_d_g) (C := RX7) (T := TX7) (N := 7) hx hb hts fin_X7 hown hG.1 hP 1 ce_r_1 vq_5 1 (by decide) (hts _ wm_188) (fun _ h9 => h9) rfl dX4_readWord_19 ?_
    refine va_get (D := D) (ci := 1) (v := .int d_g_guessed) (C := RX1) (T := TX1) (N := 3) hx hb hts fin_X1 hown hG.1 hP 7 ce_r_7 vq_1 1 (by decide) (hts _ wm_153) (fun _ h9 => h9) rfl dX4_readWord_22 ?_
    refine lv_if_eq (tgt := 30) hx hb dX4_readWord_25 (by decide) (fun c2 => ?_) (fun c2 => ?_)
    · have hf := tk c2 hf
      refine lv_iconst (v := (0 : Int32)) hx hb dX4_readWord_30 (by decide) ?_
      refine lv_istore_n (lv' := [(1, .int (0 : Int32)), (0, .ref a_r)]) hx hb dX4_readWord_31 rfl hl (by decide) rfl (fun ls hl => ?_)
      refine lv_iconst (v := (0 : Int32)) hx hb dX4_readWord_32 (by decide) ?_
      refine lv_istore_n (lv' := [(2, .int (0 : Int32)), (1, .int (0 : Int32)), (0, .ref a_r)]) hx hb dX4_readWord_33 rfl hl (by decide) rfl (fun ls hl => ?_)
      obtain ⟨o7, e8, hf⟩ := lp_bind hf
      refine L_X4_readWord_34_W CF hG hA ?_ ?_ KN _ _ _ _ _ _ _ _ _ hP hD hS (lv_sub hl [2, 1, 0] rfl) e8
      · intro H locs ls et hP hD hS hl
        have hf := tk et hf
        refine lv_iconst (v := (0 : Int32)) hx hb dX4_readWord_48 (by decide) ?_
        obtain rfl := Option.some.inj hf
        exact wr_zret CF hr hlk (Or.inl rfl) hP hS dX4_readWord_49
      · intro H locs ls et hP hD hS hl
        have hf := fk (by rw [et]; decide) hf
        refine lv_aload_n hx hb dX4_readWord_69 rfl (lv_at hl 0 rfl) ?_
        refine va_get (D := D) (ci := 2) (v := .ref a_d) (C := RX4) (T := TX4) (N := 2) hx hb hts fin_X4 hown hG.1 hP 0 ce_r_0 vq_2 1 (by decide) (hts _ wm_258) (fun _ h9 => h9) rfl dX4_readWord_70 ?_
        refine va_get (D := D) (ci := 5) (v := .ref a_d_w) (C := RX7) (T := TX7) (N := 7) hx hb hts fin_X7 hown hG.1 hP 1 ce_r_1 vq_5 0 (by decide) (hts _ wm_186) (fun _ h9 => h9) rfl dX4_readWord_73 ?_
        refine lv_iload_n hx hb dX4_readWord_76 rfl (lv_at hl 1 rfl) ?_
        obtain ⟨o9, e10, hf⟩ := lp_bind hf
        have hPc : va_P D vwCl (wd_w a_d_w a_d_w_codes a_d_w_masks a_d_w_alike a_d_w_havers cI cB cT d_w_size d_w_codes d_w_masks d_w_alike d_w_havers) H := su_14 hP
        refine ro_Vi (x := o9) (As := [.int o7.2.1]) (rest := []) CF (c_X9_numberOf l D cI cB cT a_d_w a_d_w_codes a_d_w_masks a_d_w_alike a_d_w_havers d_w_size d_w_codes d_w_masks d_w_alike d_w_havers o7.2.1 e10) ok_X9_numberOf wm_499 ⟨rfl, rfl, Nat.le_of_ble_eq_true rfl, Nat.le_of_ble_eq_true rfl⟩ hG hPc 0 7 vq_7 rfl ce_w_0 rfl hl.1 rfl (Nat.le_of_ble_eq_true rfl) ⟨Nat.zero_le _, Nat.zero_le _⟩ dX4_readWord_77 ?_
        refine lv_iconst (v := (-1 : Int32)) hx hb dX4_readWord_80 (by decide) ?_
        refine lv_icmp_eq (tgt := 86) hx hb dX4_readWord_81 (by decide) (fun c11 => ?_) (fun c11 => ?_)
        · have hf := tk c11 hf
          refine lv_aload_n hx hb dX4_readWord_86 rfl (lv_at hl 0 rfl) ?_
          refine va_get (D := D) (ci := 2) (v := .ref a_d) (C := RX4) (T := TX4) (N := 2) hx hb hts fin_X4 hown hG.1 hP 0 ce_r_0 vq_2 1 (by decide) (hts _ wm_258) (fun _ h9 => h9) rfl dX4_readWord_87 ?_
          refine lv_iload_n hx hb dX4_readWord_90 rfl (lv_at hl 1 rfl) ?_
          obtain ⟨o12, e13, hf⟩ := lp_bind hf
          have hPc : va_P D vwCl (wd_t a_d a_d_w a_d_w_codes a_d_w_masks a_d_w_alike a_d_w_havers a_d_g a_d_n a_d_n_cells a_d_m a_d_m_cells a_d_p a_d_p_cells cI cB cT d_kind d_secret d_w_size d_w_codes d_w_masks d_w_alike d_w_havers d_g_left d_g_guessed d_g_wrong d_n_size d_n_cells d_m_size d_m_cells d_p_size d_p_cells) H := su_15 hP
          refine wr_Vv (ws' := (wd_r a_r a_d a_d_w a_d_w_codes a_d_w_masks a_d_w_alike a_d_w_havers a_d_g a_d_n a_d_n_cells a_d_m a_d_m_cells a_d_p a_d_p_cells a_k a_k_bytes cI cB cT d_kind d_secret o12.1 o12.2.1 o12.2.2.1 o12.2.2.2.1 o12.2.2.2.2.1 o12.2.2.2.2.2.1 o12.2.2.2.2.2.2.1 o12.2.2.2.2.2.2.2.1 d_n_size d_n_cells d_m_size d_m_cells o12.2.2.2.2.2.2.2.2 d_p_cells k_size o7.2.2.1 o7.2.2.2.1 o7.2.2.2.2.1 o7.2.2.2.2.2 k_bytes)) (As := [.int o7.2.1]) (rest := []) CF (c_X7_addWord l D cI cB cT H.size a_d a_d_w a_d_w_codes a_d_w_masks a_d_w_alike a_d_w_havers a_d_g a_d_n a_d_n_cells a_d_m a_d_m_cells a_d_p a_d_p_cells d_kind d_secret d_w_size d_w_codes d_w_masks d_w_alike d_w_havers d_g_left d_g_guessed d_g_wrong d_n_size d_n_cells d_m_size d_m_cells d_p_size d_p_cells o7.2.1 e13) ok_X7_addWord wm_500 ⟨rfl, rfl, Nat.le_of_ble_eq_true rfl, Nat.le_of_ble_eq_true rfl⟩ hG hP hD hS hA [1, 2, 3, 4, 5, 6, 7, 8, 9, 10, 11, 12, 13] hPc rfl hc_15 rfl pb_15 fs_r 0 5 vq_5 rfl ce_t_0 rfl hl.1 rfl (Nat.le_of_ble_eq_true rfl) ⟨Nat.zero_le _, Nat.zero_le _⟩ dX4_readWord_91 (fun H locs hP hD hS => ?_)
          refine lv_aload_n hx hb dX4_readWord_94 rfl (lv_at hl 0 rfl) ?_
          obtain ⟨o14, e15, hf⟩ := lp_bind hf
          refine wr_Wi (x := o14.1) (ws' := (wd_r a_r a_d a_d_w a_d_w_codes a_d_w_masks a_d_w_alike a_d_w_havers a_d_g a_d_n a_d_n_cells a_d_m a_d_m_cells a_d_p a_d_p_cells a_k a_k_bytes cI cB cT d_kind d_secret o12.1 o12.2.1 o12.2.2.1 o12.2.2.2.1 o12.2.2.2.2.1 o12.2.2.2.2.2.1 o12.2.2.2.2.2.2.1 o12.2.2.2.2.2.2.2.1 d_n_size d_n_cells d_m_size d_m_cells o12.2.2.2.2.2.2.2.2 d_p_cells k_size o14.2.1 o14.2.2.1 o14.2.2.2.1 o14.2.2.2.2 k_bytes)) (As := []) (rest := []) CF (c_X4_stepToClose l D cI cB cT H.size a_r a_d a_d_w a_d_w_codes a_d_w_masks a_d_w_alike a_d_w_havers a_d_g a_d_n a_d_n_cells a_d_m a_d_m_cells a_d_p a_d_p_cells a_k a_k_bytes d_kind d_secret o12.1 o12.2.1 o12.2.2.1 o12.2.2.2.1 o12.2.2.2.2.1 o12.2.2.2.2.2.1 o12.2.2.2.2.2.2.1 o12.2.2.2.2.2.2.2.1 d_n_size d_n_cells d_m_size d_m_cells o12.2.2.2.2.2.2.2.2 d_p_cells k_size o7.2.2.1 o7.2.2.2.1 o7.2.2.2.2.1 o7.2.2.2.2.2 k_bytes e15) ok_X4_stepToClose wm_490 ⟨rfl, rfl, Nat.le_of_ble_eq_true rfl, Nat.le_of_ble_eq_true rfl⟩ hG hP hD hS hA fs_r 0 2 vq_2 rfl ce_r_0 rfl hl.1 rfl (Nat.le_of_ble_eq_true rfl) ⟨Nat.zero_le _, Nat.zero_le _⟩ dX4_readWord_95 (fun H locs hP hD hS => ?_)
          obtain ⟨n16, hf⟩ := yk hf
          obtain rfl := Option.some.inj hf
          exact wr_zret CF hr hlk n16 hP hS dX4_readWord_98
        · have hf := fk c11 hf
          refine lv_iconst (v := (0 : Int32)) hx hb dX4_readWord_84 (by decide) ?_
          obtain rfl := Option.some.inj hf
          exact wr_zret CF hr hlk (Or.inl rfl) hP hS dX4_readWord_85
    · have hf := fk c2 hf
      refine lv_iconst (v := (0 : Int32)) hx hb dX4_readWord_28 (by decide) ?_
      obtain rfl := Option.some.inj hf
      exact wr_zret CF hr hlk (Or.inl rfl) hP hS dX4_readWord_29
end M_X4_readWord
section M_X4_readSecret
variable {p : Program} {l : Launch} {e : Env} {s : State} {m : MethodId} {args : Array Value} {below : List Frame} {meth : Method} {c : Code} {Q : State → Prop} {A : Nat → Prop} {D : va_G} {cI cB cT : ClassId}
variable {a_r a_d a_d_w a_d_w_codes a_d_w_masks a_d_w_alike a_d_w_havers a_d_g a_d_n a_d_n_cells a_d_m a_d_m_cells a_d_p a_d_p_cells a_k a_k_bytes : Nat}
def rm_X4_readSecret : Room := { frames := 3, cells := 0, slots := 0, locals := 66 }
def f_X4_readSecret (d_secret : Int32) (d_w_size : Int32) (k_size : Int32) (k_number : Int32) (k_behind : Int32) (k_bytes : (Nat → Int32)) : Option (Int32 × Int32 × Int32 × Int32 × Int32 × Int32) := ((f_X4_stepToNumber k_size k_number k_behind k_bytes d_w_size).bind fun o1 => (if o1.1 = 0 then some ((0 : Int32), d_secret, o1.2.1, o1.2.2.1, o1.2.2.2.1, o1.2.2.2.2) else ((f_X4_stepToClose k_size o1.2.2.2.1 o1.2.2.2.2 k_bytes).bind fun o4 => (if (o4.1 = 0 ∨ o4.1 = 1) then some (o4.1, o1.2.2.2.1, o4.2.1, o4.2.2.1, o4.2.2.2.1, o4.2.2.2.2) else none))))
set_option maxHeartbeats 4000000 in
set_option maxRecDepth 100000 in
theorem c_X4_readSecret (l : Launch) (D : va_G) (cI cB cT : ClassId) (sz : Nat) (a_r a_d a_d_w a_d_w_codes a_d_w_masks a_d_w_alike a_d_w_havers a_d_g a_d_n a_d_n_cells a_d_m a_d_m_cells a_d_p a_d_p_cells a_k a_k_bytes : Nat) (d_kind : Int32) (d_secret : Int32) (d_w_size : Int32) (d_w_codes : (Nat → Int32)) (d_w_masks : (Nat → Int32)) (d_w_alike : (Nat → Int32)) (d_w_havers : (Nat → Int32)) (d_g_left : Int32) (d_g_guessed : Int32) (d_g_wrong : Int32) (d_n_size : Int32) (d_n_cells : (Nat → Int32)) (d_m_size : Int32) (d_m_cells : (Nat → Int32)) (d_p_size : Int32) (d_p_cells : (Nat → Int32)) (k_size : Int32) (k_place : Int32) (k_sort : Int32) (k_number : Int32) (k_behind : Int32) (k_bytes : (Nat → Int32)) {z : Int32 × Int32 × Int32 × Int32 × Int32 × Int32} (hf : f_X4_readSecret d_secret d_w_size k_size k_number k_behind k_bytes = some z) :
    Met l yX4_readSecret (Cond.code yX4_readSecret cX4_readSecret 1 (some .boolean) :: wsAll) rm_X4_readSecret (Pwr [.ref a_r] D cI cB cT (wd_r a_r a_d a_d_w a_d_w_codes a_d_w_masks a_d_w_alike a_d_w_havers a_d_g a_d_n a_d_n_cells a_d_m a_d_m_cells a_d_p a_d_p_cells a_k a_k_bytes cI cB cT d_kind d_secret d_w_size d_w_codes d_w_masks d_w_alike d_w_havers d_g_left d_g_guessed d_g_wrong d_n_size d_n_cells d_m_size d_m_cells d_p_size d_p_cells k_size k_place k_sort k_number k_behind k_bytes) sz) (Qw (some (.int z.1)) D (wd_r a_r a_d a_d_w a_d_w_codes a_d_w_masks a_d_w_alike a_d_w_havers a_d_g a_d_n a_d_n_cells a_d_m a_d_m_cells a_d_p a_d_p_cells a_k a_k_bytes cI cB cT d_kind z.2.1 d_w_size d_w_codes d_w_masks d_w_alike d_w_havers d_g_left d_g_guessed d_g_wrong d_n_size d_n_cells d_m_size d_m_cells d_p_size d_p_cells k_size z.2.2.1 z.2.2.2.1 z.2.2.2.2.1 z.2.2.2.2.2 k_bytes) (va_A (wd_r a_r a_d a_d_w a_d_w_codes a_d_w_masks a_d_w_alike a_d_w_havers a_d_g a_d_n a_d_n_cells a_d_m a_d_m_cells a_d_p a_d_p_cells a_k a_k_bytes cI cB cT d_kind d_secret d_w_size d_w_codes d_w_masks d_w_alike d_w_havers d_g_left d_g_guessed d_g_wrong d_n_size d_n_cells d_m_size d_m_cells d_p_size d_p_cells k_size k_place k_sort k_number k_behind k_bytes) sz)) 0 0 (va_A (wd_r a_r a_d a_d_w a_d_w_codes a_d_w_masks a_d_w_alike a_d_w_havers a_d_g a_d_n a_d_n_cells a_d_m a_d_m_cells a_d_p a_d_p_cells a_k a_k_bytes cI cB cT d_kind d_secret d_w_size d_w_codes d_w_masks d_w_alike d_w_havers d_g_left d_g_guessed d_g_wrong d_n_size d_n_cells d_m_size d_m_cells d_p_size d_p_cells k_size k_place k_sort k_number k_behind k_bytes) sz) := by
  refine wr_intro RX4 (by decide +kernel) rfl (Nat.le_of_ble_eq_true rfl) ?_
  intro p e s m below meth c ls A H locs CF hr hlk hG hP hD hS hA hl
  have hl : lv_has ls 1 [(0, .ref a_r)] := hl
  obtain ⟨hx, hb, hml, hown, hts⟩ := id CF
  unfold f_X4_readSecret at hf
  refine lv_aload_n hx hb dX4_readSecret_0 rfl (lv_at hl 0 rfl) ?_
  refine lv_aload_n hx hb dX4_readSecret_1 rfl (lv_at hl 0 rfl) ?_
  refine va_get (D := D) (ci := 2) (v := .ref a_d) (C := RX4) (T := TX4) (N := 2) hx hb hts fin_X4 hown hG.1 hP 0 ce_r_0 vq_2 1 (by decide) (hts _ wm_258) (fun _ h9 => h9) rfl dX4_readSecret_2 ?_
  refine va_get (D := D) (ci := 5) (v := .ref a_d_w) (C := RX7) (T := TX7) (N := 7) hx hb hts fin_X7 hown hG.1 hP 1 ce_r_1 vq_5 0 (by decide) (hts _ wm_186) (fun _ h9 => h9) rfl dX4_readSecret_5 ?_
  refine va_get (D := D) (ci := 7) (v := .int d_w_size) (C := RX9) (T := TX9) (N := 5) hx hb hts fin_X9 hown hG.1 hP 2 ce_r_2 vq_7 0 (by decide) (hts _ wm_125) (fun _ h9 => h9) rfl dX4_readSecret_8 ?_
  obtain ⟨o1, e2, hf⟩ := lp_bind hf
  refine wr_Wi (x := o1.1) (ws' := (wd_r a_r a_d a_d_w a_d_w_codes a_d_w_masks a_d_w_alike a_d_w_havers a_d_g a_d_n a_d_n_cells a_d_m a_d_m_cells a_d_p a_d_p_cells a_k a_k_bytes cI cB cT d_kind d_secret d_w_size d_w_codes d_w_masks d_w_alike d_w_havers d_g_left d_g_guessed d_g_wrong d_n_size d_n_cells d_m_size d_m_cells d_p_size d_p_cells k_size o1.2.1 o1.2.2.1 o1.2.2.2.1 o1.2.2.2.2 k_bytes)) (As := [.int d_w_size]) (rest := []) CF (c_X4_stepToNumber l D cI cB cT H.size a_r a_d a_d_w a_d_w_codes a_d_w_masks a_d_w_alike a_d_w_havers a_d_g a_d_n a_d_n_cells a_d_m a_d_m_cells a_d_p a_d_p_cells a_k a_k_bytes d_kind d_secret d_w_size d_w_codes d_w_masks d_w_alike d_w_havers d_g_left d_g_guessed d_g_wrong d_n_size d_n_cells d_m_size d_m_cells d_p_size d_p_cells k_size k_place k_sort k_number k_behind k_bytes d_w_size e2) ok_X4_stepToNumber wm_486 ⟨rfl, rfl, Nat.le_of_ble_eq_true rfl, Nat.le_of_ble_eq_true rfl⟩ hG hP hD hS hA fs_r 0 2 vq_2 rfl ce_r_0 rfl hl.1 rfl (Nat.le_of_ble_eq_true rfl) ⟨Nat.zero_le _, Nat.zero_le _⟩ dX4_readSecret_11 (fun H locs hP hD hS => ?_)
  refine lv_if_ne (tgt := 19) hx hb dX4_readSecret_14 (by decide) (fun c3 => ?_) (fun c3 => ?_)
  · have hf := fk c3 hf
    refine lv_aload_n hx hb dX4_readSecret_19 rfl (lv_at hl 0 rfl) ?_
    refine va_get (D := D) (ci := 2) (v := .ref a_d) (C := RX4) (T := TX4) (N := 2) hx hb hts fin_X4 hown hG.1 hP 0 ce_r_0 vq_2 1 (by decide) (hts _ wm_258) (fun _ h9 => h9) rfl dX4_readSecret_20 ?_
    refine lv_aload_n hx hb dX4_readSecret_23 rfl (lv_at hl 0 rfl) ?_
    refine va_get (D := D) (ci := 2) (v := .ref a_k) (C := RX4) (T := TX4) (N := 2) hx hb hts fin_X4 hown hG.1 hP 0 ce_r_0 vq_2 0 (by decide) (hts _ wm_256) (fun _ h9 => h9) rfl dX4_readSecret_24 ?_
    refine va_get (D := D) (ci := 6) (v := .int o1.2.2.2.1) (C := RX8) (T := TX8) (N := 6) hx hb hts fin_X8 hown hG.1 hP 14 ce_r_14 vq_6 3 (by decide) (hts _ wm_236) (fun _ h9 => h9) rfl dX4_readSecret_27 ?_
    refine va_put (D := D) (ci := 5) (v := .int o1.2.2.2.1) (ty := .int) (C := RX7) (T := TX7) (N := 7) hx hb hts fin_X7 tyX7 tyX7_ok nmX7 hown hG.1 hP hD hS 1 ce_r_1 vq_5 6 (by decide) (hts _ wm_200) (fun _ h9 => h9) rfl (tyX7_ok 6 (by decide)) rfl rfl (Nat.le_of_ble_eq_true rfl) dX4_readSecret_30 (fun H locs hP _ hS => ?_)
    have hP : va_P D vwCl (wd_r a_r a_d a_d_w a_d_w_codes a_d_w_masks a_d_w_alike a_d_w_havers a_d_g a_d_n a_d_n_cells a_d_m a_d_m_cells a_d_p a_d_p_cells a_k a_k_bytes cI cB cT d_kind o1.2.2.2.1 d_w_size d_w_codes d_w_masks d_w_alike d_w_havers d_g_left d_g_guessed d_g_wrong d_n_size d_n_cells d_m_size d_m_cells d_p_size d_p_cells k_size o1.2.1 o1.2.2.1 o1.2.2.2.1 o1.2.2.2.2 k_bytes) H := va_P_eq se_r_d_secret hP
    have hD : va_D A (wd_r a_r a_d a_d_w a_d_w_codes a_d_w_masks a_d_w_alike a_d_w_havers a_d_g a_d_n a_d_n_cells a_d_m a_d_m_cells a_d_p a_d_p_cells a_k a_k_bytes cI cB cT d_kind o1.2.2.2.1 d_w_size d_w_codes d_w_masks d_w_alike d_w_havers d_g_left d_g_guessed d_g_wrong d_n_size d_n_cells d_m_size d_m_cells d_p_size d_p_cells k_size o1.2.1 o1.2.2.1 o1.2.2.2.1 o1.2.2.2.2 k_bytes) := va_D_fst fs_r hD
    refine lv_aload_n hx hb dX4_readSecret_33 rfl (lv_at hl 0 rfl) ?_
    obtain ⟨o4, e5, hf⟩ := lp_bind hf
    refine wr_Wi (x := o4.1) (ws' := (wd_r a_r a_d a_d_w a_d_w_codes a_d_w_masks a_d_w_alike a_d_w_havers a_d_g a_d_n a_d_n_cells a_d_m a_d_m_cells a_d_p a_d_p_cells a_k a_k_bytes cI cB cT d_kind o1.2.2.2.1 d_w_size d_w_codes d_w_masks d_w_alike d_w_havers d_g_left d_g_guessed d_g_wrong d_n_size d_n_cells d_m_size d_m_cells d_p_size d_p_cells k_size o4.2.1 o4.2.2.1 o4.2.2.2.1 o4.2.2.2.2 k_bytes)) (As := []) (rest := []) CF (c_X4_stepToClose l D cI cB cT H.size a_r a_d a_d_w a_d_w_codes a_d_w_masks a_d_w_alike a_d_w_havers a_d_g a_d_n a_d_n_cells a_d_m a_d_m_cells a_d_p a_d_p_cells a_k a_k_bytes d_kind o1.2.2.2.1 d_w_size d_w_codes d_w_masks d_w_alike d_w_havers d_g_left d_g_guessed d_g_wrong d_n_size d_n_cells d_m_size d_m_cells d_p_size d_p_cells k_size o1.2.1 o1.2.2.1 o1.2.2.2.1 o1.2.2.2.2 k_bytes e5) ok_X4_stepToClose wm_490 ⟨rfl, rfl, Nat.le_of_ble_eq_true rfl, Nat.le_of_ble_eq_true rfl⟩ hG hP hD hS hA fs_r 0 2 vq_2 rfl ce_r_0 rfl hl.1 rfl (Nat.le_of_ble_eq_true rfl) ⟨Nat.zero_le _, Nat.zero_le _⟩ dX4_readSecret_34 (fun H locs hP hD hS => ?_)
    obtain ⟨n6, hf⟩ := yk hf
    obtain rfl := Option.some.inj hf
    exact wr_zret CF hr hlk n6 hP hS dX4_readSecret_37
  · have hf := tk c3 hf
    refine lv_iconst (v := (0 : Int32)) hx hb dX4_readSecret_17 (by decide) ?_
    obtain rfl := Option.some.inj hf
    exact wr_zret CF hr hlk (Or.inl rfl) hP hS dX4_readSecret_18
end M_X4_readSecret
