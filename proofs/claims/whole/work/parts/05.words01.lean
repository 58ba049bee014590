section M_X9_withMask
variable {p : Program} {l : Launch} {e : Env} {s : State} {m : MethodId} {args : Array Value} {below : List Frame} {meth : Method} {c : Code} {Q : State → Prop} {A : Nat → Prop} {D : va_G} {cI cB cT : ClassId}
variable {a_w a_w_codes a_w_masks a_w_alike a_w_havers : Nat}
def rm_X9_withMask : Room := { frames := 1, cells := 0, slots := 0, locals := 22 }
def B_X9_withMask_6 (w_size : Int32) (w_masks : (Nat → Int32)) (x2 : Int32) (x3 : Int32) (x4 : Int32) (x5 : Int32) : Option ((Int32 × Int32) ⊕ (Int32)) := (if w_size ≤ x5 then some (Sum.inr x4) else ((f_X9_maskOf w_size w_masks x5 x2).bind fun o2 => (if o2 = x3 then some (Sum.inl ((x4 ||| ((1 : Int32) <<< (x5 &&& 31))), (x5 + (1 : Int32)))) else some (Sum.inl (x4, (x5 + (1 : Int32)))))))
def f_X9_withMask (w_size : Int32) (w_masks : (Nat → Int32)) (p1 : Int32) (p2 : Int32) (p3 : Int32) : Option (Int32) := ((lp (fun v => B_X9_withMask_6 w_size w_masks p2 p3 v.1 v.2) KN ((0 : Int32), (0 : Int32))).bind fun o5 => some (o5 &&& p1))
set_option maxHeartbeats 4000000 in
set_option maxRecDepth 100000 in
theorem B_X9_withMask_6_W {w_size : Int32} {w_codes : (Nat → Int32)} {w_masks : (Nat → Int32)} {w_alike : (Nat → Int32)} {w_havers : (Nat → Int32)} {x1 : Int32} {x2 : Int32} {x3 : Int32} {x4 : Int32} {x5 : Int32} (CF : CallFix p m c cX9_withMask 6 s args wsAll RX9) (hG : Gd D cI cB cT s) {z : (Int32 × Int32) ⊕ (Int32)} (hk : ∀ (v' : Int32 × Int32) (ls : Array Slot), z = Sum.inl v' → lv_has ls 6 [(0, .ref a_w), (1, .int x1), (2, .int x2), (3, .int x3), (4, .int (v'.1)), (5, .int (v'.2))] → W p l e rm_X9_withMask s m args below meth c s.heap [] 0 0 Q (F0 m 6 ls [])) (hx0 : ∀ (o' : Int32) (ls : Array Slot), z = Sum.inr o' → lv_has ls 6 [(1, .int x1), (4, .int (o'))] → W p l e rm_X9_withMask s m args below meth c s.heap [] 0 0 Q (F0 m 41 ls [])) {ls : Array Slot} (hP : va_P D vwCl (wd_w a_w a_w_codes a_w_masks a_w_alike a_w_havers cI cB cT w_size w_codes w_masks w_alike w_havers) s.heap) (hl : lv_has ls 6 [(0, .ref a_w), (1, .int x1), (2, .int x2), (3, .int x3), (4, .int x4), (5, .int x5)]) (hf : B_X9_withMask_6 w_size w_masks x2 x3 x4 x5 = some z) : W p l e rm_X9_withMask s m args below meth c s.heap [] 0 0 Q (F0 m 6 ls []) := by
  obtain ⟨hx, hb, hml, hown, hts⟩ := id CF
  unfold B_X9_withMask_6 at hf
  refine lv_iload hx hb dX9_withMask_6 (lv_at hl 5 rfl) ?_
  refine lv_aload_n hx hb dX9_withMask_8 rfl (lv_at hl 0 rfl) ?_
  refine va_get (D := D) (ci := 7) (v := .int w_size) (C := RX9) (T := TX9) (N := 5) hx hb hts fin_X9 hown hG.1 hP 0 ce_w_0 vq_7 0 (by decide) (hts _ wm_123) (fun _ h9 => h9) rfl dX9_withMask_9 ?_
  refine lv_icmp_ge (tgt := 41) hx hb dX9_withMask_12 (by decide) (fun c1 => ?_) (fun c1 => ?_)
  · have hf := tk c1 hf
    exact hx0 _ _ (Option.some.inj hf).symm (lv_sub hl [1, 4] rfl)
  · have hf := fk c1 hf
    refine lv_aload_n hx hb dX9_withMask_15 rfl (lv_at hl 0 rfl) ?_
    refine lv_iload hx hb dX9_withMask_16 (lv_at hl 5 rfl) ?_
    refine lv_iload_n hx hb dX9_withMask_18 rfl (lv_at hl 2 rfl) ?_
    obtain ⟨o2, e3, hf⟩ := lp_bind hf
    refine ro_Vi (x := o2) (As := [.int x5, .int x2]) (rest := []) CF (c_X9_maskOf l D cI cB cT a_w a_w_codes a_w_masks a_w_alike a_w_havers w_size w_codes w_masks w_alike w_havers x5 x2 e3) ok_X9_maskOf wm_545 ⟨rfl, rfl, Nat.le_of_ble_eq_true rfl, Nat.le_of_ble_eq_true rfl⟩ hG hP 0 7 vq_7 rfl ce_w_0 rfl hl.1 rfl (Nat.le_of_ble_eq_true rfl) ⟨Nat.zero_le _, Nat.zero_le _⟩ dX9_withMask_19 ?_
    refine lv_iload_n hx hb dX9_withMask_22 rfl (lv_at hl 3 rfl) ?_
    refine lv_icmp_ne (tgt := 35) hx hb dX9_withMask_23 (by decide) (fun c4 => ?_) (fun c4 => ?_)
    · have hf := fk c4 hf
      refine lv_iinc (v := (x5 + (1 : Int32))) (lv' := [(5, .int (x5 + (1 : Int32))), (0, .ref a_w), (1, .int x1), (2, .int x2), (3, .int x3), (4, .int x4)]) hx hb dX9_withMask_35 hl (k := 5) rfl (iinc_eq (by decide)) (by decide) rfl (fun ls hl => ?_)
      refine lv_goto (tgt := 6) hx hb dX9_withMask_38 (by decide) ?_
      exact hk _ _ (Option.some.inj hf).symm (lv_sub hl [1, 2, 3, 4, 5, 0] rfl)
    · have hf := tk c4 hf
      refine lv_iload hx hb dX9_withMask_26 (lv_at hl 4 rfl) ?_
      refine lv_iconst (v := (1 : Int32)) hx hb dX9_withMask_28 (by decide) ?_
      refine lv_iload hx hb dX9_withMask_29 (lv_at hl 5 rfl) ?_
      refine lv_ishl hx hb dX9_withMask_31 ?_
      refine lv_ior hx hb dX9_withMask_32 ?_
      refine lv_istore (lv' := [(4, .int (x4 ||| ((1 : Int32) <<< (x5 &&& 31)))), (0, .ref a_w), (1, .int x1), (2, .int x2), (3, .int x3), (5, .int x5)]) hx hb dX9_withMask_33 hl (by decide) rfl (fun ls hl => ?_)
      refine lv_iinc (v := (x5 + (1 : Int32))) (lv' := [(5, .int (x5 + (1 : Int32))), (4, .int (x4 ||| ((1 : Int32) <<< (x5 &&& 31)))), (0, .ref a_w), (1, .int x1), (2, .int x2), (3, .int x3)]) hx hb dX9_withMask_35 hl (k := 5) rfl (iinc_eq (by decide)) (by decide) rfl (fun ls hl => ?_)
      refine lv_goto (tgt := 6) hx hb dX9_withMask_38 (by decide) ?_
      exact hk _ _ (Option.some.inj hf).symm (lv_sub hl [2, 3, 4, 5, 1, 0] rfl)
set_option maxHeartbeats 4000000 in
set_option maxRecDepth 100000 in
theorem L_X9_withMask_6_W {w_size : Int32} {w_codes : (Nat → Int32)} {w_masks : (Nat → Int32)} {w_alike : (Nat → Int32)} {w_havers : (Nat → Int32)} {x1 : Int32} {x2 : Int32} {x3 : Int32} (CF : CallFix p m c cX9_withMask 6 s args wsAll RX9) (hG : Gd D cI cB cT s) {o : Int32} (hx0 : ∀ (ls : Array Slot), lv_has ls 6 [(1, .int x1), (4, .int o)] → W p l e rm_X9_withMask s m args below meth c s.heap [] 0 0 Q (F0 m 41 ls [])) : ∀ (n : Nat) (x4 : Int32) (x5 : Int32) (ls : Array Slot), va_P D vwCl (wd_w a_w a_w_codes a_w_masks a_w_alike a_w_havers cI cB cT w_size w_codes w_masks w_alike w_havers) s.heap → lv_has ls 6 [(0, .ref a_w), (1, .int x1), (2, .int x2), (3, .int x3), (4, .int x4), (5, .int x5)] → lp (fun v => B_X9_withMask_6 w_size w_masks x2 x3 v.1 v.2) n (x4, x5) = some o → W p l e rm_X9_withMask s m args below meth c s.heap [] 0 0 Q (F0 m 6 ls []) := by
  intro n
  induction n with
  | zero =>
    intro x4 x5 ls hP hl hf
    exact (lp_zero hf).elim
  | succ n ih =>
    intro x4 x5 ls hP hl hf
    obtain ⟨z, hz, hf⟩ := lp_succ hf
    refine B_X9_withMask_6_W CF hG ?_ ?_ hP hl hz
    · intro v' ls ez hl
      rcases hf with ⟨v2, ev, hf⟩ | ev
      · cases Sum.inl.inj (ez.symm.trans ev)
        exact ih v'.1 v'.2 ls hP hl hf
      · exact (lp_lr (ez.symm.trans ev)).elim
    · intro o' ls ez hl
      rcases hf with ⟨v2, ev, hf⟩ | ev
      · exact (lp_lr (ev.symm.trans ez)).elim
      · cases Sum.inr.inj (ez.symm.trans ev)
        exact hx0 ls  hl
set_option maxHeartbeats 4000000 in
set_option maxRecDepth 100000 in
theorem c_X9_withMask (l : Launch) (D : va_G) (cI cB cT : ClassId) (a_w a_w_codes a_w_masks a_w_alike a_w_havers : Nat) (w_size : Int32) (w_codes : (Nat → Int32)) (w_masks : (Nat → Int32)) (w_alike : (Nat → Int32)) (w_havers : (Nat → Int32)) (p1 : Int32) (p2 : Int32) (p3 : Int32) {z : Int32} (hf : f_X9_withMask w_size w_masks p1 p2 p3 = some z) :
    Met l yX9_withMask (Cond.code yX9_withMask cX9_withMask 6 (some .int) :: wsAll) rm_X9_withMask (Pro [.ref a_w, .int p1, .int p2, .int p3] D cI cB cT (wd_w a_w a_w_codes a_w_masks a_w_alike a_w_havers cI cB cT w_size w_codes w_masks w_alike w_havers)) (Qr (some (.int z))) 0 0 (fun _ => False) := by
  refine ro_intro RX9 (by decide +kernel) rfl (Nat.le_of_ble_eq_true rfl) ?_
  intro p e s m below meth c ls CF hr hlk hG hP hl
  have hl : lv_has ls 6 [(0, .ref a_w), (1, .int p1), (2, .int p2), (3, .int p3)] := hl
  obtain ⟨hx, hb, hml, hown, hts⟩ := id CF
  unfold f_X9_withMask at hf
  refine lv_iconst (v := (0 : Int32)) hx hb dX9_withMask_0 (by decide) ?_
  refine lv_istore (lv' := [(4, .int (0 : Int32)), (0, .ref a_w), (1, .int p1), (2, .int p2), (3, .int p3)]) hx hb dX9_withMask_1 hl (by decide) rfl (fun ls hl => ?_)
  refine lv_iconst (v := (0 : Int32)) hx hb dX9_withMask_3 (by decide) ?_
  refine lv_istore (lv' := [(5, .int (0 : Int32)), (4, .int (0 : Int32)), (0, .ref a_w), (1, .int p1), (2, .int p2), (3, .int p3)]) hx hb dX9_withMask_4 hl (by decide) rfl (fun ls hl => ?_)
  obtain ⟨o5, e6, hf⟩ := lp_bind hf
  refine L_X9_withMask_6_W CF hG ?_ KN _ _ _ hP (lv_sub hl [2, 3, 4, 5, 1, 0] rfl) e6
  intro ls hl
  refine lv_iload hx hb dX9_withMask_41 (lv_at hl 1 rfl) ?_
  refine lv_iload_n hx hb dX9_withMask_43 rfl (lv_at hl 0 rfl) ?_
  refine lv_iand hx hb dX9_withMask_44 ?_
  obtain rfl := Option.some.inj hf
  exact ro_iret CF hr hlk dX9_withMask_45
end M_X9_withMask
section M_X9_copyFrom
variable {p : Program} {l : Launch} {e : Env} {s : State} {m : MethodId} {args : Array Value} {below : List Frame} {meth : Method} {c : Code} {Q : State → Prop} {A : Nat → Prop} {D : va_G} {cI cB cT : ClassId}
variable {a_w a_w_codes a_w_masks a_w_alike a_w_havers a_ow a_ow_codes a_ow_masks a_ow_alike a_ow_havers : Nat}
def rm_X9_copyFrom : Room := { frames := 1, cells := 0, slots := 0, locals := 40 }
def f_X9_copyFrom (w_codes : (Nat → Int32)) (w_masks : (Nat → Int32)) (w_alike : (Nat → Int32)) (w_havers : (Nat → Int32)) (ow_size : Int32) (ow_codes : (Nat → Int32)) (ow_masks : (Nat → Int32)) (ow_alike : (Nat → Int32)) (ow_havers : (Nat → Int32)) : Option (Int32 × (Nat → Int32) × (Nat → Int32) × (Nat → Int32) × (Nat → Int32)) := (if ((0 : Int32) < 0 ∨ (0 : Int32) < 0 ∨ (Int32.ofNat 8) < 0 ∨ 8 < ((0 : Int32)).toNatClampNeg + ((Int32.ofNat 8)).toNatClampNeg ∨ 8 < ((0 : Int32)).toNatClampNeg + ((Int32.ofNat 8)).toNatClampNeg) then none else (if ((0 : Int32) < 0 ∨ (0 : Int32) < 0 ∨ (Int32.ofNat 80) < 0 ∨ 80 < ((0 : Int32)).toNatClampNeg + ((Int32.ofNat 80)).toNatClampNeg ∨ 80 < ((0 : Int32)).toNatClampNeg + ((Int32.ofNat 80)).toNatClampNeg) then none else (if ((0 : Int32) < 0 ∨ (0 : Int32) < 0 ∨ (Int32.ofNat 80) < 0 ∨ 80 < ((0 : Int32)).toNatClampNeg + ((Int32.ofNat 80)).toNatClampNeg ∨ 80 < ((0 : Int32)).toNatClampNeg + ((Int32.ofNat 80)).toNatClampNeg) then none else (if ((0 : Int32) < 0 ∨ (0 : Int32) < 0 ∨ (Int32.ofNat 10) < 0 ∨ 10 < ((0 : Int32)).toNatClampNeg + ((Int32.ofNat 10)).toNatClampNeg ∨ 10 < ((0 : Int32)).toNatClampNeg + ((Int32.ofNat 10)).toNatClampNeg) then none else some (ow_size, (va_cpy ow_codes w_codes ((0 : Int32)).toNatClampNeg ((0 : Int32)).toNatClampNeg ((Int32.ofNat 8)).toNatClampNeg), (va_cpy ow_masks w_masks ((0 : Int32)).toNatClampNeg ((0 : Int32)).toNatClampNeg ((Int32.ofNat 80)).toNatClampNeg), (va_cpy ow_alike w_alike ((0 : Int32)).toNatClampNeg ((0 : Int32)).toNatClampNeg ((Int32.ofNat 80)).toNatClampNeg), (va_cpy ow_havers w_havers ((0 : Int32)).toNatClampNeg ((0 : Int32)).toNatClampNeg ((Int32.ofNat 10)).toNatClampNeg))))))
set_option maxHeartbeats 4000000 in
set_option maxRecDepth 100000 in
theorem c_X9_copyFrom (l : Launch) (D : va_G) (cI cB cT : ClassId) (sz : Nat) (a_w a_w_codes a_w_masks a_w_alike a_w_havers a_ow a_ow_codes a_ow_masks a_ow_alike a_ow_havers : Nat) (w_size : Int32) (w_codes : (Nat → Int32)) (w_masks : (Nat → Int32)) (w_alike : (Nat → Int32)) (w_havers : (Nat → Int32)) (ow_size : Int32) (ow_codes : (Nat → Int32)) (ow_masks : (Nat → Int32)) (ow_alike : (Nat → Int32)) (ow_havers : (Nat → Int32)) {z : Int32 × (Nat → Int32) × (Nat → Int32) × (Nat → Int32) × (Nat → Int32)} (hf : f_X9_copyFrom w_codes w_masks w_alike w_havers ow_size ow_codes ow_masks ow_alike ow_havers = some z) :
    Met l yX9_copyFrom (Cond.code yX9_copyFrom cX9_copyFrom 2 none :: wsAll) rm_X9_copyFrom (Pwr [.ref a_w, .ref a_ow] D cI cB cT (wd_w_ow a_w a_w_codes a_w_masks a_w_alike a_w_havers a_ow a_ow_codes a_ow_masks a_ow_alike a_ow_havers cI cB cT w_size w_codes w_masks w_alike w_havers ow_size ow_codes ow_masks ow_alike ow_havers) sz) (Qw none D (wd_w_ow a_w a_w_codes a_w_masks a_w_alike a_w_havers a_ow a_ow_codes a_ow_masks a_ow_alike a_ow_havers cI cB cT z.1 z.2.1 z.2.2.1 z.2.2.2.1 z.2.2.2.2 ow_size ow_codes ow_masks ow_alike ow_havers) (va_A (wd_w_ow a_w a_w_codes a_w_masks a_w_alike a_w_havers a_ow a_ow_codes a_ow_masks a_ow_alike a_ow_havers cI cB cT w_size w_codes w_masks w_alike w_havers ow_size ow_codes ow_masks ow_alike ow_havers) sz)) 0 0 (va_A (wd_w_ow a_w a_w_codes a_w_masks a_w_alike a_w_havers a_ow a_ow_codes a_ow_masks a_ow_alike a_ow_havers cI cB cT w_size w_codes w_masks w_alike w_havers ow_size ow_codes ow_masks ow_alike ow_havers) sz) := by
  refine wr_intro RX9 (by decide +kernel) rfl (Nat.le_of_ble_eq_true rfl) ?_
  intro p e s m below meth c ls A H locs CF hr hlk hG hP hD hS hA hl
  have hl : lv_has ls 2 [(0, .ref a_w), (1, .ref a_ow)] := hl
  obtain ⟨hx, hb, hml, hown, hts⟩ := id CF
  unfold f_X9_copyFrom at hf
  refine lv_aload_n hx hb dX9_copyFrom_0 rfl (lv_at hl 0 rfl) ?_
  refine lv_aload_n hx hb dX9_copyFrom_1 rfl (lv_at hl 1 rfl) ?_
  refine va_get (D := D) (ci := 7) (v := .int ow_size) (C := RX9) (T := TX9) (N := 5) hx hb hts fin_X9 hown hG.1 hP 5 ce_w_ow_5 vq_7 0 (by decide) (hts _ wm_123) (fun _ h9 => h9) rfl dX9_copyFrom_2 ?_
  refine va_put (D := D) (ci := 7) (v := .int ow_size) (ty := .int) (C := RX9) (T := TX9) (N := 5) hx hb hts fin_X9 tyX9 tyX9_ok nmX9 hown hG.1 hP hD hS 0 ce_w_ow_0 vq_7 0 (by decide) (hts _ wm_123) (fun _ h9 => h9) rfl (tyX9_ok 0 (by decide)) rfl rfl (Nat.le_of_ble_eq_true rfl) dX9_copyFrom_5 (fun H locs hP _ hS => ?_)
  have hP : va_P D vwCl (wd_w_ow a_w a_w_codes a_w_masks a_w_alike a_w_havers a_ow a_ow_codes a_ow_masks a_ow_alike a_ow_havers cI cB cT ow_size w_codes w_masks w_alike w_havers ow_size ow_codes ow_masks ow_alike ow_havers) H := va_P_eq se_w_ow_w_size hP
  have hD : va_D A (wd_w_ow a_w a_w_codes a_w_masks a_w_alike a_w_havers a_ow a_ow_codes a_ow_masks a_ow_alike a_ow_havers cI cB cT ow_size w_codes w_masks w_alike w_havers ow_size ow_codes ow_masks ow_alike ow_havers) := va_D_fst fs_w_ow hD
  refine lv_aload_n hx hb dX9_copyFrom_8 rfl (lv_at hl 1 rfl) ?_
  refine va_get (D := D) (ci := 7) (v := .ref a_ow_codes) (C := RX9) (T := TX9) (N := 5) hx hb hts fin_X9 hown hG.1 hP 5 ce_w_ow_5 vq_7 1 (by decide) (hts _ wm_127) (fun _ h9 => h9) rfl dX9_copyFrom_9 ?_
  refine lv_iconst (v := (0 : Int32)) hx hb dX9_copyFrom_12 (by decide) ?_
  refine lv_aload_n hx hb dX9_copyFrom_13 rfl (lv_at hl 0 rfl) ?_
  refine va_get (D := D) (ci := 7) (v := .ref a_w_codes) (C := RX9) (T := TX9) (N := 5) hx hb hts fin_X9 hown hG.1 hP 0 ce_w_ow_0 vq_7 1 (by decide) (hts _ wm_127) (fun _ h9 => h9) rfl dX9_copyFrom_14 ?_
  refine lv_iconst (v := (0 : Int32)) hx hb dX9_copyFrom_17 (by decide) ?_
  refine lv_aload_n hx hb dX9_copyFrom_18 rfl (lv_at hl 0 rfl) ?_
  refine va_get (D := D) (ci := 7) (v := .ref a_w_codes) (C := RX9) (T := TX9) (N := 5) hx hb hts fin_X9 hown hG.1 hP 0 ce_w_ow_0 vq_7 1 (by decide) (hts _ wm_127) (fun _ h9 => h9) rfl dX9_copyFrom_19 ?_
  refine va_alen (v := (Int32.ofNat 8)) hx hb hG.1 hP 1 0 ce_w_ow_1 rfl rfl dX9_copyFrom_22 ?_
  obtain ⟨n1, hf⟩ := nk hf
  refine va_copyi (f := ow_codes) (g := w_codes) (ty := .int) hx hb (hml.trans hl.1.symm) hown (hts _ wm_588) (hts _ wm_590) (hts _ wm_589) (hts _ wm_101) hG.1 hP hD hS 6 1 0 0 ce_w_ow_6 ce_w_ow_1 rfl rfl rfl (fun h => n1 (Or.inl h)) (fun h => n1 (Or.inr (Or.inl h))) (fun h => n1 (Or.inr (Or.inr (Or.inl h)))) (Nat.le_of_not_lt (fun h => n1 (Or.inr (Or.inr (Or.inr (Or.inl h)))))) (Nat.le_of_not_lt (fun h => n1 (Or.inr (Or.inr (Or.inr (Or.inr h)))))) (fun _ _ => rfl) (Nat.le_of_ble_eq_true rfl) (Nat.le_of_ble_eq_true rfl) dX9_copyFrom_23 (fun H locs hP _ hS => ?_)
  have hP : va_P D vwCl (wd_w_ow a_w a_w_codes a_w_masks a_w_alike a_w_havers a_ow a_ow_codes a_ow_masks a_ow_alike a_ow_havers cI cB cT ow_size (va_cpy ow_codes w_codes ((0 : Int32)).toNatClampNeg ((0 : Int32)).toNatClampNeg ((Int32.ofNat 8)).toNatClampNeg) w_masks w_alike w_havers ow_size ow_codes ow_masks ow_alike ow_havers) H := va_P_eq se_w_ow_w_codes hP
  have hD : va_D A (wd_w_ow a_w a_w_codes a_w_masks a_w_alike a_w_havers a_ow a_ow_codes a_ow_masks a_ow_alike a_ow_havers cI cB cT ow_size (va_cpy ow_codes w_codes ((0 : Int32)).toNatClampNeg ((0 : Int32)).toNatClampNeg ((Int32.ofNat 8)).toNatClampNeg) w_masks w_alike w_havers ow_size ow_codes ow_masks ow_alike ow_havers) := va_D_fst fs_w_ow hD
  refine lv_aload_n hx hb dX9_copyFrom_26 rfl (lv_at hl 1 rfl) ?_
  refine va_get (D := D) (ci := 7) (v := .ref a_ow_masks) (C := RX9) (T := TX9) (N := 5) hx hb hts fin_X9 hown hG.1 hP 5 ce_w_ow_5 vq_7 2 (by decide) (hts _ wm_128) (fun _ h9 => h9) rfl dX9_copyFrom_27 ?_
  refine lv_iconst (v := (0 : Int32)) hx hb dX9_copyFrom_30 (by decide) ?_
  refine lv_aload_n hx hb dX9_copyFrom_31 rfl (lv_at hl 0 rfl) ?_
  refine va_get (D := D) (ci := 7) (v := .ref a_w_masks) (C := RX9) (T := TX9) (N := 5) hx hb hts fin_X9 hown hG.1 hP 0 ce_w_ow_0 vq_7 2 (by decide) (hts _ wm_128) (fun _ h9 => h9) rfl dX9_copyFrom_32 ?_
  refine lv_iconst (v := (0 : Int32)) hx hb dX9_copyFrom_35 (by decide) ?_
  refine lv_aload_n hx hb dX9_copyFrom_36 rfl (lv_at hl 0 rfl) ?_
  refine va_get (D := D) (ci := 7) (v := .ref a_w_masks) (C := RX9) (T := TX9) (N := 5) hx hb hts fin_X9 hown hG.1 hP 0 ce_w_ow_0 vq_7 2 (by decide) (hts _ wm_128) (fun _ h9 => h9) rfl dX9_copyFrom_37 ?_
  refine va_alen (v := (Int32.ofNat 80)) hx hb hG.1 hP 2 0 ce_w_ow_2 rfl rfl dX9_copyFrom_40 ?_
  obtain ⟨n2, hf⟩ := nk hf
  refine va_copyi (f := ow_masks) (g := w_masks) (ty := .int) hx hb (hml.trans hl.1.symm) hown (hts _ wm_588) (hts _ wm_590) (hts _ wm_589) (hts _ wm_101) hG.1 hP hD hS 7 2 0 0 ce_w_ow_7 ce_w_ow_2 rfl rfl rfl (fun h => n2 (Or.inl h)) (fun h => n2 (Or.inr (Or.inl h))) (fun h => n2 (Or.inr (Or.inr (Or.inl h)))) (Nat.le_of_not_lt (fun h => n2 (Or.inr (Or.inr (Or.inr (Or.inl h)))))) (Nat.le_of_not_lt (fun h => n2 (Or.inr (Or.inr (Or.inr (Or.inr h)))))) (fun _ _ => rfl) (Nat.le_of_ble_eq_true rfl) (Nat.le_of_ble_eq_true rfl) dX9_copyFrom_41 (fun H locs hP _ hS => ?_)
  have hP : va_P D vwCl (wd_w_ow a_w a_w_codes a_w_masks a_w_alike a_w_havers a_ow a_ow_codes a_ow_masks a_ow_alike a_ow_havers cI cB cT ow_size (va_cpy ow_codes w_codes ((0 : Int32)).toNatClampNeg ((0 : Int32)).toNatClampNeg ((Int32.ofNat 8)).toNatClampNeg) (va_cpy ow_masks w_masks ((0 : Int32)).toNatClampNeg ((0 : Int32)).toNatClampNeg ((Int32.ofNat 80)).toNatClampNeg) w_alike w_havers ow_size ow_codes ow_masks ow_alike ow_havers) H := va_P_eq se_w_ow_w_masks hP
  have hD : va_D A (wd_w_ow a_w a_w_codes a_w_masks a_w_alike a_w_havers a_ow a_ow_codes a_ow_masks a_ow_alike a_ow_havers cI cB cT ow_size (va_cpy ow_codes w_codes ((0 : Int32)).toNatClampNeg ((0 : Int32)).toNatClampNeg ((Int32.ofNat 8)).toNatClampNeg) (va_cpy ow_masks w_masks ((0 : Int32)).toNatClampNeg ((0 : Int32)).toNatClampNeg ((Int32.ofNat 80)).toNatClampNeg) w_alike w_havers ow_size ow_codes ow_masks ow_alike ow_havers) := va_D_fst fs_w_ow hD
  refine lv_aload_n hx hb dX9_copyFrom_44 rfl (lv_at hl 1 rfl) ?_
  refine va_get (D := D) (ci := 7) (v := .ref a_ow_alike) (C := RX9) (T := TX9) (N := 5) hx hb hts fin_X9 hown hG.1 hP 5 ce_w_ow_5 vq_7 3 (by decide) (hts _ wm_129) (fun _ h9 => h9) rfl dX9_copyFrom_45 ?_
  refine lv_iconst (v := (0 : Int32)) hx hb dX9_copyFrom_48 (by decide) ?_
  refine lv_aload_n hx hb dX9_copyFrom_49 rfl (lv_at hl 0 rfl) ?_
  refine va_get (D := D) (ci := 7) (v := .ref a_w_alike) (C := RX9) (T := TX9) (N := 5) hx hb hts fin_X9 hown hG.1 hP 0 ce_w_ow_0 vq_7 3 (by decide) (hts _ wm_129) (fun _ h9 => h9) rfl dX9_copyFrom_50 ?_
  refine lv_iconst (v := (0 : Int32)) hx hb dX9_copyFrom_53 (by decide) ?_
  refine lv_aload_n hx hb dX9_copyFrom_54 rfl (lv_at hl 0 rfl) ?_
  refine va_get (D := D) (ci := 7) (v := .ref a_w_alike) (C := RX9) (T := TX9) (N := 5) hx hb hts fin_X9 hown hG.1 hP 0 ce_w_ow_0 vq_7 3 (by decide) (hts _ wm_129) (fun _ h9 => h9) rfl dX9_copyFrom_55 ?_
  refine va_alen (v := (Int32.ofNat 80)) hx hb hG.1 hP 3 0 ce_w_ow_3 rfl rfl dX9_copyFrom_58 ?_
  obtain ⟨n3, hf⟩ := nk hf
  refine va_copyi (f := ow_alike) (g := w_alike) (ty := .int) hx hb (hml.trans hl.1.symm) hown (hts _ wm_588) (hts _ wm_590) (hts _ wm_589) (hts _ wm_101) hG.1 hP hD hS 8 3 0 0 ce_w_ow_8 ce_w_ow_3 rfl rfl rfl (fun h => n3 (Or.inl h)) (fun h => n3 (Or.inr (Or.inl h))) (fun h => n3 (Or.inr (Or.inr (Or.inl h)))) (Nat.le_of_not_lt (fun h => n3 (Or.inr (Or.inr (Or.inr (Or.inl h)))))) (Nat.le_of_not_lt (fun h => n3 (Or.inr (Or.inr (Or.inr (Or.inr h)))))) (fun _ _ => rfl) (Nat.le_of_ble_eq_true rfl) (Nat.le_of_ble_eq_true rfl) dX9_copyFrom_59 (fun H locs hP _ hS => ?_)
  have hP : va_P D vwCl (wd_w_ow a_w a_w_codes a_w_masks a_w_alike a_w_havers a_ow a_ow_codes a_ow_masks a_ow_alike a_ow_havers cI cB cT ow_size (va_cpy ow_codes w_codes ((0 : Int32)).toNatClampNeg ((0 : Int32)).toNatClampNeg ((Int32.ofNat 8)).toNatClampNeg) (va_cpy ow_masks w_masks ((0 : Int32)).toNatClampNeg ((0 : Int32)).toNatClampNeg ((Int32.ofNat 80)).toNatClampNeg) (va_cpy ow_alike w_alike ((0 : Int32)).toNatClampNeg ((0 : Int32)).toNatClampNeg ((Int32.ofNat 80)).toNatClampNeg) w_havers ow_size ow_codes ow_masks ow_alike ow_havers) H := va_P_eq se_w_ow_w_alike hP
  have hD : va_D A (wd_w_ow a_w a_w_codes a_w_masks a_w_alike a_w_havers a_ow a_ow_codes a_ow_masks a_ow_alike a_ow_havers cI cB cT ow_size (va_cpy ow_codes w_codes ((0 : Int32)).toNatClampNeg ((0 : Int32)).toNatClampNeg ((Int32.ofNat 8)).toNatClampNeg) (va_cpy ow_masks w_masks ((0 : Int32)).toNatClampNeg ((0 : Int32)).toNatClampNeg ((Int32.ofNat 80)).toNatClampNeg) (va_cpy ow_alike w_alike ((0 : Int32)).toNatClampNeg ((0 : Int32)).toNatClampNeg ((Int32.ofNat 80)).toNatClampNeg) w_havers ow_size ow_codes ow_masks ow_alike ow_havers) := va_D_fst fs_w_ow hD
  refine lv_aload_n hx hb dX9_copyFrom_62 rfl (lv_at hl 1 rfl) ?_
  refine va_get (D := D) (ci := 7) (v := .ref a_ow_havers) (C := RX9) (T := TX9) (N := 5) hx hb hts fin_X9 hown hG.1 hP 5 ce_w_ow_5 vq_7 4 (by decide) (hts _ wm_130) (fun _ h9 => h9) rfl dX9_copyFrom_63 ?_
  refine lv_iconst (v := (0 : Int32)) hx hb dX9_copyFrom_66 (by decide) ?_
  refine lv_aload_n hx hb dX9_copyFrom_67 rfl (lv_at hl 0 rfl) ?_
  refine va_get (D := D) (ci := 7) (v := .ref a_w_havers) (C := RX9) (T := TX9) (N := 5) hx hb hts fin_X9 hown hG.1 hP 0 ce_w_ow_0 vq_7 4 (by decide) (hts _ wm_130) (fun _ h9 => h9) rfl dX9_copyFrom_68 ?_
  refine lv_iconst (v := (0 : Int32)) hx hb dX9_copyFrom_71 (by decide) ?_
  refine lv_aload_n hx hb dX9_copyFrom_72 rfl (lv_at hl 0 rfl) ?_
  refine va_get (D := D) (ci := 7) (v := .ref a_w_havers) (C := RX9) (T := TX9) (N := 5) hx hb hts fin_X9 hown hG.1 hP 0 ce_w_ow_0 vq_7 4 (by decide) (hts _ wm_130) (fun _ h9 => h9) rfl dX9_copyFrom_73 ?_
  refine va_alen (v := (Int32.ofNat 10)) hx hb hG.1 hP 4 0 ce_w_ow_4 rfl rfl dX9_copyFrom_76 ?_
  obtain ⟨n4, hf⟩ := nk hf
  refine va_copyi (f := ow_havers) (g := w_havers) (ty := .int) hx hb (hml.trans hl.1.symm) hown (hts _ wm_588) (hts _ wm_590) (hts _ wm_589) (hts _ wm_101) hG.1 hP hD hS 9 4 0 0 ce_w_ow_9 ce_w_ow_4 rfl rfl rfl (fun h => n4 (Or.inl h)) (fun h => n4 (Or.inr (Or.inl h))) (fun h => n4 (Or.inr (Or.inr (Or.inl h)))) (Nat.le_of_not_lt (fun h => n4 (Or.inr (Or.inr (Or.inr (Or.inl h)))))) (Nat.le_of_not_lt (fun h => n4 (Or.inr (Or.inr (Or.inr (Or.inr h)))))) (fun _ _ => rfl) (Nat.le_of_ble_eq_true rfl) (Nat.le_of_ble_eq_true rfl) dX9_copyFrom_77 (fun H locs hP _ hS => ?_)
  have hP : va_P D vwCl (wd_w_ow a_w a_w_codes a_w_masks a_w_alike a_w_havers a_ow a_ow_codes a_ow_masks a_ow_alike a_ow_havers cI cB cT ow_size (va_cpy ow_codes w_codes ((0 : Int32)).toNatClampNeg ((0 : Int32)).toNatClampNeg ((Int32.ofNat 8)).toNatClampNeg) (va_cpy ow_masks w_masks ((0 : Int32)).toNatClampNeg ((0 : Int32)).toNatClampNeg ((Int32.ofNat 80)).toNatClampNeg) (va_cpy ow_alike w_alike ((0 : Int32)).toNatClampNeg ((0 : Int32)).toNatClampNeg ((Int32.ofNat 80)).toNatClampNeg) (va_cpy ow_havers w_havers ((0 : Int32)).toNatClampNeg ((0 : Int32)).toNatClampNeg ((Int32.ofNat 10)).toNatClampNeg) ow_size ow_codes ow_masks ow_alike ow_havers) H := va_P_eq se_w_ow_w_havers hP
  have hD : va_D A (wd_w_ow a_w a_w_codes a_w_masks a_w_alike a_w_havers a_ow a_ow_codes a_ow_masks a_ow_alike a_ow_havers cI cB cT ow_size (va_cpy ow_codes w_codes ((0 : Int32)).toNatClampNeg ((0 : Int32)).toNatClampNeg ((Int32.ofNat 8)).toNatClampNeg) (va_cpy ow_masks w_masks ((0 : Int32)).toNatClampNeg ((0 : Int32)).toNatClampNeg ((Int32.ofNat 80)).toNatClampNeg) (va_cpy ow_alike w_alike ((0 : Int32)).toNatClampNeg ((0 : Int32)).toNatClampNeg ((Int32.ofNat 80)).toNatClampNeg) (va_cpy ow_havers w_havers ((0 : Int32)).toNatClampNeg ((0 : Int32)).toNatClampNeg ((Int32.ofNat 10)).toNatClampNeg) ow_size ow_codes ow_masks ow_alike ow_havers) := va_D_fst fs_w_ow hD
  obtain rfl := Option.some.inj hf
  exact wr_vret CF hr hlk hP hS dX9_copyFrom_80
end M_X9_copyFrom
section M_X9_codeOf
variable {p : Program} {l : Launch} {e : Env} {s : State} {m : MethodId} {args : Array Value} {below : List Frame} {meth : Method} {c : Code} {Q : State → Prop} {A : Nat → Prop} {D : va_G} {cI cB cT : ClassId}
variable {a_w a_w_codes a_w_masks a_w_alike a_w_havers : Nat}
def rm_X9_codeOf : Room := { frames := 0, cells := 0, slots := 0, locals := 0 }
def f_X9_codeOf (w_size : Int32) (w_codes : (Nat → Int32)) (p1 : Int32) : Option (Int32) := (if p1 < 0 then some (0 : Int32) else (if w_size ≤ p1 then some (0 : Int32) else (if oob p1 8 then none else some (w_codes (p1).toNatClampNeg))))
set_option maxHeartbeats 4000000 in
set_option maxRecDepth 100000 in
theorem c_X9_codeOf (l : Launch) (D : va_G) (cI cB cT : ClassId) (a_w a_w_codes a_w_masks a_w_alike a_w_havers : Nat) (w_size : Int32) (w_codes : (Nat → Int32)) (w_masks : (Nat → Int32)) (w_alike : (Nat → Int32)) (w_havers : (Nat → Int32)) (p1 : Int32) {z : Int32} (hf : f_X9_codeOf w_size w_codes p1 = some z) :
    Met l yX9_codeOf (Cond.code yX9_codeOf cX9_codeOf 2 (some .int) :: wsAll) rm_X9_codeOf (Pro [.ref a_w, .int p1] D cI cB cT (wd_w a_w a_w_codes a_w_masks a_w_alike a_w_havers cI cB cT w_size w_codes w_masks w_alike w_havers)) (Qr (some (.int z))) 0 0 (fun _ => False) := by
  refine ro_intro RX9 (by decide +kernel) rfl (Nat.le_of_ble_eq_true rfl) ?_
  intro p e s m below meth c ls CF hr hlk hG hP hl
  have hl : lv_has ls 2 [(0, .ref a_w), (1, .int p1)] := hl
  obtain ⟨hx, hb, hml, hown, hts⟩ := id CF
  unfold f_X9_codeOf at hf
  refine lv_iload_n hx hb dX9_codeOf_0 rfl (lv_at hl 1 rfl) ?_
  refine lv_if_lt (tgt := 21) hx hb dX9_codeOf_1 (by decide) (fun c1 => ?_) (fun c1 => ?_)
  · have hf := tk c1 hf
    refine lv_iconst (v := (0 : Int32)) hx hb dX9_codeOf_21 (by decide) ?_
    obtain rfl := Option.some.inj hf
    exact ro_iret CF hr hlk dX9_codeOf_22
  · have hf := fk c1 hf
    refine lv_iload_n hx hb dX9_codeOf_4 rfl (lv_at hl 1 rfl) ?_
    refine lv_aload_n hx hb dX9_codeOf_5 rfl (lv_at hl 0 rfl) ?_
    refine va_get (D := D) (ci := 7) (v := .int w_size) (C := RX9) (T := TX9) (N := 5) hx hb hts fin_X9 hown hG.1 hP 0 ce_w_0 vq_7 0 (by decide) (hts _ wm_123) (fun _ h9 => h9) rfl dX9_codeOf_6 ?_
    refine lv_icmp_ge (tgt := 21) hx hb dX9_codeOf_9 (by decide) (fun c2 => ?_) (fun c2 => ?_)
    · have hf := tk c2 hf
      refine lv_iconst (v := (0 : Int32)) hx hb dX9_codeOf_21 (by decide) ?_
      obtain rfl := Option.some.inj hf
      exact ro_iret CF hr hlk dX9_codeOf_22
    · have hf := fk c2 hf
      refine lv_aload_n hx hb dX9_codeOf_12 rfl (lv_at hl 0 rfl) ?_
      refine va_get (D := D) (ci := 7) (v := .ref a_w_codes) (C := RX9) (T := TX9) (N := 5) hx hb hts fin_X9 hown hG.1 hP 0 ce_w_0 vq_7 1 (by decide) (hts _ wm_127) (fun _ h9 => h9) rfl dX9_codeOf_13 ?_
      refine lv_iload_n hx hb dX9_codeOf_16 rfl (lv_at hl 1 rfl) ?_
      obtain ⟨n3, hf⟩ := nk hf
      refine va_iald (f := w_codes) hx hb hG.1 hP 1 0 ce_w_1 rfl n3 dX9_codeOf_17 ?_
      refine lv_goto (tgt := 22) hx hb dX9_codeOf_18 (by decide) ?_
      obtain rfl := Option.some.inj hf
      exact ro_iret CF hr hlk dX9_codeOf_22
end M_X9_codeOf
section M_X9_unlikeMasks
variable {p : Program} {l : Launch} {e : Env} {s : State} {m : MethodId} {args : Array Value} {below : List Frame} {meth : Method} {c : Code} {Q : State → Prop} {A : Nat → Prop} {D : va_G} {cI cB cT : ClassId}
variable {a_w a_w_codes a_w_masks a_w_alike a_w_havers : Nat}
def rm_X9_unlikeMasks : Room := { frames := 1, cells := 0, slots := 0, locals := 22 }
def B_X9_unlikeMasks_5 (w_size : Int32) (w_masks : (Nat → Int32)) (x1 : Int32) (x2 : Int32) (x3 : Int32) (x4 : Int32) : Option ((Int32 × Int32) ⊕ (Int32)) := (if w_size ≤ x4 then some (Sum.inr x3) else (if ((x1 >>> (x4 &&& 31)) &&& (1 : Int32)) = 0 then some (Sum.inl (x3, (x4 + (1 : Int32)))) else ((f_X9_maskOf w_size w_masks x4 x2).bind fun o3 => some (Sum.inl ((x3 ||| ((1 : Int32) <<< (o3 &&& 31))), (x4 + (1 : Int32)))))))
def f_X9_unlikeMasks (w_size : Int32) (w_masks : (Nat → Int32)) (p1 : Int32) (p2 : Int32) : Option (Int32) := ((lp (fun v => B_X9_unlikeMasks_5 w_size w_masks p1 p2 v.1 v.2) KN ((0 : Int32), (0 : Int32))).bind fun o5 => ((f_J6_bitCount_0f7a4 o5).bind fun o7 => some o7))
set_option maxHeartbeats 4000000 in
set_option maxRecDepth 100000 in
theorem B_X9_unlikeMasks_5_W {w_size : Int32} {w_codes : (Nat → Int32)} {w_masks : (Nat → Int32)} {w_alike : (Nat → Int32)} {w_havers : (Nat → Int32)} {x1 : Int32} {x2 : Int32} {x3 : Int32} {x4 : Int32} (CF : CallFix p m c cX9_unlikeMasks 5 s args wsAll RX9) (hG : Gd D cI cB cT s) {z : (Int32 × Int32) ⊕ (Int32)} (hk : ∀ (v' : Int32 × Int32) (ls : Array Slot), z = Sum.inl v' → lv_has ls 5 [(0, .ref a_w), (1, .int x1), (2, .int x2), (3, .int (v'.1)), (4, .int (v'.2))] → W p l e rm_X9_unlikeMasks s m args below meth c s.heap [] 0 0 Q (F0 m 5 ls [])) (hx0 : ∀ (o' : Int32) (ls : Array Slot), z = Sum.inr o' → lv_has ls 5 [(3, .int (o'))] → W p l e rm_X9_unlikeMasks s m args below meth c s.heap [] 0 0 Q (F0 m 41 ls [])) {ls : Array Slot} (hP : va_P D vwCl (wd_w a_w a_w_codes a_w_masks a_w_alike a_w_havers cI cB cT w_size w_codes w_masks w_alike w_havers) s.heap) (hl : lv_has ls 5 [(0, .ref a_w), (1, .int x1), (2, .int x2), (3, .int x3), (4, .int x4)]) (hf : B_X9_unlikeMasks_5 w_size w_masks x1 x2 x3 x4 = some z) : W p l e rm_X9_unlikeMasks s m args below meth c s.heap [] 0 0 Q (F0 m 5 ls []) := by
  obtain ⟨hx, hb, hml, hown, hts⟩ := id CF
  unfold B_X9_unlikeMasks_5 at hf
  refine lv_iload hx hb dX9_unlikeMasks_5 (lv_at hl 4 rfl) ?_
  refine lv_aload_n hx hb dX9_unlikeMasks_7 rfl (lv_at hl 0 rfl) ?_
  refine va_get (D := D) (ci := 7) (v := .int w_size) (C := RX9) (T := TX9) (N := 5) hx hb hts fin_X9 hown hG.1 hP 0 ce_w_0 vq_7 0 (by decide) (hts _ wm_123) (fun _ h9 => h9) rfl dX9_unlikeMasks_8 ?_
  refine lv_icmp_ge (tgt := 41) hx hb dX9_unlikeMasks_11 (by decide) (fun c1 => ?_) (fun c1 => ?_)
  · have hf := tk c1 hf
    exact hx0 _ _ (Option.some.inj hf).symm (lv_sub hl [3] rfl)
  · have hf := fk c1 hf
    refine lv_iload_n hx hb dX9_unlikeMasks_14 rfl (lv_at hl 1 rfl) ?_
    refine lv_iload hx hb dX9_unlikeMasks_15 (lv_at hl 4 rfl) ?_
    refine lv_ishr hx hb dX9_unlikeMasks_17 ?_
    refine lv_iconst (v := (1 : Int32)) hx hb dX9_unlikeMasks_18 (by decide) ?_
    refine lv_iand hx hb dX9_unlikeMasks_19 ?_
    refine lv_if_eq (tgt := 35) hx hb dX9_unlikeMasks_20 (by decide) (fun c2 => ?_) (fun c2 => ?_)
    · have hf := tk c2 hf
      refine lv_iinc (v := (x4 + (1 : Int32))) (lv' := [(4, .int (x4 + (1 : Int32))), (0, .ref a_w), (1, .int x1), (2, .int x2), (3, .int x3)]) hx hb dX9_unlikeMasks_35 hl (k := 4) rfl (iinc_eq (by decide)) (by decide) rfl (fun ls hl => ?_)
      refine lv_goto (tgt := 5) hx hb dX9_unlikeMasks_38 (by decide) ?_
      exact hk _ _ (Option.some.inj hf).symm (lv_sub hl [1, 2, 3, 4, 0] rfl)
    · have hf := fk c2 hf
      refine lv_iload_n hx hb dX9_unlikeMasks_23 rfl (lv_at hl 3 rfl) ?_
      refine lv_iconst (v := (1 : Int32)) hx hb dX9_unlikeMasks_24 (by decide) ?_
      refine lv_aload_n hx hb dX9_unlikeMasks_25 rfl (lv_at hl 0 rfl) ?_
      refine lv_iload hx hb dX9_unlikeMasks_26 (lv_at hl 4 rfl) ?_
      refine lv_iload_n hx hb dX9_unlikeMasks_28 rfl (lv_at hl 2 rfl) ?_
      obtain ⟨o3, e4, hf⟩ := lp_bind hf
      refine ro_Vi (x := o3) (As := [.int x4, .int x2]) (rest := [.int (1 : Int32), .int x3]) CF (c_X9_maskOf l D cI cB cT a_w a_w_codes a_w_masks a_w_alike a_w_havers w_size w_codes w_masks w_alike w_havers x4 x2 e4) ok_X9_maskOf wm_545 ⟨rfl, rfl, Nat.le_of_ble_eq_true rfl, Nat.le_of_ble_eq_true rfl⟩ hG hP 0 7 vq_7 rfl ce_w_0 rfl hl.1 rfl (Nat.le_of_ble_eq_true rfl) ⟨Nat.zero_le _, Nat.zero_le _⟩ dX9_unlikeMasks_29 ?_
      refine lv_ishl hx hb dX9_unlikeMasks_32 ?_
      refine lv_ior hx hb dX9_unlikeMasks_33 ?_
      refine lv_istore_n (lv' := [(3, .int (x3 ||| ((1 : Int32) <<< (o3 &&& 31)))), (0, .ref a_w), (1, .int x1), (2, .int x2), (4, .int x4)]) hx hb dX9_unlikeMasks_34 rfl hl (by decide) rfl (fun ls hl => ?_)
      refine lv_iinc (v := (x4 + (1 : Int32))) (lv' := [(4, .int (x4 + (1 : Int32))), (3, .int (x3 ||| ((1 : Int32) <<< (o3 &&& 31)))), (0, .ref a_w), (1, .int x1), (2, .int x2)]) hx hb dX9_unlikeMasks_35 hl (k := 4) rfl (iinc_eq (by decide)) (by decide) rfl (fun ls hl => ?_)
      refine lv_goto (tgt := 5) hx hb dX9_unlikeMasks_38 (by decide) ?_
      exact hk _ _ (Option.some.inj hf).symm (lv_sub hl [2, 3, 4, 1, 0] rfl)
set_option maxHeartbeats 4000000 in
set_option maxRecDepth 100000 in
theorem L_X9_unlikeMasks_5_W {w_size : Int32} {w_codes : (Nat → Int32)} {w_masks : (Nat → Int32)} {w_alike : (Nat → Int32)} {w_havers : (Nat → Int32)} {x1 : Int32} {x2 : Int32} (CF : CallFix p m c cX9_unlikeMasks 5 s args wsAll RX9) (hG : Gd D cI cB cT s) {o : Int32} (hx0 : ∀ (ls : Array Slot), lv_has ls 5 [(3, .int o)] → W p l e rm_X9_unlikeMasks s m args below meth c s.heap [] 0 0 Q (F0 m 41 ls [])) : ∀ (n : Nat) (x3 : Int32) (x4 : Int32) (ls : Array Slot), va_P D vwCl (wd_w a_w a_w_codes a_w_masks a_w_alike a_w_havers cI cB cT w_size w_codes w_masks w_alike w_havers) s.heap → lv_has ls 5 [(0, .ref a_w), (1, .int x1), (2, .int x2), (3, .int x3), (4, .int x4)] → lp (fun v => B_X9_unlikeMasks_5 w_size w_masks x1 x2 v.1 v.2) n (x3, x4) = some o → W p l e rm_X9_unlikeMasks s m args below meth c s.heap [] 0 0 Q (F0 m 5 ls []) := by
  intro n
  induction n with
  | zero =>
    intro x3 x4 ls hP hl hf
    exact (lp_zero hf).elim
  | succ n ih =>
    intro x3 x4 ls hP hl hf
    obtain ⟨z, hz, hf⟩ := lp_succ hf
    refine B_X9_unlikeMasks_5_W CF hG ?_ ?_ hP hl hz
    · intro v' ls ez hl
      rcases hf with ⟨v2, ev, hf⟩ | ev
      · cases Sum.inl.inj (ez.symm.trans ev)
        exact ih v'.1 v'.2 ls hP hl hf
      · exact (lp_lr (ez.symm.trans ev)).elim
    · intro o' ls ez hl
      rcases hf with ⟨v2, ev, hf⟩ | ev
      · exact (lp_lr (ev.symm.trans ez)).elim
      · cases Sum.inr.inj (ez.symm.trans ev)
        exact hx0 ls  hl
set_option maxHeartbeats 4000000 in
set_option maxRecDepth 100000 in
theorem c_X9_unlikeMasks (l : Launch) (D : va_G) (cI cB cT : ClassId) (a_w a_w_codes a_w_masks a_w_alike a_w_havers : Nat) (w_size : Int32) (w_codes : (Nat → Int32)) (w_masks : (Nat → Int32)) (w_alike : (Nat → Int32)) (w_havers : (Nat → Int32)) (p1 : Int32) (p2 : Int32) {z : Int32} (hf : f_X9_unlikeMasks w_size w_masks p1 p2 = some z) :
    Met l yX9_unlikeMasks (Cond.code yX9_unlikeMasks cX9_unlikeMasks 5 (some .int) :: wsAll) rm_X9_unlikeMasks (Pro [.ref a_w, .int p1, .int p2] D cI cB cT (wd_w a_w a_w_codes a_w_masks a_w_alike a_w_havers cI cB cT w_size w_codes w_masks w_alike w_havers)) (Qr (some (.int z))) 0 0 (fun _ => False) := by
  refine ro_intro RX9 (by decide +kernel) rfl (Nat.le_of_ble_eq_true rfl) ?_
  intro p e s m below meth c ls CF hr hlk hG hP hl
  have hl : lv_has ls 5 [(0, .ref a_w), (1, .int p1), (2, .int p2)] := hl
  obtain ⟨hx, hb, hml, hown, hts⟩ := id CF
  unfold f_X9_unlikeMasks at hf
  refine lv_iconst (v := (0 : Int32)) hx hb dX9_unlikeMasks_0 (by decide) ?_
  refine lv_istore_n (lv' := [(3, .int (0 : Int32)), (0, .ref a_w), (1, .int p1), (2, .int p2)]) hx hb dX9_unlikeMasks_1 rfl hl (by decide) rfl (fun ls hl => ?_)
  refine lv_iconst (v := (0 : Int32)) hx hb dX9_unlikeMasks_2 (by decide) ?_
  refine lv_istore (lv' := [(4, .int (0 : Int32)), (3, .int (0 : Int32)), (0, .ref a_w), (1, .int p1), (2, .int p2)]) hx hb dX9_unlikeMasks_3 hl (by decide) rfl (fun ls hl => ?_)
  obtain ⟨o5, e6, hf⟩ := lp_bind hf
  refine L_X9_unlikeMasks_5_W CF hG ?_ KN _ _ _ hP (lv_sub hl [2, 3, 4, 1, 0] rfl) e6
  intro ls hl
  refine lv_iload_n hx hb dX9_unlikeMasks_41 rfl (lv_at hl 0 rfl) ?_
  obtain ⟨o7, e8, hf⟩ := lp_bind hf
  refine ro_Si (x := o7) (As := [.int o5]) (rest := []) CF (c_J6_bitCount_0f7a4 l D cI cB cT o5 e8) ok_J6_bitCount_0f7a4 wm_553 ⟨rfl, rfl, Nat.le_of_ble_eq_true rfl, Nat.le_of_ble_eq_true rfl⟩ hG wd_E_P rfl hl.1 rfl (Nat.le_of_ble_eq_true rfl) ⟨Nat.zero_le _, Nat.zero_le _⟩ dX9_unlikeMasks_42 ?_
  obtain rfl := Option.some.inj hf
  exact ro_iret CF hr hlk dX9_unlikeMasks_45
end M_X9_unlikeMasks
section M_X9_greatestPart
variable {p : Program} {l : Launch} {e : Env} {s : State} {m : MethodId} {args : Array Value} {below : List Frame} {meth : Method} {c : Code} {Q : State → Prop} {A : Nat → Prop} {D : va_G} {cI cB cT : ClassId}
variable {a_w a_w_codes a_w_masks a_w_alike a_w_havers : Nat}
def rm_X9_greatestPart : Room := { frames := 1, cells := 0, slots := 0, locals := 40 }
def B_X9_greatestPart_5 (w_size : Int32) (w_alike : (Nat → Int32)) (x1 : Int32) (x2 : Int32) (x3 : Int32) (x4 : Int32) : Option ((Int32 × Int32) ⊕ (Int32)) := (if w_size ≤ x4 then some (Sum.inr x3) else (if ((x1 >>> (x4 &&& 31)) &&& (1 : Int32)) = 0 then some (Sum.inl (x3, (x4 + (1 : Int32)))) else ((f_X9_alikeTo w_size w_alike x4 x2).bind fun o3 => ((f_J6_bitCount_0f7a4 (o3 &&& x1)).bind fun o5 => some (Sum.inl ((if x3 < o5 then o5 else x3), (x4 + (1 : Int32))))))))
def f_X9_greatestPart (w_size : Int32) (w_alike : (Nat → Int32)) (p1 : Int32) (p2 : Int32) : Option (Int32) := ((lp (fun v => B_X9_greatestPart_5 w_size w_alike p1 p2 v.1 v.2) KN ((0 : Int32), (0 : Int32))).bind fun o7 => some o7)
set_option maxHeartbeats 4000000 in
set_option maxRecDepth 100000 in
theorem B_X9_greatestPart_5_W {w_size : Int32} {w_codes : (Nat → Int32)} {w_masks : (Nat → Int32)} {w_alike : (Nat → Int32)} {w_havers : (Nat → Int32)} {x1 : Int32} {x2 : Int32} {x3 : Int32} {x4 : Int32} (CF : CallFix p m c cX9_greatestPart 5 s args wsAll RX9) (hG : Gd D cI cB cT s) {z : (Int32 × Int32) ⊕ (Int32)} (hk : ∀ (v' : Int32 × Int32) (ls : Array Slot), z = Sum.inl v' → lv_has ls 5 [(0, .ref a_w), (1, .int x1), (2, .int x2), (3, .int (v'.1)), (4, .int (v'.2))] → W p l e rm_X9_greatestPart s m args below meth c s.heap [] 0 0 Q (F0 m 5 ls [])) (hx0 : ∀ (o' : Int32) (ls : Array Slot), z = Sum.inr o' → lv_has ls 5 [(3, .int (o'))] → W p l e rm_X9_greatestPart s m args below meth c s.heap [] 0 0 Q (F0 m 46 ls [])) {ls : Array Slot} (hP : va_P D vwCl (wd_w a_w a_w_codes a_w_masks a_w_alike a_w_havers cI cB cT w_size w_codes w_masks w_alike w_havers) s.heap) (hl : lv_has ls 5 [(0, .ref a_w), (1, .int x1), (2, .int x2), (3, .int x3), (4, .int x4)]) (hf : B_X9_greatestPart_5 w_size w_alike x1 x2 x3 x4 = some z) : W p l e rm_X9_greatestPart s m args below meth c s.heap [] 0 0 Q (F0 m 5 ls []) := by
  obtain ⟨hx, hb, hml, hown, hts⟩ := id CF
  unfold B_X9_greatestPart_5 at hf
  refine lv_iload hx hb dX9_greatestPart_5 (lv_at hl 4 rfl) ?_
  refine lv_aload_n hx hb dX9_greatestPart_7 rfl (lv_at hl 0 rfl) ?_
  refine va_get (D := D) (ci := 7) (v := .int w_size) (C := RX9) (T := TX9) (N := 5) hx hb hts fin_X9 hown hG.1 hP 0 ce_w_0 vq_7 0 (by decide) (hts _ wm_123) (fun _ h9 => h9) rfl dX9_greatestPart_8 ?_
  refine lv_icmp_ge (tgt := 46) hx hb dX9_greatestPart_11 (by decide) (fun c1 => ?_) (fun c1 => ?_)
  · have hf := tk c1 hf
    exact hx0 _ _ (Option.some.inj hf).symm (lv_sub hl [3] rfl)
  · have hf := fk c1 hf
    refine lv_iload_n hx hb dX9_greatestPart_14 rfl (lv_at hl 1 rfl) ?_
    refine lv_iload hx hb dX9_greatestPart_15 (lv_at hl 4 rfl) ?_
    refine lv_ishr hx hb dX9_greatestPart_17 ?_
    refine lv_iconst (v := (1 : Int32)) hx hb dX9_greatestPart_18 (by decide) ?_
    refine lv_iand hx hb dX9_greatestPart_19 ?_
    refine lv_if_eq (tgt := 40) hx hb dX9_greatestPart_20 (by decide) (fun c2 => ?_) (fun c2 => ?_)
    · have hf := tk c2 hf
      refine lv_iinc (v := (x4 + (1 : Int32))) (lv' := [(4, .int (x4 + (1 : Int32))), (0, .ref a_w), (1, .int x1), (2, .int x2), (3, .int x3)]) hx hb dX9_greatestPart_40 hl (k := 4) rfl (iinc_eq (by decide)) (by decide) rfl (fun ls hl => ?_)
      refine lv_goto (tgt := 5) hx hb dX9_greatestPart_43 (by decide) ?_
      exact hk _ _ (Option.some.inj hf).symm (lv_sub hl [1, 2, 3, 4, 0] rfl)
    · have hf := fk c2 hf
      refine lv_iload_n hx hb dX9_greatestPart_23 rfl (lv_at hl 3 rfl) ?_
      refine lv_aload_n hx hb dX9_greatestPart_24 rfl (lv_at hl 0 rfl) ?_
      refine lv_iload hx hb dX9_greatestPart_25 (lv_at hl 4 rfl) ?_
      refine lv_iload_n hx hb dX9_greatestPart_27 rfl (lv_at hl 2 rfl) ?_
      obtain ⟨o3, e4, hf⟩ := lp_bind hf
      refine ro_Vi (x := o3) (As := [.int x4, .int x2]) (rest := [.int x3]) CF (c_X9_alikeTo l D cI cB cT a_w a_w_codes a_w_masks a_w_alike a_w_havers w_size w_codes w_masks w_alike w_havers x4 x2 e4) ok_X9_alikeTo wm_549 ⟨rfl, rfl, Nat.le_of_ble_eq_true rfl, Nat.le_of_ble_eq_true rfl⟩ hG hP 0 7 vq_7 rfl ce_w_0 rfl hl.1 rfl (Nat.le_of_ble_eq_true rfl) ⟨Nat.zero_le _, Nat.zero_le _⟩ dX9_greatestPart_28 ?_
      refine lv_iload_n hx hb dX9_greatestPart_31 rfl (lv_at hl 1 rfl) ?_
      refine lv_iand hx hb dX9_greatestPart_32 ?_
      obtain ⟨o5, e6, hf⟩ := lp_bind hf
      refine ro_Si (x := o5) (As := [.int (o3 &&& x1)]) (rest := [.int x3]) CF (c_J6_bitCount_0f7a4 l D cI cB cT (o3 &&& x1) e6) ok_J6_bitCount_0f7a4 wm_553 ⟨rfl, rfl, Nat.le_of_ble_eq_true rfl, Nat.le_of_ble_eq_true rfl⟩ hG wd_E_P rfl hl.1 rfl (Nat.le_of_ble_eq_true rfl) ⟨Nat.zero_le _, Nat.zero_le _⟩ dX9_greatestPart_33 ?_
      refine va_mmax hx hb (hml.trans hl.1.symm) hown (hts _ wm_684) (hts _ wm_173) (hts _ wm_89) (hts _ wm_174) (Nat.le_of_ble_eq_true rfl) (Nat.le_of_ble_eq_true rfl) (Nat.zero_le _) (Nat.zero_le _) dX9_greatestPart_36 ?_
      refine lv_istore_n (lv' := [(3, .int (if x3 < o5 then o5 else x3)), (0, .ref a_w), (1, .int x1), (2, .int x2), (4, .int x4)]) hx hb dX9_greatestPart_39 rfl hl (by decide) rfl (fun ls hl => ?_)
      refine lv_iinc (v := (x4 + (1 : Int32))) (lv' := [(4, .int (x4 + (1 : Int32))), (3, .int (if x3 < o5 then o5 else x3)), (0, .ref a_w), (1, .int x1), (2, .int x2)]) hx hb dX9_greatestPart_40 hl (k := 4) rfl (iinc_eq (by decide)) (by decide) rfl (fun ls hl => ?_)
      refine lv_goto (tgt := 5) hx hb dX9_greatestPart_43 (by decide) ?_
      exact hk _ _ (Option.some.inj hf).symm (lv_sub hl [2, 3, 4, 1, 0] rfl)
set_option maxHeartbeats 4000000 in
set_option maxRecDepth 100000 in
theorem L_X9_greatestPart_5_W {w_size : Int32} {w_codes : (Nat → Int32)} {w_masks : (Nat → Int32)} {w_alike : (Nat → Int32)} {w_havers : (Nat → Int32)} {x1 : Int32} {x2 : Int32} (CF : CallFix p m c cX9_greatestPart 5 s args wsAll RX9) (hG : Gd D cI cB cT s) {o : Int32} (hx0 : ∀ (ls : Array Slot), lv_has ls 5 [(3, .int o)] → W p l e rm_X9_greatestPart s m args below meth c s.heap [] 0 0 Q (F0 m 46 ls [])) : ∀ (n : Nat) (x3 : Int32) (x4 : Int32) (ls : Array Slot), va_P D vwCl (wd_w a_w a_w_codes a_w_masks a_w_alike a_w_havers cI cB cT w_size w_codes w_masks w_alike w_havers) s.heap → lv_has ls 5 [(0, .ref a_w), (1, .int x1), (2, .int x2), (3, .int x3), (4, .int x4)] → lp (fun v => B_X9_greatestPart_5 w_size w_alike x1 x2 v.1 v.2) n (x3, x4) = some o → W p l e rm_X9_greatestPart s m args below meth c s.heap [] 0 0 Q (F0 m 5 ls []) := by
  intro n
  induction n with
  | zero =>
    intro x3 x4 ls hP hl hf
    exact (lp_zero hf).elim
  | succ n ih =>
    intro x3 x4 ls hP hl hf
    obtain ⟨z, hz, hf⟩ := lp_succ hf
    refine B_X9_greatestPart_5_W CF hG ?_ ?_ hP hl hz
    · intro v' ls ez hl
      rcases hf with ⟨v2, ev, hf⟩ | ev
      · cases Sum.inl.inj (ez.symm.trans ev)
        exact ih v'.1 v'.2 ls hP hl hf
      · exact (lp_lr (ez.symm.trans ev)).elim
    · intro o' ls ez hl
      rcases hf with ⟨v2, ev, hf⟩ | ev
      · exact (lp_lr (ev.symm.trans ez)).elim
      · cases Sum.inr.inj (ez.symm.trans ev)
        exact hx0 ls  hl
set_option maxHeartbeats 4000000 in
set_option maxRecDepth 100000 in
theorem c_X9_greatestPart (l : Launch) (D : va_G) (cI cB cT : ClassId) (a_w a_w_codes a_w_masks a_w_alike a_w_havers : Nat) (w_size : Int32) (w_codes : (Nat → Int32)) (w_masks : (Nat → Int32)) (w_alike : (Nat → Int32)) (w_havers : (Nat → Int32)) (p1 : Int32) (p2 : Int32) {z : Int32} (hf : f_X9_greatestPart w_size w_alike p1 p2 = some z) :
    Met l yX9_greatestPart (Cond.code yX9_greatestPart cX9_greatestPart 5 (some .int) :: wsAll) rm_X9_greatestPart (Pro [.ref a_w, .int p1, .int p2] D cI cB cT (wd_w a_w a_w_codes a_w_masks a_w_alike a_w_havers cI cB cT w_size w_codes w_masks w_alike w_havers)) (Qr (some (.int z))) 0 0 (fun _ => False) := by
  refine ro_intro RX9 (by decide +kernel) rfl (Nat.le_of_ble_eq_true rfl) ?_
  intro p e s m below meth c ls CF hr hlk hG hP hl
  have hl : lv_has ls 5 [(0, .ref a_w), (1, .int p1), (2, .int p2)] := hl
  obtain ⟨hx, hb, hml, hown, hts⟩ := id CF
  unfold f_X9_greatestPart at hf
  refine lv_iconst (v := (0 : Int32)) hx hb dX9_greatestPart_0 (by decide) ?_
  refine lv_istore_n (lv' := [(3, .int (0 : Int32)), (0, .ref a_w), (1, .int p1), (2, .int p2)]) hx hb dX9_greatestPart_1 rfl hl (by decide) rfl (fun ls hl => ?_)
  refine lv_iconst (v := (0 : Int32)) hx hb dX9_greatestPart_2 (by decide) ?_
  refine lv_istore (lv' := [(4, .int (0 : Int32)), (3, .int (0 : Int32)), (0, .ref a_w), (1, .int p1), (2, .int p2)]) hx hb dX9_greatestPart_3 hl (by decide) rfl (fun ls hl => ?_)
  obtain ⟨o7, e8, hf⟩ := lp_bind hf
  refine L_X9_greatestPart_5_W CF hG ?_ KN _ _ _ hP (lv_sub hl [2, 3, 4, 1, 0] rfl) e8
  intro ls hl
  refine lv_iload_n hx hb dX9_greatestPart_46 rfl (lv_at hl 0 rfl) ?_
  obtain rfl := Option.some.inj hf
  exact ro_iret CF hr hlk dX9_greatestPart_47
end M_X9_greatestPart
