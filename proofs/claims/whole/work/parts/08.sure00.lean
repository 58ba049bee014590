section M_X6_isParting
variable {p : Program} {l : Launch} {e : Env} {s : State} {m : MethodId} {args : Array Value} {below : List Frame} {meth : Method} {c : Code} {Q : State → Prop} {A : Nat → Prop} {D : va_G} {cI cB cT : ClassId}
variable {a_w a_w_codes a_w_masks a_w_alike a_w_havers : Nat}
def rm_X6_isParting : Room := { frames := 1, cells := 0, slots := 0, locals := 22 }
def f_X6_isParting (w_size : Int32) (w_alike : (Nat → Int32)) (p2 : Int32) (p3 : Int32) : Option (Int32) := ((f_X10_leastOf p2).bind fun o1 => ((f_X9_alikeTo w_size w_alike o1 p3).bind fun o3 => (if (p2 &&& (o3 ^^^ (-1 : Int32))) = 0 then some (0 : Int32) else some (1 : Int32))))
set_option maxHeartbeats 4000000 in
set_option maxRecDepth 100000 in
theorem c_X6_isParting (l : Launch) (D : va_G) (cI cB cT : ClassId) (a_w a_w_codes a_w_masks a_w_alike a_w_havers : Nat) (w_size : Int32) (w_codes : (Nat → Int32)) (w_masks : (Nat → Int32)) (w_alike : (Nat → Int32)) (w_havers : (Nat → Int32)) (p2 : Int32) (p3 : Int32) {z : Int32} (hf : f_X6_isParting w_size w_alike p2 p3 = some z) :
    Met l yX6_isParting (Cond.code yX6_isParting cX6_isParting 3 (some .boolean) :: wsAll) rm_X6_isParting (Pro [.ref a_w, .int p2, .int p3] D cI cB cT (wd_w a_w a_w_codes a_w_masks a_w_alike a_w_havers cI cB cT w_size w_codes w_masks w_alike w_havers)) (Qr (some (.int z))) 0 0 (fun _ => False) := by
  refine ro_intro RX6 (by decide +kernel) rfl (Nat.le_of_ble_eq_true rfl) ?_
  intro p e s m below meth c ls CF hr hlk hG hP hl
  have hl : lv_has ls 3 [(0, .ref a_w), (1, .int p2), (2, .int p3)] := hl
  obtain ⟨hx, hb, hml, hown, hts⟩ := id CF
  unfold f_X6_isParting at hf
  refine lv_iload_n hx hb dX6_isParting_0 rfl (lv_at hl 1 rfl) ?_
  refine lv_aload_n hx hb dX6_isParting_1 rfl (lv_at hl 0 rfl) ?_
  refine lv_iload_n hx hb dX6_isParting_2 rfl (lv_at hl 1 rfl) ?_
  obtain ⟨o1, e2, hf⟩ := lp_bind hf
  refine ro_SNi (x := o1) (As := [.int p2]) (rest := [.ref a_w, .int p2]) CF (c_X10_leastOf l D cI cB cT p2 e2) ok_X10_leastOf nm_11 ⟨rfl, rfl, Nat.le_of_ble_eq_true rfl, Nat.le_of_ble_eq_true rfl⟩ hG wd_E_P rfl hl.1 rfl (Nat.le_of_ble_eq_true rfl) ⟨Nat.zero_le _, Nat.zero_le _⟩ dX6_isParting_3 ?_
  refine lv_iload_n hx hb dX6_isParting_6 rfl (lv_at hl 2 rfl) ?_
  obtain ⟨o3, e4, hf⟩ := lp_bind hf
  refine ro_Vi (x := o3) (As := [.int o1, .int p3]) (rest := [.int p2]) CF (c_X9_alikeTo l D cI cB cT a_w a_w_codes a_w_masks a_w_alike a_w_havers w_size w_codes w_masks w_alike w_havers o1 p3 e4) ok_X9_alikeTo wm_706 ⟨rfl, rfl, Nat.le_of_ble_eq_true rfl, Nat.le_of_ble_eq_true rfl⟩ hG hP 0 7 vq_7 rfl ce_w_0 rfl hl.1 rfl (Nat.le_of_ble_eq_true rfl) ⟨Nat.zero_le _, Nat.zero_le _⟩ dX6_isParting_7 ?_
  refine lv_iconst (v := (-1 : Int32)) hx hb dX6_isParting_10 (by decide) ?_
  refine lv_ixor hx hb dX6_isParting_11 ?_
  refine lv_iand hx hb dX6_isParting_12 ?_
  refine lv_if_eq (tgt := 20) hx hb dX6_isParting_13 (by decide) (fun c5 => ?_) (fun c5 => ?_)
  · have hf := tk c5 hf
    refine lv_iconst (v := (0 : Int32)) hx hb dX6_isParting_20 (by decide) ?_
    obtain rfl := Option.some.inj hf
    exact ro_zret CF hr hlk (Or.inl rfl) dX6_isParting_21
  · have hf := fk c5 hf
    refine lv_iconst (v := (1 : Int32)) hx hb dX6_isParting_16 (by decide) ?_
    refine lv_goto (tgt := 21) hx hb dX6_isParting_17 (by decide) ?_
    obtain rfl := Option.some.inj hf
    exact ro_zret CF hr hlk (Or.inr rfl) dX6_isParting_21
end M_X6_isParting
section M_X6_fewestOf
variable {p : Program} {l : Launch} {e : Env} {s : State} {m : MethodId} {args : Array Value} {below : List Frame} {meth : Method} {c : Code} {Q : State → Prop} {A : Nat → Prop} {D : va_G} {cI cB cT : ClassId}
variable {a_su a_su_fewest : Nat}
def rm_X6_fewestOf : Room := { frames := 1, cells := 0, slots := 0, locals := 21 }
def f_X6_fewestOf (su_fewest : (Nat → Int32)) (p1 : Int32) : Option (Int32) := (if p1 = 0 then some (0 : Int32) else ((f_X10_isBelow p1 (Int32.ofNat 256)).bind fun o2 => (if o2 = 0 then some (0 : Int32) else (if oob p1 256 then none else some (su_fewest (p1).toNatClampNeg)))))
set_option maxHeartbeats 4000000 in
set_option maxRecDepth 100000 in
theorem c_X6_fewestOf (l : Launch) (D : va_G) (cI cB cT : ClassId) (a_su a_su_fewest : Nat) (su_fewest : (Nat → Int32)) (p1 : Int32) {z : Int32} (hf : f_X6_fewestOf su_fewest p1 = some z) :
    Met l yX6_fewestOf (Cond.code yX6_fewestOf cX6_fewestOf 2 (some .int) :: wsAll) rm_X6_fewestOf (Pro [.ref a_su, .int p1] D cI cB cT (wd_su a_su a_su_fewest cI cB cT su_fewest)) (Qr (some (.int z))) 0 0 (fun _ => False) := by
  refine ro_intro RX6 (by decide +kernel) rfl (Nat.le_of_ble_eq_true rfl) ?_
  intro p e s m below meth c ls CF hr hlk hG hP hl
  have hl : lv_has ls 2 [(0, .ref a_su), (1, .int p1)] := hl
  obtain ⟨hx, hb, hml, hown, hts⟩ := id CF
  unfold f_X6_fewestOf at hf
  refine lv_iload_n hx hb dX6_fewestOf_0 rfl (lv_at hl 1 rfl) ?_
  refine lv_if_eq (tgt := 25) hx hb dX6_fewestOf_1 (by decide) (fun c1 => ?_) (fun c1 => ?_)
  · have hf := tk c1 hf
    refine lv_iconst (v := (0 : Int32)) hx hb dX6_fewestOf_25 (by decide) ?_
    obtain rfl := Option.some.inj hf
    exact ro_iret CF hr hlk dX6_fewestOf_26
  · have hf := fk c1 hf
    refine lv_iload_n hx hb dX6_fewestOf_4 rfl (lv_at hl 1 rfl) ?_
    refine lv_aload_n hx hb dX6_fewestOf_5 rfl (lv_at hl 0 rfl) ?_
    refine va_get (D := D) (ci := 4) (v := .ref a_su_fewest) (C := RX6) (T := TX6) (N := 1) hx hb hts fin_X6 hown hG.1 hP 0 ce_su_0 vq_4 0 (by decide) (hts _ wm_286) (fun _ h9 => h9) rfl dX6_fewestOf_6 ?_
    refine va_alen (v := (Int32.ofNat 256)) hx hb hG.1 hP 1 0 ce_su_1 rfl rfl dX6_fewestOf_9 ?_
    obtain ⟨o2, e3, hf⟩ := lp_bind hf
    refine ro_SNi (x := o2) (As := [.int p1, .int (Int32.ofNat 256)]) (rest := []) CF (c_X10_isBelow l D cI cB cT p1 (Int32.ofNat 256) e3) ok_X10_isBelow nm_12 ⟨rfl, rfl, Nat.le_of_ble_eq_true rfl, Nat.le_of_ble_eq_true rfl⟩ hG wd_E_P rfl hl.1 rfl (Nat.le_of_ble_eq_true rfl) ⟨Nat.zero_le _, Nat.zero_le _⟩ dX6_fewestOf_10 ?_
    refine lv_if_eq (tgt := 25) hx hb dX6_fewestOf_13 (by decide) (fun c4 => ?_) (fun c4 => ?_)
    · have hf := tk c4 hf
      refine lv_iconst (v := (0 : Int32)) hx hb dX6_fewestOf_25 (by decide) ?_
      obtain rfl := Option.some.inj hf
      exact ro_iret CF hr hlk dX6_fewestOf_26
    · have hf := fk c4 hf
      refine lv_aload_n hx hb dX6_fewestOf_16 rfl (lv_at hl 0 rfl) ?_
      refine va_get (D := D) (ci := 4) (v := .ref a_su_fewest) (C := RX6) (T := TX6) (N := 1) hx hb hts fin_X6 hown hG.1 hP 0 ce_su_0 vq_4 0 (by decide) (hts _ wm_286) (fun _ h9 => h9) rfl dX6_fewestOf_17 ?_
      refine lv_iload_n hx hb dX6_fewestOf_20 rfl (lv_at hl 1 rfl) ?_
      obtain ⟨n5, hf⟩ := nk hf
      refine va_iald (f := su_fewest) hx hb hG.1 hP 1 0 ce_su_1 rfl n5 dX6_fewestOf_21 ?_
      refine lv_goto (tgt := 26) hx hb dX6_fewestOf_22 (by decide) ?_
      obtain rfl := Option.some.inj hf
      exact ro_iret CF hr hlk dX6_fewestOf_26
end M_X6_fewestOf
section M_X6_worstBy
variable {p : Program} {l : Launch} {e : Env} {s : State} {m : MethodId} {args : Array Value} {below : List Frame} {meth : Method} {c : Code} {Q : State → Prop} {A : Nat → Prop} {D : va_G} {cI cB cT : ClassId}
variable {a_su a_su_fewest a_w a_w_codes a_w_masks a_w_alike a_w_havers : Nat}
def rm_X6_worstBy : Room := { frames := 2, cells := 0, slots := 0, locals := 42 }
def J_X6_worstBy_39 (su_fewest : (Nat → Int32)) (w_size : Int32) (w_alike : (Nat → Int32)) (x2 : Int32) (x3 : Int32) (x4 : Int32) (x5 : Int32) (y0 : Int32) : Option ((Int32 × Int32) ⊕ (Int32)) := ((f_X9_alikeTo w_size w_alike x5 x3).bind fun o6 => ((f_X6_fewestOf su_fewest (x2 &&& o6)).bind fun o8 => some (Sum.inl ((if x4 < (y0 + o8) then (y0 + o8) else x4), (x5 + (1 : Int32))))))
def B_X6_worstBy_6 (su_fewest : (Nat → Int32)) (w_size : Int32) (w_masks : (Nat → Int32)) (w_alike : (Nat → Int32)) (x2 : Int32) (x3 : Int32) (x4 : Int32) (x5 : Int32) : Option ((Int32 × Int32) ⊕ (Int32)) := (if w_size ≤ x5 then some (Sum.inr x4) else (if ((x2 >>> (x5 &&& 31)) &&& (1 : Int32)) = 0 then some (Sum.inl (x4, (x5 + (1 : Int32)))) else ((f_X9_maskOf w_size w_masks x5 x3).bind fun o3 => (if o3 = 0 then J_X6_worstBy_39 su_fewest w_size w_alike x2 x3 x4 x5 (1 : Int32) else J_X6_worstBy_39 su_fewest w_size w_alike x2 x3 x4 x5 (0 : Int32)))))
def f_X6_worstBy (su_fewest : (Nat → Int32)) (w_size : Int32) (w_masks : (Nat → Int32)) (w_alike : (Nat → Int32)) (p2 : Int32) (p3 : Int32) : Option (Int32) := ((lp (fun v => B_X6_worstBy_6 su_fewest w_size w_masks w_alike p2 p3 v.1 v.2) KN ((0 : Int32), (0 : Int32))).bind fun o10 => some o10)
set_option maxHeartbeats 4000000 in
set_option maxRecDepth 100000 in
theorem J_X6_worstBy_39_W {su_fewest : (Nat → Int32)} {w_size : Int32} {w_codes : (Nat → Int32)} {w_masks : (Nat → Int32)} {w_alike : (Nat → Int32)} {w_havers : (Nat → Int32)} {x2 : Int32} {x3 : Int32} {x4 : Int32} {x5 : Int32} {y0 : Int32} (CF : CallFix p m c cX6_worstBy 7 s args wsAll RX6) (hG : Gd D cI cB cT s) {z : (Int32 × Int32) ⊕ (Int32)} (hk : ∀ (v' : Int32 × Int32) (ls : Array Slot), z = Sum.inl v' → lv_has ls 7 [(0, .ref a_su), (1, .ref a_w), (2, .int x2), (3, .int x3), (4, .int (v'.1)), (5, .int (v'.2))] → W p l e rm_X6_worstBy s m args below meth c s.heap [] 0 0 Q (F0 m 6 ls [])) (hx0 : ∀ (o' : Int32) (ls : Array Slot), z = Sum.inr o' → lv_has ls 7 [(4, .int (o'))] → W p l e rm_X6_worstBy s m args below meth c s.heap [] 0 0 Q (F0 m 70 ls [])) {ls : Array Slot} (hP : va_P D vwCl (wd_su_w a_su a_su_fewest a_w a_w_codes a_w_masks a_w_alike a_w_havers cI cB cT su_fewest w_size w_codes w_masks w_alike w_havers) s.heap) (hl : lv_has ls 7 [(0, .ref a_su), (1, .ref a_w), (2, .int x2), (3, .int x3), (4, .int x4), (5, .int x5)]) (hf : J_X6_worstBy_39 su_fewest w_size w_alike x2 x3 x4 x5 y0 = some z) : W p l e rm_X6_worstBy s m args below meth c s.heap [] 0 0 Q (F0 m 39 ls [.int y0]) := by
  obtain ⟨hx, hb, hml, hown, hts⟩ := id CF
  unfold J_X6_worstBy_39 at hf
  refine lv_istore (lv' := [(6, .int y0), (0, .ref a_su), (1, .ref a_w), (2, .int x2), (3, .int x3), (4, .int x4), (5, .int x5)]) hx hb dX6_worstBy_39 hl (by decide) rfl (fun ls hl => ?_)
  refine lv_iload hx hb dX6_worstBy_41 (lv_at hl 5 rfl) ?_
  refine lv_iload hx hb dX6_worstBy_43 (lv_at hl 0 rfl) ?_
  refine lv_aload_n hx hb dX6_worstBy_45 rfl (lv_at hl 1 rfl) ?_
  refine lv_iload_n hx hb dX6_worstBy_46 rfl (lv_at hl 3 rfl) ?_
  refine lv_aload_n hx hb dX6_worstBy_47 rfl (lv_at hl 2 rfl) ?_
  refine lv_iload hx hb dX6_worstBy_48 (lv_at hl 6 rfl) ?_
  refine lv_iload_n hx hb dX6_worstBy_50 rfl (lv_at hl 4 rfl) ?_
  obtain ⟨o6, e7, hf⟩ := lp_bind hf
  have hPc : va_P D vwCl (wd_w a_w a_w_codes a_w_masks a_w_alike a_w_havers cI cB cT w_size w_codes w_masks w_alike w_havers) s.heap := su_2 hP
  refine ro_Vi (x := o6) (As := [.int x5, .int x3]) (rest := [.int x2, .ref a_su, .int y0, .int x4]) CF (c_X9_alikeTo l D cI cB cT a_w a_w_codes a_w_masks a_w_alike a_w_havers w_size w_codes w_masks w_alike w_havers x5 x3 e7) ok_X9_alikeTo wm_706 ⟨rfl, rfl, Nat.le_of_ble_eq_true rfl, Nat.le_of_ble_eq_true rfl⟩ hG hPc 0 7 vq_7 rfl ce_w_0 rfl hl.1 rfl (Nat.le_of_ble_eq_true rfl) ⟨Nat.zero_le _, Nat.zero_le _⟩ dX6_worstBy_51 ?_
  refine lv_iand hx hb dX6_worstBy_54 ?_
  obtain ⟨o8, e9, hf⟩ := lp_bind hf
  have hPc : va_P D vwCl (wd_su a_su a_su_fewest cI cB cT su_fewest) s.heap := su_3 hP
  refine ro_Vi (x := o8) (As := [.int (x2 &&& o6)]) (rest := [.int y0, .int x4]) CF (c_X6_fewestOf l D cI cB cT a_su a_su_fewest su_fewest (x2 &&& o6) e9) ok_X6_fewestOf wm_712 ⟨rfl, rfl, Nat.le_of_ble_eq_true rfl, Nat.le_of_ble_eq_true rfl⟩ hG hPc 0 4 vq_4 rfl ce_su_0 rfl hl.1 rfl (Nat.le_of_ble_eq_true rfl) ⟨Nat.zero_le _, Nat.zero_le _⟩ dX6_worstBy_55 ?_
  refine lv_iadd hx hb dX6_worstBy_58 ?_
  refine va_mmax hx hb (hml.trans hl.1.symm) hown (hts _ wm_717) (hts _ wm_173) (hts _ wm_89) (hts _ wm_174) (Nat.le_of_ble_eq_true rfl) (Nat.le_of_ble_eq_true rfl) (Nat.zero_le _) (Nat.zero_le _) dX6_worstBy_59 ?_
  refine lv_istore (lv' := [(4, .int (if x4 < (y0 + o8) then (y0 + o8) else x4)), (6, .int y0), (0, .ref a_su), (1, .ref a_w), (2, .int x2), (3, .int x3), (5, .int x5)]) hx hb dX6_worstBy_62 hl (by decide) rfl (fun ls hl => ?_)
  refine lv_iinc (v := (x5 + (1 : Int32))) (lv' := [(5, .int (x5 + (1 : Int32))), (4, .int (if x4 < (y0 + o8) then (y0 + o8) else x4)), (6, .int y0), (0, .ref a_su), (1, .ref a_w), (2, .int x2), (3, .int x3)]) hx hb dX6_worstBy_64 hl (k := 6) rfl (iinc_eq (by decide)) (by decide) rfl (fun ls hl => ?_)
  refine lv_goto (tgt := 6) hx hb dX6_worstBy_67 (by decide) ?_
  exact hk _ _ (Option.some.inj hf).symm (lv_sub hl [3, 4, 5, 6, 1, 0] rfl)
set_option maxHeartbeats 4000000 in
set_option maxRecDepth 100000 in
theorem B_X6_worstBy_6_W {su_fewest : (Nat → Int32)} {w_size : Int32} {w_codes : (Nat → Int32)} {w_masks : (Nat → Int32)} {w_alike : (Nat → Int32)} {w_havers : (Nat → Int32)} {x2 : Int32} {x3 : Int32} {x4 : Int32} {x5 : Int32} (CF : CallFix p m c cX6_worstBy 7 s args wsAll RX6) (hG : Gd D cI cB cT s) {z : (Int32 × Int32) ⊕ (Int32)} (hk : ∀ (v' : Int32 × Int32) (ls : Array Slot), z = Sum.inl v' → lv_has ls 7 [(0, .ref a_su), (1, .ref a_w), (2, .int x2), (3, .int x3), (4, .int (v'.1)), (5, .int (v'.2))] → W p l e rm_X6_worstBy s m args below meth c s.heap [] 0 0 Q (F0 m 6 ls [])) (hx0 : ∀ (o' : Int32) (ls : Array Slot), z = Sum.inr o' → lv_has ls 7 [(4, .int (o'))] → W p l e rm_X6_worstBy s m args below meth c s.heap [] 0 0 Q (F0 m 70 ls [])) {ls : Array Slot} (hP : va_P D vwCl (wd_su_w a_su a_su_fewest a_w a_w_codes a_w_masks a_w_alike a_w_havers cI cB cT su_fewest w_size w_codes w_masks w_alike w_havers) s.heap) (hl : lv_has ls 7 [(0, .ref a_su), (1, .ref a_w), (2, .int x2), (3, .int x3), (4, .int x4), (5, .int x5)]) (hf : B_X6_worstBy_6 su_fewest w_size w_masks w_alike x2 x3 x4 x5 = some z) : W p l e rm_X6_worstBy s m args below meth c s.heap [] 0 0 Q (F0 m 6 ls []) := by
  obtain ⟨hx, hb, hml, hown, hts⟩ := id CF
  unfold B_X6_worstBy_6 at hf
  refine lv_iload hx hb dX6_worstBy_6 (lv_at hl 5 rfl) ?_
  refine lv_aload_n hx hb dX6_worstBy_8 rfl (lv_at hl 1 rfl) ?_
  refine va_get (D := D) (ci := 7) (v := .int w_size) (C := RX9) (T := TX9) (N := 5) hx hb hts fin_X9 hown hG.1 hP 2 ce_su_w_2 vq_7 0 (by decide) (hts _ wm_126) (fun _ h9 => h9) rfl dX6_worstBy_9 ?_
  refine lv_icmp_ge (tgt := 70) hx hb dX6_worstBy_12 (by decide) (fun c1 => ?_) (fun c1 => ?_)
  · have hf := tk c1 hf
    exact hx0 _ _ (Option.some.inj hf).symm (lv_sub hl [4] rfl)
  · have hf := fk c1 hf
    refine lv_iload_n hx hb dX6_worstBy_15 rfl (lv_at hl 2 rfl) ?_
    refine lv_iload hx hb dX6_worstBy_16 (lv_at hl 5 rfl) ?_
    refine lv_ishr hx hb dX6_worstBy_18 ?_
    refine lv_iconst (v := (1 : Int32)) hx hb dX6_worstBy_19 (by decide) ?_
    refine lv_iand hx hb dX6_worstBy_20 ?_
    refine lv_if_eq (tgt := 64) hx hb dX6_worstBy_21 (by decide) (fun c2 => ?_) (fun c2 => ?_)
    · have hf := tk c2 hf
      refine lv_iinc (v := (x5 + (1 : Int32))) (lv' := [(5, .int (x5 + (1 : Int32))), (0, .ref a_su), (1, .ref a_w), (2, .int x2), (3, .int x3), (4, .int x4)]) hx hb dX6_worstBy_64 hl (k := 5) rfl (iinc_eq (by decide)) (by decide) rfl (fun ls hl => ?_)
      refine lv_goto (tgt := 6) hx hb dX6_worstBy_67 (by decide) ?_
      exact hk _ _ (Option.some.inj hf).symm (lv_sub hl [1, 2, 3, 4, 5, 0] rfl)
    · have hf := fk c2 hf
      refine lv_aload_n hx hb dX6_worstBy_24 rfl (lv_at hl 1 rfl) ?_
      refine lv_iload hx hb dX6_worstBy_25 (lv_at hl 5 rfl) ?_
      refine lv_iload_n hx hb dX6_worstBy_27 rfl (lv_at hl 3 rfl) ?_
      obtain ⟨o3, e4, hf⟩ := lp_bind hf
      have hPc : va_P D vwCl (wd_w a_w a_w_codes a_w_masks a_w_alike a_w_havers cI cB cT w_size w_codes w_masks w_alike w_havers) s.heap := su_2 hP
      refine ro_Vi (x := o3) (As := [.int x5, .int x3]) (rest := []) CF (c_X9_maskOf l D cI cB cT a_w a_w_codes a_w_masks a_w_alike a_w_havers w_size w_codes w_masks w_alike w_havers x5 x3 e4) ok_X9_maskOf wm_711 ⟨rfl, rfl, Nat.le_of_ble_eq_true rfl, Nat.le_of_ble_eq_true rfl⟩ hG hPc 0 7 vq_7 rfl ce_w_0 rfl hl.1 rfl (Nat.le_of_ble_eq_true rfl) ⟨Nat.zero_le _, Nat.zero_le _⟩ dX6_worstBy_28 ?_
      refine lv_if_ne (tgt := 38) hx hb dX6_worstBy_31 (by decide) (fun c5 => ?_) (fun c5 => ?_)
      · have hf := fk c5 hf
        refine lv_iconst (v := (0 : Int32)) hx hb dX6_worstBy_38 (by decide) ?_
        exact J_X6_worstBy_39_W CF hG hk hx0 hP (lv_sub hl [0, 1, 2, 3, 4, 5] rfl) hf
      · have hf := tk c5 hf
        refine lv_iconst (v := (1 : Int32)) hx hb dX6_worstBy_34 (by decide) ?_
        refine lv_goto (tgt := 39) hx hb dX6_worstBy_35 (by decide) ?_
        exact J_X6_worstBy_39_W CF hG hk hx0 hP (lv_sub hl [0, 1, 2, 3, 4, 5] rfl) hf
set_option maxHeartbeats 4000000 in
set_option maxRecDepth 100000 in
theorem L_X6_worstBy_6_W {su_fewest : (Nat → Int32)} {w_size : Int32} {w_codes : (Nat → Int32)} {w_masks : (Nat → Int32)} {w_alike : (Nat → Int32)} {w_havers : (Nat → Int32)} {x2 : Int32} {x3 : Int32} (CF : CallFix p m c cX6_worstBy 7 s args wsAll RX6) (hG : Gd D cI cB cT s) {o : Int32} (hx0 : ∀ (ls : Array Slot), lv_has ls 7 [(4, .int o)] → W p l e rm_X6_worstBy s m args below meth c s.heap [] 0 0 Q (F0 m 70 ls [])) : ∀ (n : Nat) (x4 : Int32) (x5 : Int32) (ls : Array Slot), va_P D vwCl (wd_su_w a_su a_su_fewest a_w a_w_codes a_w_masks a_w_alike a_w_havers cI cB cT su_fewest w_size w_codes w_masks w_alike w_havers) s.heap → lv_has ls 7 [(0, .ref a_su), (1, .ref a_w), (2, .int x2), (3, .int x3), (4, .int x4), (5, .int x5)] → lp (fun v => B_X6_worstBy_6 su_fewest w_size w_masks w_alike x2 x3 v.1 v.2) n (x4, x5) = some o → W p l e rm_X6_worstBy s m args below meth c s.heap [] 0 0 Q (F0 m 6 ls []) := by
  intro n
  induction n with
  | zero =>
    intro x4 x5 ls hP hl hf
    exact (lp_zero hf).elim
  | succ n ih =>
    intro x4 x5 ls hP hl hf
    obtain ⟨z, hz, hf⟩ := lp_succ hf
    refine B_X6_worstBy_6_W CF hG ?_ ?_ hP hl hz
    · intro v' ls ez hl
      rcases hf with ⟨v2, ev, hf⟩ | ev
      · cases Sum.inl.inj (ez.symm.trans ev)
        exact ih v'.1 v'.2 ls hP hl hf
      · exact (lp_lr (ez.symm.trans ev)).elim
    · intro o' ls ez hl
      rcases hf with ⟨v2, ev, hf⟩ | ev
      · exact (lp_lr (ev.symm.trans ez)).elim
      · cases Sum.inr.inj (ez.symm.trans ev)
        exact hx0 ls  hl
set_option maxHeartbeats 4000000 in
set_option maxRecDepth 100000 in
theorem c_X6_worstBy (l : Launch) (D : va_G) (cI cB cT : ClassId) (a_su a_su_fewest a_w a_w_codes a_w_masks a_w_alike a_w_havers : Nat) (su_fewest : (Nat → Int32)) (w_size : Int32) (w_codes : (Nat → Int32)) (w_masks : (Nat → Int32)) (w_alike : (Nat → Int32)) (w_havers : (Nat → Int32)) (p2 : Int32) (p3 : Int32) {z : Int32} (hf : f_X6_worstBy su_fewest w_size w_masks w_alike p2 p3 = some z) :
    Met l yX6_worstBy (Cond.code yX6_worstBy cX6_worstBy 7 (some .int) :: wsAll) rm_X6_worstBy (Pro [.ref a_su, .ref a_w, .int p2, .int p3] D cI cB cT (wd_su_w a_su a_su_fewest a_w a_w_codes a_w_masks a_w_alike a_w_havers cI cB cT su_fewest w_size w_codes w_masks w_alike w_havers)) (Qr (some (.int z))) 0 0 (fun _ => False) := by
  refine ro_intro RX6 (by decide +kernel) rfl (Nat.le_of_ble_eq_true rfl) ?_
  intro p e s m below meth c ls CF hr hlk hG hP hl
  have hl : lv_has ls 7 [(0, .ref a_su), (1, .ref a_w), (2, .int p2), (3, .int p3)] := hl
  obtain ⟨hx, hb, hml, hown, hts⟩ := id CF
  unfold f_X6_worstBy at hf
  refine lv_iconst (v := (0 : Int32)) hx hb dX6_worstBy_0 (by decide) ?_
  refine lv_istore (lv' := [(4, .int (0 : Int32)), (0, .ref a_su), (1, .ref a_w), (2, .int p2), (3, .int p3)]) hx hb dX6_worstBy_1 hl (by decide) rfl (fun ls hl => ?_)
  refine lv_iconst (v := (0 : Int32)) hx hb dX6_worstBy_3 (by decide) ?_
  refine lv_istore (lv' := [(5, .int (0 : Int32)), (4, .int (0 : Int32)), (0, .ref a_su), (1, .ref a_w), (2, .int p2), (3, .int p3)]) hx hb dX6_worstBy_4 hl (by decide) rfl (fun ls hl => ?_)
  obtain ⟨o10, e11, hf⟩ := lp_bind hf
  refine L_X6_worstBy_6_W CF hG ?_ KN _ _ _ hP (lv_sub hl [2, 3, 4, 5, 1, 0] rfl) e11
  intro ls hl
  refine lv_iload hx hb dX6_worstBy_70 (lv_at hl 0 rfl) ?_
  obtain rfl := Option.some.inj hf
  exact ro_iret CF hr hlk dX6_worstBy_72
end M_X6_worstBy
section M_X6_reckonSet
variable {p : Program} {l : Launch} {e : Env} {s : State} {m : MethodId} {args : Array Value} {below : List Frame} {meth : Method} {c : Code} {Q : State → Prop} {A : Nat → Prop} {D : va_G} {cI cB cT : ClassId}
variable {a_su a_su_fewest a_w a_w_codes a_w_masks a_w_alike a_w_havers : Nat}
def rm_X6_reckonSet : Room := { frames := 3, cells := 0, slots := 0, locals := 68 }
def B_X6_reckonSet_6 (su_fewest : (Nat → Int32)) (w_size : Int32) (w_masks : (Nat → Int32)) (w_alike : (Nat → Int32)) (x2 : Int32) (x3 : Int32) (x4 : Int32) : Option ((Int32 × Int32) ⊕ (Int32)) := (if (10 : Int32) ≤ x4 then some (Sum.inr x3) else ((f_X6_isParting w_size w_alike x2 x4).bind fun o2 => (if o2 = 0 then some (Sum.inl (x3, (x4 + (1 : Int32)))) else ((f_X6_worstBy su_fewest w_size w_masks w_alike x2 x4).bind fun o5 => some (Sum.inl ((if o5 < x3 then o5 else x3), (x4 + (1 : Int32))))))))
def f_X6_reckonSet (su_fewest : (Nat → Int32)) (w_size : Int32) (w_masks : (Nat → Int32)) (w_alike : (Nat → Int32)) (p2 : Int32) : Option (Int32) := ((lp (fun v => B_X6_reckonSet_6 su_fewest w_size w_masks w_alike p2 v.1 v.2) KN ((10 : Int32), (0 : Int32))).bind fun o7 => some o7)
set_option maxHeartbeats 4000000 in
set_option maxRecDepth 100000 in
theorem B_X6_reckonSet_6_W {su_fewest : (Nat → Int32)} {w_size : Int32} {w_codes : (Nat → Int32)} {w_masks : (Nat → Int32)} {w_alike : (Nat → Int32)} {w_havers : (Nat → Int32)} {x2 : Int32} {x3 : Int32} {x4 : Int32} (CF : CallFix p m c cX6_reckonSet 5 s args wsAll RX6) (hG : Gd D cI cB cT s) {z : (Int32 × Int32) ⊕ (Int32)} (hk : ∀ (v' : Int32 × Int32) (ls : Array Slot), z = Sum.inl v' → lv_has ls 5 [(0, .ref a_su), (1, .ref a_w), (2, .int x2), (3, .int (v'.1)), (4, .int (v'.2))] → W p l e rm_X6_reckonSet s m args below meth c s.heap [] 0 0 Q (F0 m 6 ls [])) (hx0 : ∀ (o' : Int32) (ls : Array Slot), z = Sum.inr o' → lv_has ls 5 [(3, .int (o'))] → W p l e rm_X6_reckonSet s m args below meth c s.heap [] 0 0 Q (F0 m 42 ls [])) {ls : Array Slot} (hP : va_P D vwCl (wd_su_w a_su a_su_fewest a_w a_w_codes a_w_masks a_w_alike a_w_havers cI cB cT su_fewest w_size w_codes w_masks w_alike w_havers) s.heap) (hl : lv_has ls 5 [(0, .ref a_su), (1, .ref a_w), (2, .int x2), (3, .int x3), (4, .int x4)]) (hf : B_X6_reckonSet_6 su_fewest w_size w_masks w_alike x2 x3 x4 = some z) : W p l e rm_X6_reckonSet s m args below meth c s.heap [] 0 0 Q (F0 m 6 ls []) := by
  obtain ⟨hx, hb, hml, hown, hts⟩ := id CF
  unfold B_X6_reckonSet_6 at hf
  refine lv_iload hx hb dX6_reckonSet_6 (lv_at hl 4 rfl) ?_
  refine lv_bipush (v := (10 : Int32)) hx hb dX6_reckonSet_8 (by decide) ?_
  refine lv_icmp_ge (tgt := 42) hx hb dX6_reckonSet_10 (by decide) (fun c1 => ?_) (fun c1 => ?_)
  · have hf := tk c1 hf
    exact hx0 _ _ (Option.some.inj hf).symm (lv_sub hl [3] rfl)
  · have hf := fk c1 hf
    refine lv_aload_n hx hb dX6_reckonSet_13 rfl (lv_at hl 1 rfl) ?_
    refine lv_iload_n hx hb dX6_reckonSet_14 rfl (lv_at hl 2 rfl) ?_
    refine lv_iload hx hb dX6_reckonSet_15 (lv_at hl 4 rfl) ?_
    obtain ⟨o2, e3, hf⟩ := lp_bind hf
    have hPc : va_P D vwCl (wd_w a_w a_w_codes a_w_masks a_w_alike a_w_havers cI cB cT w_size w_codes w_masks w_alike w_havers) s.heap := su_2 hP
    refine ro_Si (x := o2) (As := [.ref a_w, .int x2, .int x4]) (rest := []) CF (c_X6_isParting l D cI cB cT a_w a_w_codes a_w_masks a_w_alike a_w_havers w_size w_codes w_masks w_alike w_havers x2 x4 e3) ok_X6_isParting wm_702 ⟨rfl, rfl, Nat.le_of_ble_eq_true rfl, Nat.le_of_ble_eq_true rfl⟩ hG hPc rfl hl.1 rfl (Nat.le_of_ble_eq_true rfl) ⟨Nat.zero_le _, Nat.zero_le _⟩ dX6_reckonSet_17 ?_
    refine lv_if_eq (tgt := 36) hx hb dX6_reckonSet_20 (by decide) (fun c4 => ?_) (fun c4 => ?_)
    · have hf := tk c4 hf
      refine lv_iinc (v := (x4 + (1 : Int32))) (lv' := [(4, .int (x4 + (1 : Int32))), (0, .ref a_su), (1, .ref a_w), (2, .int x2), (3, .int x3)]) hx hb dX6_reckonSet_36 hl (k := 4) rfl (iinc_eq (by decide)) (by decide) rfl (fun ls hl => ?_)
      refine lv_goto (tgt := 6) hx hb dX6_reckonSet_39 (by decide) ?_
      exact hk _ _ (Option.some.inj hf).symm (lv_sub hl [1, 2, 3, 4, 0] rfl)
    · have hf := fk c4 hf
      refine lv_iload_n hx hb dX6_reckonSet_23 rfl (lv_at hl 3 rfl) ?_
      refine lv_aload_n hx hb dX6_reckonSet_24 rfl (lv_at hl 0 rfl) ?_
      refine lv_aload_n hx hb dX6_reckonSet_25 rfl (lv_at hl 1 rfl) ?_
      refine lv_iload_n hx hb dX6_reckonSet_26 rfl (lv_at hl 2 rfl) ?_
      refine lv_iload hx hb dX6_reckonSet_27 (lv_at hl 4 rfl) ?_
      obtain ⟨o5, e6, hf⟩ := lp_bind hf
      refine ro_Vi (x := o5) (As := [.ref a_w, .int x2, .int x4]) (rest := [.int x3]) CF (c_X6_worstBy l D cI cB cT a_su a_su_fewest a_w a_w_codes a_w_masks a_w_alike a_w_havers su_fewest w_size w_codes w_masks w_alike w_havers x2 x4 e6) ok_X6_worstBy wm_707 ⟨rfl, rfl, Nat.le_of_ble_eq_true rfl, Nat.le_of_ble_eq_true rfl⟩ hG hP 0 4 vq_4 rfl ce_su_w_0 rfl hl.1 rfl (Nat.le_of_ble_eq_true rfl) ⟨Nat.zero_le _, Nat.zero_le _⟩ dX6_reckonSet_29 ?_
      refine va_mmin hx hb (hml.trans hl.1.symm) hown (hts _ wm_718) (hts _ wm_600) (hts _ wm_89) (hts _ wm_601) (Nat.le_of_ble_eq_true rfl) (Nat.le_of_ble_eq_true rfl) (Nat.zero_le _) (Nat.zero_le _) dX6_reckonSet_32 ?_
      refine lv_istore_n (lv' := [(3, .int (if o5 < x3 then o5 else x3)), (0, .ref a_su), (1, .ref a_w), (2, .int x2), (4, .int x4)]) hx hb dX6_reckonSet_35 rfl hl (by decide) rfl (fun ls hl => ?_)
      refine lv_iinc (v := (x4 + (1 : Int32))) (lv' := [(4, .int (x4 + (1 : Int32))), (3, .int (if o5 < x3 then o5 else x3)), (0, .ref a_su), (1, .ref a_w), (2, .int x2)]) hx hb dX6_reckonSet_36 hl (k := 4) rfl (iinc_eq (by decide)) (by decide) rfl (fun ls hl => ?_)
      refine lv_goto (tgt := 6) hx hb dX6_reckonSet_39 (by decide) ?_
      exact hk _ _ (Option.some.inj hf).symm (lv_sub hl [2, 3, 4, 1, 0] rfl)
set_option maxHeartbeats 4000000 in
set_option maxRecDepth 100000 in
theorem L_X6_reckonSet_6_W {su_fewest : (Nat → Int32)} {w_size : Int32} {w_codes : (Nat → Int32)} {w_masks : (Nat → Int32)} {w_alike : (Nat → Int32)} {w_havers : (Nat → Int32)} {x2 : Int32} (CF : CallFix p m c cX6_reckonSet 5 s args wsAll RX6) (hG : Gd D cI cB cT s) {o : Int32} (hx0 : ∀ (ls : Array Slot), lv_has ls 5 [(3, .int o)] → W p l e rm_X6_reckonSet s m args below meth c s.heap [] 0 0 Q (F0 m 42 ls [])) : ∀ (n : Nat) (x3 : Int32) (x4 : Int32) (ls : Array Slot), va_P D vwCl (wd_su_w a_su a_su_fewest a_w a_w_codes a_w_masks a_w_alike a_w_havers cI cB cT su_fewest w_size w_codes w_masks w_alike w_havers) s.heap → lv_has ls 5 [(0, .ref a_su), (1, .ref a_w), (2, .int x2), (3, .int x3), (4, .int x4)] → lp (fun v => B_X6_reckonSet_6 su_fewest w_size w_masks w_alike x2 v.1 v.2) n (x3, x4) = some o → W p l e rm_X6_reckonSet s m args below meth c s.heap [] 0 0 Q (F0 m 6 ls []) := by
  intro n
  induction n with
  | zero =>
    intro x3 x4 ls hP hl hf
    exact (lp_zero hf).elim
  | succ n ih =>
    intro x3 x4 ls hP hl hf
    obtain ⟨z, hz, hf⟩ := lp_succ hf
    refine B_X6_reckonSet_6_W CF hG ?_ ?_ hP hl hz
    · intro v' ls ez hl
      rcases hf with ⟨v2, ev, hf⟩ | ev
      · cases Sum.inl.inj (ez.symm.trans ev)
        exact ih v'.1 v'.2 ls hP hl hf
      · exact (lp_lr (ez.symm.trans ev)).elim
    · intro o' ls ez hl
      rcases hf with ⟨v2, ev, hf⟩ | ev
      · exact (lp_lr (ev.symm.trans ez)).elim
      · cases Sum.inr.inj (ez.symm.trans ev)
        exact hx0 ls  hl
set_option maxHeartbeats 4000000 in
set_option maxRecDepth 100000 in
theorem c_X6_reckonSet (l : Launch) (D : va_G) (cI cB cT : ClassId) (a_su a_su_fewest a_w a_w_codes a_w_masks a_w_alike a_w_havers : Nat) (su_fewest : (Nat → Int32)) (w_size : Int32) (w_codes : (Nat → Int32)) (w_masks : (Nat → Int32)) (w_alike : (Nat → Int32)) (w_havers : (Nat → Int32)) (p2 : Int32) {z : Int32} (hf : f_X6_reckonSet su_fewest w_size w_masks w_alike p2 = some z) :
    Met l yX6_reckonSet (Cond.code yX6_reckonSet cX6_reckonSet 5 (some .int) :: wsAll) rm_X6_reckonSet (Pro [.ref a_su, .ref a_w, .int p2] D cI cB cT (wd_su_w a_su a_su_fewest a_w a_w_codes a_w_masks a_w_alike a_w_havers cI cB cT su_fewest w_size w_codes w_masks w_alike w_havers)) (Qr (some (.int z))) 0 0 (fun _ => False) := by
  refine ro_intro RX6 (by decide +kernel) rfl (Nat.le_of_ble_eq_true rfl) ?_
  intro p e s m below meth c ls CF hr hlk hG hP hl
  have hl : lv_has ls 5 [(0, .ref a_su), (1, .ref a_w), (2, .int p2)] := hl
  obtain ⟨hx, hb, hml, hown, hts⟩ := id CF
  unfold f_X6_reckonSet at hf
  refine lv_bipush (v := (10 : Int32)) hx hb dX6_reckonSet_0 (by decide) ?_
  refine lv_istore_n (lv' := [(3, .int (10 : Int32)), (0, .ref a_su), (1, .ref a_w), (2, .int p2)]) hx hb dX6_reckonSet_2 rfl hl (by decide) rfl (fun ls hl => ?_)
  refine lv_iconst (v := (0 : Int32)) hx hb dX6_reckonSet_3 (by decide) ?_
  refine lv_istore (lv' := [(4, .int (0 : Int32)), (3, .int (10 : Int32)), (0, .ref a_su), (1, .ref a_w), (2, .int p2)]) hx hb dX6_reckonSet_4 hl (by decide) rfl (fun ls hl => ?_)
  obtain ⟨o7, e8, hf⟩ := lp_bind hf
  refine L_X6_reckonSet_6_W CF hG ?_ KN _ _ _ hP (lv_sub hl [2, 3, 4, 1, 0] rfl) e8
  intro ls hl
  refine lv_iload_n hx hb dX6_reckonSet_42 rfl (lv_at hl 0 rfl) ?_
  obtain rfl := Option.some.inj hf
  exact ro_iret CF hr hlk dX6_reckonSet_43
end M_X6_reckonSet
section M_X6_reckon
variable {p : Program} {l : Launch} {e : Env} {s : State} {m : MethodId} {args : Array Value} {below : List Frame} {meth : Method} {c : Code} {Q : State → Prop} {A : Nat → Prop} {D : va_G} {cI cB cT : ClassId}
variable {a_su a_su_fewest a_w a_w_codes a_w_masks a_w_alike a_w_havers : Nat}
def rm_X6_reckon : Room := { frames := 4, cells := 0, slots := 0, locals := 92 }
def B_X6_reckon_2 (w_size : Int32) (w_masks : (Nat → Int32)) (w_alike : (Nat → Int32)) (x2 : Int32) (x3 : Int32) (su_fewest : (Nat → Int32)) : Option ((Int32 × (Nat → Int32)) ⊕ ((Nat → Int32))) := (if x2 < x3 then some (Sum.inr su_fewest) else (if (Int32.ofNat 256) ≤ x3 then some (Sum.inr su_fewest) else (if (x3 &&& (x2 ^^^ (-1 : Int32))) = 0 then ((f_J6_bitCount_0f7a4 x3).bind fun o4 => (if (1 : Int32) < o4 then ((f_X6_reckonSet su_fewest w_size w_masks w_alike x3).bind fun o7 => (if oob x3 256 then none else some (Sum.inl ((x3 + (1 : Int32)), (upd su_fewest (x3).toNatClampNeg o7))))) else (if oob x3 256 then none else some (Sum.inl ((x3 + (1 : Int32)), (upd su_fewest (x3).toNatClampNeg (0 : Int32))))))) else some (Sum.inl ((x3 + (1 : Int32)), su_fewest)))))
def f_X6_reckon (su_fewest : (Nat → Int32)) (w_size : Int32) (w_masks : (Nat → Int32)) (w_alike : (Nat → Int32)) (p2 : Int32) : Option ((Nat → Int32)) := ((lp (fun v => B_X6_reckon_2 w_size w_masks w_alike p2 v.1 v.2) KN ((1 : Int32), su_fewest)).bind fun o11 => some o11)
set_option maxHeartbeats 4000000 in
set_option maxRecDepth 100000 in
theorem B_X6_reckon_2_W {su_fewest : (Nat → Int32)} {w_size : Int32} {w_codes : (Nat → Int32)} {w_masks : (Nat → Int32)} {w_alike : (Nat → Int32)} {w_havers : (Nat → Int32)} {x2 : Int32} {x3 : Int32} (CF : CallFix p m c cX6_reckon 4 s args wsAll RX6) (hG : Gd D cI cB cT s) (hA : ∀ q : Nat, s.heap.size ≤ q → A q) {z : (Int32 × (Nat → Int32)) ⊕ ((Nat → Int32))} {H : Heap} {locs : List Loc} (hk : ∀ (v' : Int32 × (Nat → Int32)) (H : Heap) (locs : List Loc) (ls : Array Slot), z = Sum.inl v' → va_P D vwCl (wd_su_w a_su a_su_fewest a_w a_w_codes a_w_masks a_w_alike a_w_havers cI cB cT (v'.2) w_size w_codes w_masks w_alike w_havers) H → va_D A (wd_su_w a_su a_su_fewest a_w a_w_codes a_w_masks a_w_alike a_w_havers cI cB cT (v'.2) w_size w_codes w_masks w_alike w_havers) → va_S A s.heap H locs → lv_has ls 4 [(0, .ref a_su), (1, .ref a_w), (2, .int x2), (3, .int (v'.1))] → W p l e rm_X6_reckon s m args below meth c H locs 0 0 Q (F0 m 2 ls [])) (hx0 : ∀ (o' : (Nat → Int32)) (H : Heap) (locs : List Loc) (ls : Array Slot), z = Sum.inr o' → va_P D vwCl (wd_su_w a_su a_su_fewest a_w a_w_codes a_w_masks a_w_alike a_w_havers cI cB cT (o') w_size w_codes w_masks w_alike w_havers) H → va_D A (wd_su_w a_su a_su_fewest a_w a_w_codes a_w_masks a_w_alike a_w_havers cI cB cT (o') w_size w_codes w_masks w_alike w_havers) → va_S A s.heap H locs → lv_has ls 4 [] → W p l e rm_X6_reckon s m args below meth c H locs 0 0 Q (F0 m 54 ls [])) {ls : Array Slot} (hP : va_P D vwCl (wd_su_w a_su a_su_fewest a_w a_w_codes a_w_masks a_w_alike a_w_havers cI cB cT su_fewest w_size w_codes w_masks w_alike w_havers) H) (hD : va_D A (wd_su_w a_su a_su_fewest a_w a_w_codes a_w_masks a_w_alike a_w_havers cI cB cT su_fewest w_size w_codes w_masks w_alike w_havers)) (hS : va_S A s.heap H locs) (hl : lv_has ls 4 [(0, .ref a_su), (1, .ref a_w), (2, .int x2), (3, .int x3)]) (hf : B_X6_reckon_2 w_size w_masks w_alike x2 x3 su_fewest = some z) : W p l e rm_X6_reckon s m args below meth c H locs 0 0 Q (F0 m 2 ls []) := by
  obtain ⟨hx, hb, hml, hown, hts⟩ := id CF
  unfold B_X6_reckon_2 at hf
  refine lv_iload_n hx hb dX6_reckon_2 rfl (lv_at hl 3 rfl) ?_
  refine lv_iload_n hx hb dX6_reckon_3 rfl (lv_at hl 2 rfl) ?_
  refine lv_icmp_gt (tgt := 54) hx hb dX6_reckon_4 (by decide) (fun c1 => ?_) (fun c1 => ?_)
  · have hf := tk c1 hf
    exact hx0 _ _ _ _ (Option.some.inj hf).symm hP hD hS (lv_sub hl [] rfl)
  · have hf := fk c1 hf
    refine lv_iload_n hx hb dX6_reckon_7 rfl (lv_at hl 3 rfl) ?_
    refine lv_aload_n hx hb dX6_reckon_8 rfl (lv_at hl 0 rfl) ?_
    refine va_get (D := D) (ci := 4) (v := .ref a_su_fewest) (C := RX6) (T := TX6) (N := 1) hx hb hts fin_X6 hown hG.1 hP 0 ce_su_w_0 vq_4 0 (by decide) (hts _ wm_286) (fun _ h9 => h9) rfl dX6_reckon_9 ?_
    refine va_alen (v := (Int32.ofNat 256)) hx hb hG.1 hP 1 0 ce_su_w_1 rfl rfl dX6_reckon_12 ?_
    refine lv_icmp_ge (tgt := 54) hx hb dX6_reckon_13 (by decide) (fun c2 => ?_) (fun c2 => ?_)
    · have hf := tk c2 hf
      exact hx0 _ _ _ _ (Option.some.inj hf).symm hP hD hS (lv_sub hl [] rfl)
    · have hf := fk c2 hf
      refine lv_iload_n hx hb dX6_reckon_16 rfl (lv_at hl 3 rfl) ?_
      refine lv_iload_n hx hb dX6_reckon_17 rfl (lv_at hl 2 rfl) ?_
      refine lv_iconst (v := (-1 : Int32)) hx hb dX6_reckon_18 (by decide) ?_
      refine lv_ixor hx hb dX6_reckon_19 ?_
      refine lv_iand hx hb dX6_reckon_20 ?_
      refine lv_if_ne (tgt := 48) hx hb dX6_reckon_21 (by decide) (fun c3 => ?_) (fun c3 => ?_)
      · have hf := fk c3 hf
        refine lv_iinc (v := (x3 + (1 : Int32))) (lv' := [(3, .int (x3 + (1 : Int32))), (0, .ref a_su), (1, .ref a_w), (2, .int x2)]) hx hb dX6_reckon_48 hl (k := 3) rfl (iinc_eq (by decide)) (by decide) rfl (fun ls hl => ?_)
        refine lv_goto (tgt := 2) hx hb dX6_reckon_51 (by decide) ?_
        exact hk _ _ _ _ (Option.some.inj hf).symm hP hD hS (lv_sub hl [1, 2, 3, 0] rfl)
      · have hf := tk c3 hf
        refine lv_aload_n hx hb dX6_reckon_24 rfl (lv_at hl 0 rfl) ?_
        refine va_get (D := D) (ci := 4) (v := .ref a_su_fewest) (C := RX6) (T := TX6) (N := 1) hx hb hts fin_X6 hown hG.1 hP 0 ce_su_w_0 vq_4 0 (by decide) (hts _ wm_286) (fun _ h9 => h9) rfl dX6_reckon_25 ?_
        refine lv_iload_n hx hb dX6_reckon_28 rfl (lv_at hl 3 rfl) ?_
        refine lv_iload_n hx hb dX6_reckon_29 rfl (lv_at hl 3 rfl) ?_
        obtain ⟨o4, e5, hf⟩ := lp_bind hf
        refine ro_Si (x := o4) (As := [.int x3]) (rest := [.int x3, .ref a_su_fewest]) CF (c_J6_bitCount_0f7a4 l D cI cB cT x3 e5) ok_J6_bitCount_0f7a4 wm_697 ⟨rfl, rfl, Nat.le_of_ble_eq_true rfl, Nat.le_of_ble_eq_true rfl⟩ hG wd_E_P rfl hl.1 rfl (Nat.le_of_ble_eq_true rfl) ⟨Nat.zero_le _, Nat.zero_le _⟩ dX6_reckon_30 ?_
        refine lv_iconst (v := (1 : Int32)) hx hb dX6_reckon_33 (by decide) ?_
        refine lv_icmp_gt (tgt := 41) hx hb dX6_reckon_34 (by decide) (fun c6 => ?_) (fun c6 => ?_)
        · have hf := tk c6 hf
          refine lv_aload_n hx hb dX6_reckon_41 rfl (lv_at hl 0 rfl) ?_
          refine lv_aload_n hx hb dX6_reckon_42 rfl (lv_at hl 1 rfl) ?_
          refine lv_iload_n hx hb dX6_reckon_43 rfl (lv_at hl 3 rfl) ?_
          obtain ⟨o7, e8, hf⟩ := lp_bind hf
          refine ro_Vi (x := o7) (As := [.ref a_w, .int x3]) (rest := [.int x3, .ref a_su_fewest]) CF (c_X6_reckonSet l D cI cB cT a_su a_su_fewest a_w a_w_codes a_w_masks a_w_alike a_w_havers su_fewest w_size w_codes w_masks w_alike w_havers x3 e8) ok_X6_reckonSet wm_698 ⟨rfl, rfl, Nat.le_of_ble_eq_true rfl, Nat.le_of_ble_eq_true rfl⟩ hG hP 0 4 vq_4 rfl ce_su_w_0 rfl hl.1 rfl (Nat.le_of_ble_eq_true rfl) ⟨Nat.zero_le _, Nat.zero_le _⟩ dX6_reckon_44 ?_
          obtain ⟨n9, hf⟩ := nk hf
          refine va_iast (f := su_fewest) hx hb hG.1 hP hD hS 1 0 ce_su_w_1 rfl n9 dX6_reckon_47 (fun H locs hP _ hS => ?_)
          have hP : va_P D vwCl (wd_su_w a_su a_su_fewest a_w a_w_codes a_w_masks a_w_alike a_w_havers cI cB cT (upd su_fewest (x3).toNatClampNeg o7) w_size w_codes w_masks w_alike w_havers) H := va_P_eq se_su_w_su_fewest hP
          have hD : va_D A (wd_su_w a_su a_su_fewest a_w a_w_codes a_w_masks a_w_alike a_w_havers cI cB cT (upd su_fewest (x3).toNatClampNeg o7) w_size w_codes w_masks w_alike w_havers) := va_D_fst fs_su_w hD
          refine lv_iinc (v := (x3 + (1 : Int32))) (lv' := [(3, .int (x3 + (1 : Int32))), (0, .ref a_su), (1, .ref a_w), (2, .int x2)]) hx hb dX6_reckon_48 hl (k := 3) rfl (iinc_eq (by decide)) (by decide) rfl (fun ls hl => ?_)
          refine lv_goto (tgt := 2) hx hb dX6_reckon_51 (by decide) ?_
          exact hk _ _ _ _ (Option.some.inj hf).symm hP hD hS (lv_sub hl [1, 2, 3, 0] rfl)
        · have hf := fk c6 hf
          refine lv_iconst (v := (0 : Int32)) hx hb dX6_reckon_37 (by decide) ?_
          refine lv_goto (tgt := 47) hx hb dX6_reckon_38 (by decide) ?_
          obtain ⟨n10, hf⟩ := nk hf
          refine va_iast (f := su_fewest) hx hb hG.1 hP hD hS 1 0 ce_su_w_1 rfl n10 dX6_reckon_47 (fun H locs hP _ hS => ?_)
          have hP : va_P D vwCl (wd_su_w a_su a_su_fewest a_w a_w_codes a_w_masks a_w_alike a_w_havers cI cB cT (upd su_fewest (x3).toNatClampNeg (0 : Int32)) w_size w_codes w_masks w_alike w_havers) H := va_P_eq se_su_w_su_fewest hP
          have hD : va_D A (wd_su_w a_su a_su_fewest a_w a_w_codes a_w_masks a_w_alike a_w_havers cI cB cT (upd su_fewest (x3).toNatClampNeg (0 : Int32)) w_size w_codes w_masks w_alike w_havers) := va_D_fst fs_su_w hD
          refine lv_iinc (v := (x3 + (1 : Int32))) (lv' := [(3, .int (x3 + (1 : Int32))), (0, .ref a_su), (1, .ref a_w), (2, .int x2)]) hx hb dX6_reckon_48 hl (k := 3) rfl (iinc_eq (by decide)) (by decide) rfl (fun ls hl => ?_)
          refine lv_goto (tgt := 2) hx hb dX6_reckon_51 (by decide) ?_
          exact hk _ _ _ _ (Option.some.inj hf).symm hP hD hS (lv_sub hl [1, 2, 3, 0] rfl)
set_option maxHeartbeats 4000000 in
set_option maxRecDepth 100000 in
theorem L_X6_reckon_2_W {w_size : Int32} {w_codes : (Nat → Int32)} {w_masks : (Nat → Int32)} {w_alike : (Nat → Int32)} {w_havers : (Nat → Int32)} {x2 : Int32} (CF : CallFix p m c cX6_reckon 4 s args wsAll RX6) (hG : Gd D cI cB cT s) (hA : ∀ q : Nat, s.heap.size ≤ q → A q) {o : (Nat → Int32)} (hx0 : ∀ (H : Heap) (locs : List Loc) (ls : Array Slot), va_P D vwCl (wd_su_w a_su a_su_fewest a_w a_w_codes a_w_masks a_w_alike a_w_havers cI cB cT o w_size w_codes w_masks w_alike w_havers) H → va_D A (wd_su_w a_su a_su_fewest a_w a_w_codes a_w_masks a_w_alike a_w_havers cI cB cT o w_size w_codes w_masks w_alike w_havers) → va_S A s.heap H locs → lv_has ls 4 [] → W p l e rm_X6_reckon s m args below meth c H locs 0 0 Q (F0 m 54 ls [])) : ∀ (n : Nat) (x3 : Int32) (su_fewest : (Nat → Int32)) (H : Heap) (locs : List Loc) (ls : Array Slot), va_P D vwCl (wd_su_w a_su a_su_fewest a_w a_w_codes a_w_masks a_w_alike a_w_havers cI cB cT su_fewest w_size w_codes w_masks w_alike w_havers) H → va_D A (wd_su_w a_su a_su_fewest a_w a_w_codes a_w_masks a_w_alike a_w_havers cI cB cT su_fewest w_size w_codes w_masks w_alike w_havers) → va_S A s.heap H locs → lv_has ls 4 [(0, .ref a_su), (1, .ref a_w), (2, .int x2), (3, .int x3)] → lp (fun v => B_X6_reckon_2 w_size w_masks w_alike x2 v.1 v.2) n (x3, su_fewest) = some o → W p l e rm_X6_reckon s m args below meth c H locs 0 0 Q (F0 m 2 ls []) := by
  intro n
  induction n with
  | zero =>
    intro x3 su_fewest H locs ls hP hD hS hl hf
    exact (lp_zero hf).elim
  | succ n ih =>
    intro x3 su_fewest H locs ls hP hD hS hl hf
    obtain ⟨z, hz, hf⟩ := lp_succ hf
    refine B_X6_reckon_2_W CF hG hA ?_ ?_ hP hD hS hl hz
    · intro v' H locs ls ez hP hD hS hl
      rcases hf with ⟨v2, ev, hf⟩ | ev
      · cases Sum.inl.inj (ez.symm.trans ev)
        exact ih v'.1 v'.2 H locs ls hP hD hS hl hf
      · exact (lp_lr (ez.symm.trans ev)).elim
    · intro o' H locs ls ez hP hD hS hl
      rcases hf with ⟨v2, ev, hf⟩ | ev
      · exact (lp_lr (ev.symm.trans ez)).elim
      · cases Sum.inr.inj (ez.symm.trans ev)
        exact hx0 H locs ls hP hD hS hl
set_option maxHeartbeats 4000000 in
set_option maxRecDepth 100000 in
theorem c_X6_reckon (l : Launch) (D : va_G) (cI cB cT : ClassId) (sz : Nat) (a_su a_su_fewest a_w a_w_codes a_w_masks a_w_alike a_w_havers : Nat) (su_fewest : (Nat → Int32)) (w_size : Int32) (w_codes : (Nat → Int32)) (w_masks : (Nat → Int32)) (w_alike : (Nat → Int32)) (w_havers : (Nat → Int32)) (p2 : Int32) {z : (Nat → Int32)} (hf : f_X6_reckon su_fewest w_size w_masks w_alike p2 = some z) :
    Met l yX6_reckon (Cond.code yX6_reckon cX6_reckon 4 none :: wsAll) rm_X6_reckon (Pwr [.ref a_su, .ref a_w, .int p2] D cI cB cT (wd_su_w a_su a_su_fewest a_w a_w_codes a_w_masks a_w_alike a_w_havers cI cB cT su_fewest w_size w_codes w_masks w_alike w_havers) sz) (Qw none D (wd_su_w a_su a_su_fewest a_w a_w_codes a_w_masks a_w_alike a_w_havers cI cB cT z w_size w_codes w_masks w_alike w_havers) (va_A (wd_su_w a_su a_su_fewest a_w a_w_codes a_w_masks a_w_alike a_w_havers cI cB cT su_fewest w_size w_codes w_masks w_alike w_havers) sz)) 0 0 (va_A (wd_su_w a_su a_su_fewest a_w a_w_codes a_w_masks a_w_alike a_w_havers cI cB cT su_fewest w_size w_codes w_masks w_alike w_havers) sz) := by
  refine wr_intro RX6 (by decide +kernel) rfl (Nat.le_of_ble_eq_true rfl) ?_
  intro p e s m below meth c ls A H locs CF hr hlk hG hP hD hS hA hl
  have hl : lv_has ls 4 [(0, .ref a_su), (1, .ref a_w), (2, .int p2)] := hl
  obtain ⟨hx, hb, hml, hown, hts⟩ := id CF
  unfold f_X6_reckon at hf
  refine lv_iconst (v := (1 : Int32)) hx hb dX6_reckon_0 (by decide) ?_
  refine lv_istore_n (lv' := [(3, .int (1 : Int32)), (0, .ref a_su), (1, .ref a_w), (2, .int p2)]) hx hb dX6_reckon_1 rfl hl (by decide) rfl (fun ls hl => ?_)
  obtain ⟨o11, e12, hf⟩ := lp_bind hf
  refine L_X6_reckon_2_W CF hG hA ?_ KN _ _ _ _ _ hP hD hS (lv_sub hl [1, 2, 3, 0] rfl) e12
  intro H locs ls hP hD hS hl
  obtain rfl := Option.some.inj hf
  exact wr_vret CF hr hlk hP hS dX6_reckon_54
end M_X6_reckon
section M_X6_firstLetter
variable {p : Program} {l : Launch} {e : Env} {s : State} {m : MethodId} {args : Array Value} {below : List Frame} {meth : Method} {c : Code} {Q : State → Prop} {A : Nat → Prop} {D : va_G} {cI cB cT : ClassId}
variable {a_su a_su_fewest a_w a_w_codes a_w_masks a_w_alike a_w_havers : Nat}
def rm_X6_firstLetter : Room := { frames := 3, cells := 0, slots := 0, locals := 68 }
def B_X6_firstLetter_2 (su_fewest : (Nat → Int32)) (w_size : Int32) (w_masks : (Nat → Int32)) (w_alike : (Nat → Int32)) (x2 : Int32) (x3 : Int32) : Option ((Int32) ⊕ (Nat × Int32)) := (if (10 : Int32) ≤ x3 then some (Sum.inr (1, x3)) else (if x2 = 0 then some (Sum.inr (1, x3)) else ((f_X6_isParting w_size w_alike x2 x3).bind fun o3 => (if o3 = 0 then some (Sum.inl (x3 + (1 : Int32))) else ((f_X6_worstBy su_fewest w_size w_masks w_alike x2 x3).bind fun o6 => ((f_X6_fewestOf su_fewest x2).bind fun o8 => (if o6 = o8 then some (Sum.inr (0, x3)) else some (Sum.inl (x3 + (1 : Int32))))))))))
def f_X6_firstLetter (su_fewest : (Nat → Int32)) (w_size : Int32) (w_masks : (Nat → Int32)) (w_alike : (Nat → Int32)) (p2 : Int32) : Option (Int32) := ((lp (fun v => B_X6_firstLetter_2 su_fewest w_size w_masks w_alike p2 v) KN (0 : Int32)).bind fun o11 => (if o11.1 = 0 then some o11.2 else some (-1 : Int32)))
set_option maxHeartbeats 4000000 in
set_option maxRecDepth 100000 in
theorem B_X6_firstLetter_2_W {su_fewest : (Nat → Int32)} {w_size : Int32} {w_codes : (Nat → Int32)} {w_masks : (Nat → Int32)} {w_alike : (Nat → Int32)} {w_havers : (Nat → Int32)} {x2 : Int32} {x3 : Int32} (CF : CallFix p m c cX6_firstLetter 4 s args wsAll RX6) (hG : Gd D cI cB cT s) {z : (Int32) ⊕ (Nat × Int32)} (hk : ∀ (v' : Int32) (ls : Array Slot), z = Sum.inl v' → lv_has ls 4 [(0, .ref a_su), (1, .ref a_w), (2, .int x2), (3, .int (v'))] → W p l e rm_X6_firstLetter s m args below meth c s.heap [] 0 0 Q (F0 m 2 ls [])) (hx0 : ∀ (o' : Nat × Int32) (ls : Array Slot), z = Sum.inr o' → o'.1 = 0 → lv_has ls 4 [(3, .int (o'.2))] → W p l e rm_X6_firstLetter s m args below meth c s.heap [] 0 0 Q (F0 m 36 ls [])) (hx1 : ∀ (o' : Nat × Int32) (ls : Array Slot), z = Sum.inr o' → o'.1 = 1 → lv_has ls 4 [] → W p l e rm_X6_firstLetter s m args below meth c s.heap [] 0 0 Q (F0 m 44 ls [])) {ls : Array Slot} (hP : va_P D vwCl (wd_su_w a_su a_su_fewest a_w a_w_codes a_w_masks a_w_alike a_w_havers cI cB cT su_fewest w_size w_codes w_masks w_alike w_havers) s.heap) (hl : lv_has ls 4 [(0, .ref a_su), (1, .ref a_w), (2, .int x2), (3, .int x3)]) (hf : B_X6_firstLetter_2 su_fewest w_size w_masks w_alike x2 x3 = some z) : W p l e rm_X6_firstLetter s m args below meth c s.heap [] 0 0 Q (F0 m 2 ls []) := by
  obtain ⟨hx, hb, hml, hown, hts⟩ := id CF
  unfold B_X6_firstLetter_2 at hf
  refine lv_iload_n hx hb dX6_firstLetter_2 rfl (lv_at hl 3 rfl) ?_
  refine lv_bipush (v := (10 : Int32)) hx hb dX6_firstLetter_3 (by decide) ?_
  refine lv_icmp_ge (tgt := 44) hx hb dX6_firstLetter_5 (by decide) (fun c1 => ?_) (fun c1 => ?_)
  · have hf := tk c1 hf
    exact hx1 _ _ (Option.some.inj hf).symm rfl (lv_sub hl [] rfl)
  · have hf := fk c1 hf
    refine lv_iload_n hx hb dX6_firstLetter_8 rfl (lv_at hl 2 rfl) ?_
    refine lv_if_eq (tgt := 44) hx hb dX6_firstLetter_9 (by decide) (fun c2 => ?_) (fun c2 => ?_)
    · have hf := tk c2 hf
      exact hx1 _ _ (Option.some.inj hf).symm rfl (lv_sub hl [] rfl)
    · have hf := fk c2 hf
      refine lv_aload_n hx hb dX6_firstLetter_12 rfl (lv_at hl 1 rfl) ?_
      refine lv_iload_n hx hb dX6_firstLetter_13 rfl (lv_at hl 2 rfl) ?_
      refine lv_iload_n hx hb dX6_firstLetter_14 rfl (lv_at hl 3 rfl) ?_
      obtain ⟨o3, e4, hf⟩ := lp_bind hf
      have hPc : va_P D vwCl (wd_w a_w a_w_codes a_w_masks a_w_alike a_w_havers cI cB cT w_size w_codes w_masks w_alike w_havers) s.heap := su_2 hP
      refine ro_Si (x := o3) (As := [.ref a_w, .int x2, .int x3]) (rest := []) CF (c_X6_isParting l D cI cB cT a_w a_w_codes a_w_masks a_w_alike a_w_havers w_size w_codes w_masks w_alike w_havers x2 x3 e4) ok_X6_isParting wm_702 ⟨rfl, rfl, Nat.le_of_ble_eq_true rfl, Nat.le_of_ble_eq_true rfl⟩ hG hPc rfl hl.1 rfl (Nat.le_of_ble_eq_true rfl) ⟨Nat.zero_le _, Nat.zero_le _⟩ dX6_firstLetter_15 ?_
      refine lv_if_eq (tgt := 38) hx hb dX6_firstLetter_18 (by decide) (fun c5 => ?_) (fun c5 => ?_)
      · have hf := tk c5 hf
        refine lv_iinc (v := (x3 + (1 : Int32))) (lv' := [(3, .int (x3 + (1 : Int32))), (0, .ref a_su), (1, .ref a_w), (2, .int x2)]) hx hb dX6_firstLetter_38 hl (k := 3) rfl (iinc_eq (by decide)) (by decide) rfl (fun ls hl => ?_)
        refine lv_goto (tgt := 2) hx hb dX6_firstLetter_41 (by decide) ?_
        exact hk _ _ (Option.some.inj hf).symm (lv_sub hl [1, 2, 3, 0] rfl)
      · have hf := fk c5 hf
        refine lv_aload_n hx hb dX6_firstLetter_21 rfl (lv_at hl 0 rfl) ?_
        refine lv_aload_n hx hb dX6_firstLetter_22 rfl (lv_at hl 1 rfl) ?_
        refine lv_iload_n hx hb dX6_firstLetter_23 rfl (lv_at hl 2 rfl) ?_
        refine lv_iload_n hx hb dX6_firstLetter_24 rfl (lv_at hl 3 rfl) ?_
        obtain ⟨o6, e7, hf⟩ := lp_bind hf
        refine ro_Vi (x := o6) (As := [.ref a_w, .int x2, .int x3]) (rest := []) CF (c_X6_worstBy l D cI cB cT a_su a_su_fewest a_w a_w_codes a_w_masks a_w_alike a_w_havers su_fewest w_size w_codes w_masks w_alike w_havers x2 x3 e7) ok_X6_worstBy wm_707 ⟨rfl, rfl, Nat.le_of_ble_eq_true rfl, Nat.le_of_ble_eq_true rfl⟩ hG hP 0 4 vq_4 rfl ce_su_w_0 rfl hl.1 rfl (Nat.le_of_ble_eq_true rfl) ⟨Nat.zero_le _, Nat.zero_le _⟩ dX6_firstLetter_25 ?_
        refine lv_aload_n hx hb dX6_firstLetter_28 rfl (lv_at hl 0 rfl) ?_
        refine lv_iload_n hx hb dX6_firstLetter_29 rfl (lv_at hl 2 rfl) ?_
        obtain ⟨o8, e9, hf⟩ := lp_bind hf
        have hPc : va_P D vwCl (wd_su a_su a_su_fewest cI cB cT su_fewest) s.heap := su_3 hP
        refine ro_Vi (x := o8) (As := [.int x2]) (rest := [.int o6]) CF (c_X6_fewestOf l D cI cB cT a_su a_su_fewest su_fewest x2 e9) ok_X6_fewestOf wm_712 ⟨rfl, rfl, Nat.le_of_ble_eq_true rfl, Nat.le_of_ble_eq_true rfl⟩ hG hPc 0 4 vq_4 rfl ce_su_0 rfl hl.1 rfl (Nat.le_of_ble_eq_true rfl) ⟨Nat.zero_le _, Nat.zero_le _⟩ dX6_firstLetter_30 ?_
        refine lv_icmp_ne (tgt := 38) hx hb dX6_firstLetter_33 (by decide) (fun c10 => ?_) (fun c10 => ?_)
        · have hf := fk c10 hf
          refine lv_iinc (v := (x3 + (1 : Int32))) (lv' := [(3, .int (x3 + (1 : Int32))), (0, .ref a_su), (1, .ref a_w), (2, .int x2)]) hx hb dX6_firstLetter_38 hl (k := 3) rfl (iinc_eq (by decide)) (by decide) rfl (fun ls hl => ?_)
          refine lv_goto (tgt := 2) hx hb dX6_firstLetter_41 (by decide) ?_
          exact hk _ _ (Option.some.inj hf).symm (lv_sub hl [1, 2, 3, 0] rfl)
        · have hf := tk c10 hf
          exact hx0 _ _ (Option.some.inj hf).symm rfl (lv_sub hl [3] rfl)
set_option maxHeartbeats 4000000 in
set_option maxRecDepth 100000 in
theorem L_X6_firstLetter_2_W {su_fewest : (Nat → Int32)} {w_size : Int32} {w_codes : (Nat → Int32)} {w_masks : (Nat → Int32)} {w_alike : (Nat → Int32)} {w_havers : (Nat → Int32)} {x2 : Int32} (CF : CallFix p m c cX6_firstLetter 4 s args wsAll RX6) (hG : Gd D cI cB cT s) {o : Nat × Int32} (hx0 : ∀ (ls : Array Slot), o.1 = 0 → lv_has ls 4 [(3, .int o.2)] → W p l e rm_X6_firstLetter s m args below meth c s.heap [] 0 0 Q (F0 m 36 ls [])) (hx1 : ∀ (ls : Array Slot), o.1 = 1 → lv_has ls 4 [] → W p l e rm_X6_firstLetter s m args below meth c s.heap [] 0 0 Q (F0 m 44 ls [])) : ∀ (n : Nat) (x3 : Int32) (ls : Array Slot), va_P D vwCl (wd_su_w a_su a_su_fewest a_w a_w_codes a_w_masks a_w_alike a_w_havers cI cB cT su_fewest w_size w_codes w_masks w_alike w_havers) s.heap → lv_has ls 4 [(0, .ref a_su), (1, .ref a_w), (2, .int x2), (3, .int x3)] → lp (fun v => B_X6_firstLetter_2 su_fewest w_size w_masks w_alike x2 v) n x3 = some o → W p l e rm_X6_firstLetter s m args below meth c s.heap [] 0 0 Q (F0 m 2 ls []) := by
  intro n
  induction n with
  | zero =>
    intro x3 ls hP hl hf
    exact (lp_zero hf).elim
  | succ n ih =>
    intro x3 ls hP hl hf
    obtain ⟨z, hz, hf⟩ := lp_succ hf
    refine B_X6_firstLetter_2_W CF hG ?_ ?_ ?_ hP hl hz
    · intro v' ls ez hl
      rcases hf with ⟨v2, ev, hf⟩ | ev
      · cases Sum.inl.inj (ez.symm.trans ev)
        exact ih v' ls hP hl hf
      · exact (lp_lr (ez.symm.trans ev)).elim
    · intro o' ls ez et hl
      rcases hf with ⟨v2, ev, hf⟩ | ev
      · exact (lp_lr (ev.symm.trans ez)).elim
      · cases Sum.inr.inj (ez.symm.trans ev)
        exact hx0 ls et  hl
    · intro o' ls ez et hl
      rcases hf with ⟨v2, ev, hf⟩ | ev
      · exact (lp_lr (ev.symm.trans ez)).elim
      · cases Sum.inr.inj (ez.symm.trans ev)
        exact hx1 ls et  hl
set_option maxHeartbeats 4000000 in
set_option maxRecDepth 100000 in
theorem c_X6_firstLetter (l : Launch) (D : va_G) (cI cB cT : ClassId) (a_su a_su_fewest a_w a_w_codes a_w_masks a_w_alike a_w_havers : Nat) (su_fewest : (Nat → Int32)) (w_size : Int32) (w_codes : (Nat → Int32)) (w_masks : (Nat → Int32)) (w_alike : (Nat → Int32)) (w_havers : (Nat → Int32)) (p2 : Int32) {z : Int32} (hf : f_X6_firstLetter su_fewest w_size w_masks w_alike p2 = some z) :
    Met l yX6_firstLetter (Cond.code yX6_firstLetter cX6_firstLetter 4 (some .int) :: wsAll) rm_X6_firstLetter (Pro [.ref a_su, .ref a_w, .int p2] D cI cB cT (wd_su_w a_su a_su_fewest a_w a_w_codes a_w_masks a_w_alike a_w_havers cI cB cT su_fewest w_size w_codes w_masks w_alike w_havers)) (Qr (some (.int z))) 0 0 (fun _ => False) := by
  refine ro_intro RX6 (by decide +kernel) rfl (Nat.le_of_ble_eq_true rfl) ?_
  intro p e s m below meth c ls CF hr hlk hG hP hl
  have hl : lv_has ls 4 [(0, .ref a_su), (1, .ref a_w), (2, .int p2)] := hl
  obtain ⟨hx, hb, hml, hown, hts⟩ := id CF
  unfold f_X6_firstLetter at hf
  refine lv_iconst (v := (0 : Int32)) hx hb dX6_firstLetter_0 (by decide) ?_
  refine lv_istore_n (lv' := [(3, .int (0 : Int32)), (0, .ref a_su), (1, .ref a_w), (2, .int p2)]) hx hb dX6_firstLetter_1 rfl hl (by decide) rfl (fun ls hl => ?_)
  obtain ⟨o11, e12, hf⟩ := lp_bind hf
  refine L_X6_firstLetter_2_W CF hG ?_ ?_ KN _ _ hP (lv_sub hl [1, 2, 3, 0] rfl) e12
  · intro ls et hl
    have hf := tk et hf
    refine lv_iload_n hx hb dX6_firstLetter_36 rfl (lv_at hl 0 rfl) ?_
    obtain rfl := Option.some.inj hf
    exact ro_iret CF hr hlk dX6_firstLetter_37
  · intro ls et hl
    have hf := fk (by rw [et]; decide) hf
    refine lv_iconst (v := (-1 : Int32)) hx hb dX6_firstLetter_44 (by decide) ?_
    obtain rfl := Option.some.inj hf
    exact ro_iret CF hr hlk dX6_firstLetter_45
end M_X6_firstLetter
