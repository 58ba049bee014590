section M_X8_spells_s0
variable {p : Program} {l : Launch} {e : Env} {s : State} {m : MethodId} {args : Array Value} {below : List Frame} {meth : Method} {c : Code} {Q : State → Prop} {A : Nat → Prop} {D : va_G} {cI cB cT : ClassId}
variable {adK adV : Nat → Nat}
variable {a_k a_k_bytes : Nat}
def rm_X8_spells_s0 : Room := { frames := 4, cells := 0, slots := 0, locals := 90 }
def B_X8_spells_s0_28 (k_place : Int32) (k_bytes : (Nat → Int32)) (x2 : Int32) : Option ((Int32) ⊕ (Nat)) := (if (Int32.ofNat (stL.getD 0 0)) ≤ x2 then some (Sum.inr 1) else (if oob (k_place + x2) 150 then none else (if oob x2 (stL.getD 0 0) then none else (if (k_bytes ((k_place + x2)).toNatClampNeg) = ((stB.getD 0 []).getD (x2).toNatClampNeg 0 &&& 255) then some (Sum.inl (x2 + (1 : Int32))) else some (Sum.inr 0)))))
def f_X8_spells_s0 (k_place : Int32) (k_sort : Int32) (k_behind : Int32) (k_bytes : (Nat → Int32)) : Option (Int32) := (if k_sort = (1 : Int32) then (if (k_behind - k_place) = (Int32.ofNat (stL.getD 0 0)) then ((lp (fun v => B_X8_spells_s0_28 k_place k_bytes v) KN (0 : Int32)).bind fun o7 => (if o7 = 0 then some (0 : Int32) else some (1 : Int32))) else some (0 : Int32)) else some (0 : Int32))
set_option maxHeartbeats 4000000 in
set_option maxRecDepth 100000 in
theorem B_X8_spells_s0_28_W {k_size : Int32} {k_place : Int32} {k_sort : Int32} {k_number : Int32} {k_behind : Int32} {k_bytes : (Nat → Int32)} {x2 : Int32} (CF : CallFix p m c cX8_spells 3 s args wsAll RX8) (hG : Gd D cI cB cT s) (hE : SE adK adV (fun _ => False) s s.heap) {z : (Int32) ⊕ (Nat)} (hk : ∀ (v' : Int32) (ls : Array Slot), z = Sum.inl v' → lv_has ls 3 [(0, .ref a_k), (1, .ref (adK 0)), (2, .int (v'))] → W p l e rm_X8_spells_s0 s m args below meth c s.heap [] 0 0 Q (F0 m 28 ls [])) (hx0 : ∀ (o' : Nat) (ls : Array Slot), z = Sum.inr o' → o' = 0 → lv_has ls 3 [] → W p l e rm_X8_spells_s0 s m args below meth c s.heap [] 0 0 Q (F0 m 55 ls [])) (hx1 : ∀ (o' : Nat) (ls : Array Slot), z = Sum.inr o' → o' = 1 → lv_has ls 3 [] → W p l e rm_X8_spells_s0 s m args below meth c s.heap [] 0 0 Q (F0 m 63 ls [])) {ls : Array Slot} (hP : va_P D vwCl (wd_k a_k a_k_bytes cI cB cT k_size k_place k_sort k_number k_behind k_bytes) s.heap) (hl : lv_has ls 3 [(0, .ref a_k), (1, .ref (adK 0)), (2, .int x2)]) (hf : B_X8_spells_s0_28 k_place k_bytes x2 = some z) : W p l e rm_X8_spells_s0 s m args below meth c s.heap [] 0 0 Q (F0 m 28 ls []) := by
  obtain ⟨hx, hb, hml, hown, hts⟩ := id CF
  unfold B_X8_spells_s0_28 at hf
  refine lv_iload_n hx hb dX8_spells_28 rfl (lv_at hl 2 rfl) ?_
  refine lv_aload_n hx hb dX8_spells_29 rfl (lv_at hl 1 rfl) ?_
  refine rx_Ti (x := (Int32.ofNat (stL.getD 0 0))) (As := []) (rest := [.int x2]) CF (c_J0_length_8abf5 l D cI cB cT adK adV 0 (by decide)) SE.blind hE.atR ok_J0_length_8abf5 wm_434 ⟨rfl, rfl, Nat.le_of_ble_eq_true rfl, Nat.le_of_ble_eq_true rfl⟩ hG wd_E_P (vk_recv (i := 0) hE.1 (by decide) (va_S.rf (A := fun _ => False))) rfl hl.1 rfl (Nat.le_of_ble_eq_true rfl) ⟨Nat.zero_le _, Nat.zero_le _⟩ dX8_spells_30 ?_
  refine lv_icmp_ge (tgt := 63) hx hb dX8_spells_33 (by decide) (fun c3 => ?_) (fun c3 => ?_)
  · have hf := tk c3 hf
    exact hx1 _ _ (Option.some.inj hf).symm rfl (lv_sub hl [] rfl)
  · have hf := fk c3 hf
    refine lv_aload_n hx hb dX8_spells_36 rfl (lv_at hl 0 rfl) ?_
    refine va_get (D := D) (ci := 6) (v := .ref a_k_bytes) (C := RX8) (T := TX8) (N := 6) hx hb hts fin_X8 hown hG.1 hP 0 ce_k_0 vq_6 5 (by decide) (hts _ wm_239) (fun _ h9 => h9) rfl dX8_spells_37 ?_
    refine lv_aload_n hx hb dX8_spells_40 rfl (lv_at hl 0 rfl) ?_
    refine va_get (D := D) (ci := 6) (v := .int k_place) (C := RX8) (T := TX8) (N := 6) hx hb hts fin_X8 hown hG.1 hP 0 ce_k_0 vq_6 1 (by decide) (hts _ wm_232) (fun _ h9 => h9) rfl dX8_spells_41 ?_
    refine lv_iload_n hx hb dX8_spells_44 rfl (lv_at hl 2 rfl) ?_
    refine lv_iadd hx hb dX8_spells_45 ?_
    obtain ⟨n4, hf⟩ := nk hf
    refine va_bald (f := k_bytes) hx hb hG.1 hP 1 1 ce_k_1 rfl n4 dX8_spells_46 ?_
    refine lv_aload_n hx hb dX8_spells_47 rfl (lv_at hl 1 rfl) ?_
    refine lv_iload_n hx hb dX8_spells_48 rfl (lv_at hl 2 rfl) ?_
    obtain ⟨n5, hf⟩ := nk hf
    refine rx_Ti (x := ((stB.getD 0 []).getD (x2).toNatClampNeg 0 &&& 255)) (As := [.int x2]) (rest := [.int (k_bytes ((k_place + x2)).toNatClampNeg)]) CF (c_J0_charAt_5068e l D cI cB cT adK adV 0 (by decide) x2 n5) SE.blind hE.atR ok_J0_charAt_5068e wm_444 ⟨rfl, rfl, Nat.le_of_ble_eq_true rfl, Nat.le_of_ble_eq_true rfl⟩ hG wd_E_P (vk_recv (i := 0) hE.1 (by decide) (va_S.rf (A := fun _ => False))) rfl hl.1 rfl (Nat.le_of_ble_eq_true rfl) ⟨Nat.zero_le _, Nat.zero_le _⟩ dX8_spells_49 ?_
    refine lv_icmp_eq (tgt := 57) hx hb dX8_spells_52 (by decide) (fun c6 => ?_) (fun c6 => ?_)
    · have hf := tk c6 hf
      refine lv_iinc (v := (x2 + (1 : Int32))) (lv' := [(2, .int (x2 + (1 : Int32))), (0, .ref a_k), (1, .ref (adK 0))]) hx hb dX8_spells_57 hl (k := 2) rfl (iinc_eq (by decide)) (by decide) rfl (fun ls hl => ?_)
      refine lv_goto (tgt := 28) hx hb dX8_spells_60 (by decide) ?_
      exact hk _ _ (Option.some.inj hf).symm (lv_sub hl [1, 2, 0] rfl)
    · have hf := fk c6 hf
      exact hx0 _ _ (Option.some.inj hf).symm rfl (lv_sub hl [] rfl)
set_option maxHeartbeats 4000000 in
set_option maxRecDepth 100000 in
theorem L_X8_spells_s0_28_W {k_size : Int32} {k_place : Int32} {k_sort : Int32} {k_number : Int32} {k_behind : Int32} {k_bytes : (Nat → Int32)} (CF : CallFix p m c cX8_spells 3 s args wsAll RX8) (hG : Gd D cI cB cT s) (hE : SE adK adV (fun _ => False) s s.heap) {o : Nat} (hx0 : ∀ (ls : Array Slot), o = 0 → lv_has ls 3 [] → W p l e rm_X8_spells_s0 s m args below meth c s.heap [] 0 0 Q (F0 m 55 ls [])) (hx1 : ∀ (ls : Array Slot), o = 1 → lv_has ls 3 [] → W p l e rm_X8_spells_s0 s m args below meth c s.heap [] 0 0 Q (F0 m 63 ls [])) : ∀ (n : Nat) (x2 : Int32) (ls : Array Slot), va_P D vwCl (wd_k a_k a_k_bytes cI cB cT k_size k_place k_sort k_number k_behind k_bytes) s.heap → lv_has ls 3 [(0, .ref a_k), (1, .ref (adK 0)), (2, .int x2)] → lp (fun v => B_X8_spells_s0_28 k_place k_bytes v) n x2 = some o → W p l e rm_X8_spells_s0 s m args below meth c s.heap [] 0 0 Q (F0 m 28 ls []) := by
  intro n
  induction n with
  | zero =>
    intro x2 ls hP hl hf
    exact (lp_zero hf).elim
  | succ n ih =>
    intro x2 ls hP hl hf
    obtain ⟨z, hz, hf⟩ := lp_succ hf
    refine B_X8_spells_s0_28_W CF hG hE ?_ ?_ ?_ hP hl hz
    · intro v' ls ez hl
      rcases hf with ⟨v2, ev, hf⟩ | ev
      · cases Sum.inl.inj (ez.symm.trans ev)
        exact ih v' ls hP hl hf
      · exact (lp_lr (ez.symm.trans ev)).elim
    · intro o' ls ez et hl
      rcases hf with ⟨v2, ev, hf⟩ | ev
      · exact (lp_lr (ev.symm.trans ez)).elim
      · cases Sum.inr.inj (ez.symm.trans ev)
        exact hx0 ls et  hl
    · intro o' ls ez et hl
      rcases hf with ⟨v2, ev, hf⟩ | ev
      · exact (lp_lr (ev.symm.trans ez)).elim
      · cases Sum.inr.inj (ez.symm.trans ev)
        exact hx1 ls et  hl
set_option maxHeartbeats 4000000 in
set_option maxRecDepth 100000 in
theorem c_X8_spells_s0 (l : Launch) (D : va_G) (cI cB cT : ClassId) (adK adV : Nat → Nat) (a_k a_k_bytes : Nat) (k_size : Int32) (k_place : Int32) (k_sort : Int32) (k_number : Int32) (k_behind : Int32) (k_bytes : (Nat → Int32)) {z : Int32} (hf : f_X8_spells_s0 k_place k_sort k_behind k_bytes = some z) :
    Met l yX8_spells (Cond.code yX8_spells cX8_spells 3 (some .boolean) :: wsAll) rm_X8_spells_s0 (fun a U => Pro [.ref a_k, .ref (adK 0)] D cI cB cT (wd_k a_k a_k_bytes cI cB cT k_size k_place k_sort k_number k_behind k_bytes) a U ∧ SE adK adV (fun _ => False) U U.heap) (Qr (some (.int z))) 0 0 (fun _ => False) := by
  refine rx_intro RX8 (by decide +kernel) rfl (Nat.le_of_ble_eq_true rfl) ?_
  intro p e s m below meth c ls CF hr hlk hG hP hE hl
  have hl : lv_has ls 3 [(0, .ref a_k), (1, .ref (adK 0))] := hl
  obtain ⟨hx, hb, hml, hown, hts⟩ := id CF
  unfold f_X8_spells_s0 at hf
  refine lv_aload_n hx hb dX8_spells_0 rfl (lv_at hl 0 rfl) ?_
  refine va_get (D := D) (ci := 6) (v := .int k_sort) (C := RX8) (T := TX8) (N := 6) hx hb hts fin_X8 hown hG.1 hP 0 ce_k_0 vq_6 2 (by decide) (hts _ wm_235) (fun _ h9 => h9) rfl dX8_spells_1 ?_
  refine lv_iconst (v := (1 : Int32)) hx hb dX8_spells_4 (by decide) ?_
  refine lv_icmp_ne (tgt := 24) hx hb dX8_spells_5 (by decide) (fun c1 => ?_) (fun c1 => ?_)
  · have hf := fk c1 hf
    refine lv_iconst (v := (0 : Int32)) hx hb dX8_spells_24 (by decide) ?_
    obtain rfl := Option.some.inj hf
    exact ro_zret CF hr hlk (Or.inl rfl) dX8_spells_25
  · have hf := tk c1 hf
    refine lv_aload_n hx hb dX8_spells_8 rfl (lv_at hl 0 rfl) ?_
    refine va_get (D := D) (ci := 6) (v := .int k_behind) (C := RX8) (T := TX8) (N := 6) hx hb hts fin_X8 hown hG.1 hP 0 ce_k_0 vq_6 4 (by decide) (hts _ wm_238) (fun _ h9 => h9) rfl dX8_spells_9 ?_
    refine lv_aload_n hx hb dX8_spells_12 rfl (lv_at hl 0 rfl) ?_
    refine va_get (D := D) (ci := 6) (v := .int k_place) (C := RX8) (T := TX8) (N := 6) hx hb hts fin_X8 hown hG.1 hP 0 ce_k_0 vq_6 1 (by decide) (hts _ wm_232) (fun _ h9 => h9) rfl dX8_spells_13 ?_
    refine lv_isub hx hb dX8_spells_16 ?_
    refine lv_aload_n hx hb dX8_spells_17 rfl (lv_at hl 1 rfl) ?_
    refine rx_Ti (x := (Int32.ofNat (stL.getD 0 0))) (As := []) (rest := [.int (k_behind - k_place)]) CF (c_J0_length_8abf5 l D cI cB cT adK adV 0 (by decide)) SE.blind hE.atR ok_J0_length_8abf5 wm_434 ⟨rfl, rfl, Nat.le_of_ble_eq_true rfl, Nat.le_of_ble_eq_true rfl⟩ hG wd_E_P (vk_recv (i := 0) hE.1 (by decide) (va_S.rf (A := fun _ => False))) rfl hl.1 rfl (Nat.le_of_ble_eq_true rfl) ⟨Nat.zero_le _, Nat.zero_le _⟩ dX8_spells_18 ?_
    refine lv_icmp_eq (tgt := 26) hx hb dX8_spells_21 (by decide) (fun c2 => ?_) (fun c2 => ?_)
    · have hf := tk c2 hf
      refine lv_iconst (v := (0 : Int32)) hx hb dX8_spells_26 (by decide) ?_
      refine lv_istore_n (lv' := [(2, .int (0 : Int32)), (0, .ref a_k), (1, .ref (adK 0))]) hx hb dX8_spells_27 rfl hl (by decide) rfl (fun ls hl => ?_)
      obtain ⟨o7, e8, hf⟩ := lp_bind hf
      refine L_X8_spells_s0_28_W CF hG hE ?_ ?_ KN _ _ hP (lv_sub hl [1, 2, 0] rfl) e8
      · intro ls et hl
        have hf := tk et hf
        refine lv_iconst (v := (0 : Int32)) hx hb dX8_spells_55 (by decide) ?_
        obtain rfl := Option.some.inj hf
        exact ro_zret CF hr hlk (Or.inl rfl) dX8_spells_56
      · intro ls et hl
        have hf := fk (by rw [et]; decide) hf
        refine lv_iconst (v := (1 : Int32)) hx hb dX8_spells_63 (by decide) ?_
        obtain rfl := Option.some.inj hf
        exact ro_zret CF hr hlk (Or.inr rfl) dX8_spells_64
    · have hf := fk c2 hf
      refine lv_iconst (v := (0 : Int32)) hx hb dX8_spells_24 (by decide) ?_
      obtain rfl := Option.some.inj hf
      exact ro_zret CF hr hlk (Or.inl rfl) dX8_spells_25
end M_X8_spells_s0
section M_X8_spells_s1
variable {p : Program} {l : Launch} {e : Env} {s : State} {m : MethodId} {args : Array Value} {below : List Frame} {meth : Method} {c : Code} {Q : State → Prop} {A : Nat → Prop} {D : va_G} {cI cB cT : ClassId}
variable {adK adV : Nat → Nat}
variable {a_k a_k_bytes : Nat}
def rm_X8_spells_s1 : Room := { frames := 4, cells := 0, slots := 0, locals := 90 }
def B_X8_spells_s1_28 (k_place : Int32) (k_bytes : (Nat → Int32)) (x2 : Int32) : Option ((Int32) ⊕ (Nat)) := (if (Int32.ofNat (stL.getD 1 0)) ≤ x2 then some (Sum.inr 1) else (if oob (k_place + x2) 150 then none else (if oob x2 (stL.getD 1 0) then none else (if (k_bytes ((k_place + x2)).toNatClampNeg) = ((stB.getD 1 []).getD (x2).toNatClampNeg 0 &&& 255) then some (Sum.inl (x2 + (1 : Int32))) else some (Sum.inr 0)))))
def f_X8_spells_s1 (k_place : Int32) (k_sort : Int32) (k_behind : Int32) (k_bytes : (Nat → Int32)) : Option (Int32) := (if k_sort = (1 : Int32) then (if (k_behind - k_place) = (Int32.ofNat (stL.getD 1 0)) then ((lp (fun v => B_X8_spells_s1_28 k_place k_bytes v) KN (0 : Int32)).bind fun o7 => (if o7 = 0 then some (0 : Int32) else some (1 : Int32))) else some (0 : Int32)) else some (0 : Int32))
set_option maxHeartbeats 4000000 in
set_option maxRecDepth 100000 in
theorem B_X8_spells_s1_28_W {k_size : Int32} {k_place : Int32} {k_sort : Int32} {k_number : Int32} {k_behind : Int32} {k_bytes : (Nat → Int32)} {x2 : Int32} (CF : CallFix p m c cX8_spells 3 s args wsAll RX8) (hG : Gd D cI cB cT s) (hE : SE adK adV (fun _ => False) s s.heap) {z : (Int32) ⊕ (Nat)} (hk : ∀ (v' : Int32) (ls : Array Slot), z = Sum.inl v' → lv_has ls 3 [(0, .ref a_k), (1, .ref (adK 1)), (2, .int (v'))] → W p l e rm_X8_spells_s1 s m args below meth c s.heap [] 0 0 Q (F0 m 28 ls [])) (hx0 : ∀ (o' : Nat) (ls : Array Slot), z = Sum.inr o' → o' = 0 → lv_has ls 3 [] → W p l e rm_X8_spells_s1 s m args below meth c s.heap [] 0 0 Q (F0 m 55 ls [])) (hx1 : ∀ (o' : Nat) (ls : Array Slot), z = Sum.inr o' → o' = 1 → lv_has ls 3 [] → W p l e rm_X8_spells_s1 s m args below meth c s.heap [] 0 0 Q (F0 m 63 ls [])) {ls : Array Slot} (hP : va_P D vwCl (wd_k a_k a_k_bytes cI cB cT k_size k_place k_sort k_number k_behind k_bytes) s.heap) (hl : lv_has ls 3 [(0, .ref a_k), (1, .ref (adK 1)), (2, .int x2)]) (hf : B_X8_spells_s1_28 k_place k_bytes x2 = some z) : W p l e rm_X8_spells_s1 s m args below meth c s.heap [] 0 0 Q (F0 m 28 ls []) := by
  obtain ⟨hx, hb, hml, hown, hts⟩ := id CF
  unfold B_X8_spells_s1_28 at hf
  refine lv_iload_n hx hb dX8_spells_28 rfl (lv_at hl 2 rfl) ?_
  refine lv_aload_n hx hb dX8_spells_29 rfl (lv_at hl 1 rfl) ?_
  refine rx_Ti (x := (Int32.ofNat (stL.getD 1 0))) (As := []) (rest := [.int x2]) CF (c_J0_length_8abf5 l D cI cB cT adK adV 1 (by decide)) SE.blind hE.atR ok_J0_length_8abf5 wm_434 ⟨rfl, rfl, Nat.le_of_ble_eq_true rfl, Nat.le_of_ble_eq_true rfl⟩ hG wd_E_P (vk_recv (i := 1) hE.1 (by decide) (va_S.rf (A := fun _ => False))) rfl hl.1 rfl (Nat.le_of_ble_eq_true rfl) ⟨Nat.zero_le _, Nat.zero_le _⟩ dX8_spells_30 ?_
  refine lv_icmp_ge (tgt := 63) hx hb dX8_spells_33 (by decide) (fun c3 => ?_) (fun c3 => ?_)
  · have hf := tk c3 hf
    exact hx1 _ _ (Option.some.inj hf).symm rfl (lv_sub hl [] rfl)
  · have hf := fk c3 hf
    refine lv_aload_n hx hb dX8_spells_36 rfl (lv_at hl 0 rfl) ?_
    refine va_get (D := D) (ci := 6) (v := .ref a_k_bytes) (C := RX8) (T := TX8) (N := 6) hx hb hts fin_X8 hown hG.1 hP 0 ce_k_0 vq_6 5 (by decide) (hts _ wm_239) (fun _ h9 => h9) rfl dX8_spells_37 ?_
    refine lv_aload_n hx hb dX8_spells_40 rfl (lv_at hl 0 rfl) ?_
    refine va_get (D := D) (ci := 6) (v := .int k_place) (C := RX8) (T := TX8) (N := 6) hx hb hts fin_X8 hown hG.1 hP 0 ce_k_0 vq_6 1 (by decide) (hts _ wm_232) (fun _ h9 => h9) rfl dX8_spells_41 ?_
    refine lv_iload_n hx hb dX8_spells_44 rfl (lv_at hl 2 rfl) ?_
    refine lv_iadd hx hb dX8_spells_45 ?_
    obtain ⟨n4, hf⟩ := nk hf
    refine va_bald (f := k_bytes) hx hb hG.1 hP 1 1 ce_k_1 rfl n4 dX8_spells_46 ?_
    refine lv_aload_n hx hb dX8_spells_47 rfl (lv_at hl 1 rfl) ?_
    refine lv_iload_n hx hb dX8_spells_48 rfl (lv_at hl 2 rfl) ?_
    obtain ⟨n5, hf⟩ := nk hf
    refine rx_Ti (x := ((stB.getD 1 []).getD (x2).toNatClampNeg 0 &&& 255)) (As := [.int x2]) (rest := [.int (k_bytes ((k_place + x2)).toNatClampNeg)]) CF (c_J0_charAt_5068e l D cI cB cT adK adV 1 (by decide) x2 n5) SE.blind hE.atR ok_J0_charAt_5068e wm_444 ⟨rfl, rfl, Nat.le_of_ble_eq_true rfl, Nat.le_of_ble_eq_true rfl⟩ hG wd_E_P (vk_recv (i := 1) hE.1 (by decide) (va_S.rf (A := fun _ => False))) rfl hl.1 rfl (Nat.le_of_ble_eq_true rfl) ⟨Nat.zero_le _, Nat.zero_le _⟩ dX8_spells_49 ?_
    refine lv_icmp_eq (tgt := 57) hx hb dX8_spells_52 (by decide) (fun c6 => ?_) (fun c6 => ?_)
    · have hf := tk c6 hf
      refine lv_iinc (v := (x2 + (1 : Int32))) (lv' := [(2, .int (x2 + (1 : Int32))), (0, .ref a_k), (1, .ref (adK 1))]) hx hb dX8_spells_57 hl (k := 2) rfl (iinc_eq (by decide)) (by decide) rfl (fun ls hl => ?_)
      refine lv_goto (tgt := 28) hx hb dX8_spells_60 (by decide) ?_
      exact hk _ _ (Option.some.inj hf).symm (lv_sub hl [1, 2, 0] rfl)
    · have hf := fk c6 hf
      exact hx0 _ _ (Option.some.inj hf).symm rfl (lv_sub hl [] rfl)
set_option maxHeartbeats 4000000 in
set_option maxRecDepth 100000 in
theorem L_X8_spells_s1_28_W {k_size : Int32} {k_place : Int32} {k_sort : Int32} {k_number : Int32} {k_behind : Int32} {k_bytes : (Nat → Int32)} (CF : CallFix p m c cX8_spells 3 s args wsAll RX8) (hG : Gd D cI cB cT s) (hE : SE adK adV (fun _ => False) s s.heap) {o : Nat} (hx0 : ∀ (ls : Array Slot), o = 0 → lv_has ls 3 [] → W p l e rm_X8_spells_s1 s m args below meth c s.heap [] 0 0 Q (F0 m 55 ls [])) (hx1 : ∀ (ls : Array Slot), o = 1 → lv_has ls 3 [] → W p l e rm_X8_spells_s1 s m args below meth c s.heap [] 0 0 Q (F0 m 63 ls [])) : ∀ (n : Nat) (x2 : Int32) (ls : Array Slot), va_P D vwCl (wd_k a_k a_k_bytes cI cB cT k_size k_place k_sort k_number k_behind k_bytes) s.heap → lv_has ls 3 [(0, .ref a_k), (1, .ref (adK 1)), (2, .int x2)] → lp (fun v => B_X8_spells_s1_28 k_place k_bytes v) n x2 = some o → W p l e rm_X8_spells_s1 s m args below meth c s.heap [] 0 0 Q (F0 m 28 ls []) := by
  intro n
  induction n with
  | zero =>
    intro x2 ls hP hl hf
    exact (lp_zero hf).elim
  | succ n ih =>
    intro x2 ls hP hl hf
    obtain ⟨z, hz, hf⟩ := lp_succ hf
    refine B_X8_spells_s1_28_W CF hG hE ?_ ?_ ?_ hP hl hz
    · intro v' ls ez hl
      rcases hf with ⟨v2, ev, hf⟩ | ev
      · cases Sum.inl.inj (ez.symm.trans ev)
        exact ih v' ls hP hl hf
      · exact (lp_lr (ez.symm.trans ev)).elim
    · intro o' ls ez et hl
      rcases hf with ⟨v2, ev, hf⟩ | ev
      · exact (lp_lr (ev.symm.trans ez)).elim
      · cases Sum.inr.inj (ez.symm.trans ev)
        exact hx0 ls et  hl
    · intro o' ls ez et hl
      rcases hf with ⟨v2, ev, hf⟩ | ev
      · exact (lp_lr (ev.symm.trans ez)).elim
      · cases Sum.inr.inj (ez.symm.trans ev)
        exact hx1 ls et  hl
set_option maxHeartbeats 4000000 in
set_option maxRecDepth 100000 in
theorem c_X8_spells_s1 (l : Launch) (D : va_G) (cI cB cT : ClassId) (adK adV : Nat → Nat) (a_k a_k_bytes : Nat) (k_size : Int32) (k_place : Int32) (k_sort : Int32) (k_number : Int32) (k_behind : Int32) (k_bytes : (Nat → Int32)) {z : Int32} (hf : f_X8_spells_s1 k_place k_sort k_behind k_bytes = some z) :
    Met l yX8_spells (Cond.code yX8_spells cX8_spells 3 (some .boolean) :: wsAll) rm_X8_spells_s1 (fun a U => Pro [.ref a_k, .ref (adK 1)] D cI cB cT (wd_k a_k a_k_bytes cI cB cT k_size k_place k_sort k_number k_behind k_bytes) a U ∧ SE adK adV (fun _ => False) U U.heap) (Qr (some (.int z))) 0 0 (fun _ => False) := by
  refine rx_intro RX8 (by decide +kernel) rfl (Nat.le_of_ble_eq_true rfl) ?_
  intro p e s m below meth c ls CF hr hlk hG hP hE hl
  have hl : lv_has ls 3 [(0, .ref a_k), (1, .ref (adK 1))] := hl
  obtain ⟨hx, hb, hml, hown, hts⟩ := id CF
  unfold f_X8_spells_s1 at hf
  refine lv_aload_n hx hb dX8_spells_0 rfl (lv_at hl 0 rfl) ?_
  refine va_get (D := D) (ci := 6) (v := .int k_sort) (C := RX8) (T := TX8) (N := 6) hx hb hts fin_X8 hown hG.1 hP 0 ce_k_0 vq_6 2 (by decide) (hts _ wm_235) (fun _ h9 => h9) rfl dX8_spells_1 ?_
  refine lv_iconst (v := (1 : Int32)) hx hb dX8_spells_4 (by decide) ?_
  refine lv_icmp_ne (tgt := 24) hx hb dX8_spells_5 (by decide) (fun c1 => ?_) (fun c1 => ?_)
  · have hf := fk c1 hf
    refine lv_iconst (v := (0 : Int32)) hx hb dX8_spells_24 (by decide) ?_
    obtain rfl := Option.some.inj hf
    exact ro_zret CF hr hlk (Or.inl rfl) dX8_spells_25
  · have hf := tk c1 hf
    refine lv_aload_n hx hb dX8_spells_8 rfl (lv_at hl 0 rfl) ?_
    refine va_get (D := D) (ci := 6) (v := .int k_behind) (C := RX8) (T := TX8) (N := 6) hx hb hts fin_X8 hown hG.1 hP 0 ce_k_0 vq_6 4 (by decide) (hts _ wm_238) (fun _ h9 => h9) rfl dX8_spells_9 ?_
    refine lv_aload_n hx hb dX8_spells_12 rfl (lv_at hl 0 rfl) ?_
    refine va_get (D := D) (ci := 6) (v := .int k_place) (C := RX8) (T := TX8) (N := 6) hx hb hts fin_X8 hown hG.1 hP 0 ce_k_0 vq_6 1 (by decide) (hts _ wm_232) (fun _ h9 => h9) rfl dX8_spells_13 ?_
    refine lv_isub hx hb dX8_spells_16 ?_
    refine lv_aload_n hx hb dX8_spells_17 rfl (lv_at hl 1 rfl) ?_
    refine rx_Ti (x := (Int32.ofNat (stL.getD 1 0))) (As := []) (rest := [.int (k_behind - k_place)]) CF (c_J0_length_8abf5 l D cI cB cT adK adV 1 (by decide)) SE.blind hE.atR ok_J0_length_8abf5 wm_434 ⟨rfl, rfl, Nat.le_of_ble_eq_true rfl, Nat.le_of_ble_eq_true rfl⟩ hG wd_E_P (vk_recv (i := 1) hE.1 (by decide) (va_S.rf (A := fun _ => False))) rfl hl.1 rfl (Nat.le_of_ble_eq_true rfl) ⟨Nat.zero_le _, Nat.zero_le _⟩ dX8_spells_18 ?_
    refine lv_icmp_eq (tgt := 26) hx hb dX8_spells_21 (by decide) (fun c2 => ?_) (fun c2 => ?_)
    · have hf := tk c2 hf
      refine lv_iconst (v := (0 : Int32)) hx hb dX8_spells_26 (by decide) ?_
      refine lv_istore_n (lv' := [(2, .int (0 : Int32)), (0, .ref a_k), (1, .ref (adK 1))]) hx hb dX8_spells_27 rfl hl (by decide) rfl (fun ls hl => ?_)
      obtain ⟨o7, e8, hf⟩ := lp_bind hf
      refine L_X8_spells_s1_28_W CF hG hE ?_ ?_ KN _ _ hP (lv_sub hl [1, 2, 0] rfl) e8
      · intro ls et hl
        have hf := tk et hf
        refine lv_iconst (v := (0 : Int32)) hx hb dX8_spells_55 (by decide) ?_
        obtain rfl := Option.some.inj hf
        exact ro_zret CF hr hlk (Or.inl rfl) dX8_spells_56
      · intro ls et hl
        have hf := fk (by rw [et]; decide) hf
        refine lv_iconst (v := (1 : Int32)) hx hb dX8_spells_63 (by decide) ?_
        obtain rfl := Option.some.inj hf
        exact ro_zret CF hr hlk (Or.inr rfl) dX8_spells_64
    · have hf := fk c2 hf
      refine lv_iconst (v := (0 : Int32)) hx hb dX8_spells_24 (by decide) ?_
      obtain rfl := Option.some.inj hf
      exact ro_zret CF hr hlk (Or.inl rfl) dX8_spells_25
end M_X8_spells_s1
section M_X8_spells_s2
variable {p : Program} {l : Launch} {e : Env} {s : State} {m : MethodId} {args : Array Value} {below : List Frame} {meth : Method} {c : Code} {Q : State → Prop} {A : Nat → Prop} {D : va_G} {cI cB cT : ClassId}
variable {adK adV : Nat → Nat}
variable {a_k a_k_bytes : Nat}
def rm_X8_spells_s2 : Room := { frames := 4, cells := 0, slots := 0, locals := 90 }
def B_X8_spells_s2_28 (k_place : Int32) (k_bytes : (Nat → Int32)) (x2 : Int32) : Option ((Int32) ⊕ (Nat)) := (if (Int32.ofNat (stL.getD 2 0)) ≤ x2 then some (Sum.inr 1) else (if oob (k_place + x2) 150 then none else (if oob x2 (stL.getD 2 0) then none else (if (k_bytes ((k_place + x2)).toNatClampNeg) = ((stB.getD 2 []).getD (x2).toNatClampNeg 0 &&& 255) then some (Sum.inl (x2 + (1 : Int32))) else some (Sum.inr 0)))))
def f_X8_spells_s2 (k_place : Int32) (k_sort : Int32) (k_behind : Int32) (k_bytes : (Nat → Int32)) : Option (Int32) := (if k_sort = (1 : Int32) then (if (k_behind - k_place) = (Int32.ofNat (stL.getD 2 0)) then ((lp (fun v => B_X8_spells_s2_28 k_place k_bytes v) KN (0 : Int32)).bind fun o7 => (if o7 = 0 then some (0 : Int32) else some (1 : Int32))) else some (0 : Int32)) else some (0 : Int32))
set_option maxHeartbeats 4000000 in
set_option maxRecDepth 100000 in
theorem B_X8_spells_s2_28_W {k_size : Int32} {k_place : Int32} {k_sort : Int32} {k_number : Int32} {k_behind : Int32} {k_bytes : (Nat → Int32)} {x2 : Int32} (CF : CallFix p m c cX8_spells 3 s args wsAll RX8) (hG : Gd D cI cB cT s) (hE : SE adK adV (fun _ => False) s s.heap) {z : (Int32) ⊕ (Nat)} (hk : ∀ (v' : Int32) (ls : Array Slot), z = Sum.inl v' → lv_has ls 3 [(0, .ref a_k), (1, .ref (adK 2)), (2, .int (v'))] → W p l e rm_X8_spells_s2 s m args below meth c s.heap [] 0 0 Q (F0 m 28 ls [])) (hx0 : ∀ (o' : Nat) (ls : Array Slot), z = Sum.inr o' → o' = 0 → lv_has ls 3 [] → W p l e rm_X8_spells_s2 s m args below meth c s.heap [] 0 0 Q (F0 m 55 ls [])) (hx1 : ∀ (o' : Nat) (ls : Array Slot), z = Sum.inr o' → o' = 1 → lv_has ls 3 [] → W p l e rm_X8_spells_s2 s m args below meth c s.heap [] 0 0 Q (F0 m 63 ls [])) {ls : Array Slot} (hP : va_P D vwCl (wd_k a_k a_k_bytes cI cB cT k_size k_place k_sort k_number k_behind k_bytes) s.heap) (hl : lv_has ls 3 [(0, .ref a_k), (1, .ref (adK 2)), (2, .int x2)]) (hf : B_X8_spells_s2_28 k_place k_bytes x2 = some z) : W p l e rm_X8_spells_s2 s m args below meth c s.heap [] 0 0 Q (F0 m 28 ls []) := by
  obtain ⟨hx, hb, hml, hown, hts⟩ := id CF
  unfold B_X8_spells_s2_28 at hf
  refine lv_iload_n hx hb dX8_spells_28 rfl (lv_at hl 2 rfl) ?_
  refine lv_aload_n hx hb dX8_spells_29 rfl (lv_at hl 1 rfl) ?_
  refine rx_Ti (x := (Int32.ofNat (stL.getD 2 0))) (As := []) (rest := [.int x2]) CF (c_J0_length_8abf5 l D cI cB cT adK adV 2 (by decide)) SE.blind hE.atR ok_J0_length_8abf5 wm_434 ⟨rfl, rfl, Nat.le_of_ble_eq_true rfl, Nat.le_of_ble_eq_true rfl⟩ hG wd_E_P (vk_recv (i := 2) hE.1 (by decide) (va_S.rf (A := fun _ => False))) rfl hl.1 rfl (Nat.le_of_ble_eq_true rfl) ⟨Nat.zero_le _, Nat.zero_le _⟩ dX8_spells_30 ?_
  refine lv_icmp_ge (tgt := 63) hx hb dX8_spells_33 (by decide) (fun c3 => ?_) (fun c3 => ?_)
  · have hf := tk c3 hf
    exact hx1 _ _ (Option.some.inj hf).symm rfl (lv_sub hl [] rfl)
  · have hf := fk c3 hf
    refine lv_aload_n hx hb dX8_spells_36 rfl (lv_at hl 0 rfl) ?_
    refine va_get (D := D) (ci := 6) (v := .ref a_k_bytes) (C := RX8) (T := TX8) (N := 6) hx hb hts fin_X8 hown hG.1 hP 0 ce_k_0 vq_6 5 (by decide) (hts _ wm_239) (fun _ h9 => h9) rfl dX8_spells_37 ?_
    refine lv_aload_n hx hb dX8_spells_40 rfl (lv_at hl 0 rfl) ?_
    refine va_get (D := D) (ci := 6) (v := .int k_place) (C := RX8) (T := TX8) (N := 6) hx hb hts fin_X8 hown hG.1 hP 0 ce_k_0 vq_6 1 (by decide) (hts _ wm_232) (fun _ h9 => h9) rfl dX8_spells_41 ?_
    refine lv_iload_n hx hb dX8_spells_44 rfl (lv_at hl 2 rfl) ?_
    refine lv_iadd hx hb dX8_spells_45 ?_
    obtain ⟨n4, hf⟩ := nk hf
    refine va_bald (f := k_bytes) hx hb hG.1 hP 1 1 ce_k_1 rfl n4 dX8_spells_46 ?_
    refine lv_aload_n hx hb dX8_spells_47 rfl (lv_at hl 1 rfl) ?_
    refine lv_iload_n hx hb dX8_spells_48 rfl (lv_at hl 2 rfl) ?_
    obtain ⟨n5, hf⟩ := nk hf
    refine rx_Ti (x := ((stB.getD 2 []).getD (x2).toNatClampNeg 0 &&& 255)) (As := [.int x2]) (rest := [.int (k_bytes ((k_place + x2)).toNatClampNeg)]) CF (c_J0_charAt_5068e l D cI cB cT adK adV 2 (by decide) x2 n5) SE.blind hE.atR ok_J0_charAt_5068e wm_444 ⟨rfl, rfl, Nat.le_of_ble_eq_true rfl, Nat.le_of_ble_eq_true rfl⟩ hG wd_E_P (vk_recv (i := 2) hE.1 (by decide) (va_S.rf (A := fun _ => False))) rfl hl.1 rfl (Nat.le_of_ble_eq_true rfl) ⟨Nat.zero_le _, Nat.zero_le _⟩ dX8_spells_49 ?_
    refine lv_icmp_eq (tgt := 57) hx hb dX8_spells_52 (by decide) (fun c6 => ?_) (fun c6 => ?_)
    · have hf := tk c6 hf
      refine lv_iinc (v := (x2 + (1 : Int32))) (lv' := [(2, .int (x2 + (1 : Int32))), (0, .ref a_k), (1, .ref (adK 2))]) hx hb dX8_spells_57 hl (k := 2) rfl (iinc_eq (by decide)) (by decide) rfl (fun ls hl => ?_)
      refine lv_goto (tgt := 28) hx hb dX8_spells_60 (by decide) ?_
      exact hk _ _ (Option.some.inj hf).symm (lv_sub hl [1, 2, 0] rfl)
    · have hf := fk c6 hf
      exact hx0 _ _ (Option.some.inj hf).symm rfl (lv_sub hl [] rfl)
set_option maxHeartbeats 4000000 in
set_option maxRecDepth 100000 in
theorem L_X8_spells_s2_28_W {k_size : Int32} {k_place : Int32} {k_sort : Int32} {k_number : Int32} {k_behind : Int32} {k_bytes : (Nat → Int32)} (CF : CallFix p m c cX8_spells 3 s args wsAll RX8) (hG : Gd D cI cB cT s) (hE : SE adK adV (fun _ => False) s s.heap) {o : Nat} (hx0 : ∀ (ls : Array Slot), o = 0 → lv_has ls 3 [] → W p l e rm_X8_spells_s2 s m args below meth c s.heap [] 0 0 Q (F0 m 55 ls [])) (hx1 : ∀ (ls : Array Slot), o = 1 → lv_has ls 3 [] → W p l e rm_X8_spells_s2 s m args below meth c s.heap [] 0 0 Q (F0 m 63 ls [])) : ∀ (n : Nat) (x2 : Int32) (ls : Array Slot), va_P D vwCl (wd_k a_k a_k_bytes cI cB cT k_size k_place k_sort k_number k_behind k_bytes) s.heap → lv_has ls 3 [(0, .ref a_k), (1, .ref (adK 2)), (2, .int x2)] → lp (fun v => B_X8_spells_s2_28 k_place k_bytes v) n x2 = some o → W p l e rm_X8_spells_s2 s m args below meth c s.heap [] 0 0 Q (F0 m 28 ls []) := by
  intro n
  induction n with
  | zero =>
    intro x2 ls hP hl hf
    exact (lp_zero hf).elim
  | succ n ih =>
    intro x2 ls hP hl hf
    obtain ⟨z, hz, hf⟩ := lp_succ hf
    refine B_X8_spells_s2_28_W CF hG hE ?_ ?_ ?_ hP hl hz
    · intro v' ls ez hl
      rcases hf with ⟨v2, ev, hf⟩ | ev
      · cases Sum.inl.inj (ez.symm.trans ev)
        exact ih v' ls hP hl hf
      · exact (lp_lr (ez.symm.trans ev)).elim
    · intro o' ls ez et hl
      rcases hf with ⟨v2, ev, hf⟩ | ev
      · exact (lp_lr (ev.symm.trans ez)).elim
      · cases Sum.inr.inj (ez.symm.trans ev)
        exact hx0 ls et  hl
    · intro o' ls ez et hl
      rcases hf with ⟨v2, ev, hf⟩ | ev
      · exact (lp_lr (ev.symm.trans ez)).elim
      · cases Sum.inr.inj (ez.symm.trans ev)
        exact hx1 ls et  hl
set_option maxHeartbeats 4000000 in
set_option maxRecDepth 100000 in
theorem c_X8_spells_s2 (l : Launch) (D : va_G) (cI cB cT : ClassId) (adK adV : Nat → Nat) (a_k a_k_bytes : Nat) (k_size : Int32) (k_place : Int32) (k_sort : Int32) (k_number : Int32) (k_behind : Int32) (k_bytes : (Nat → Int32)) {z : Int32} (hf : f_X8_spells_s2 k_place k_sort k_behind k_bytes = some z) :
    Met l yX8_spells (Cond.code yX8_spells cX8_spells 3 (some .boolean) :: wsAll) rm_X8_spells_s2 (fun a U => Pro [.ref a_k, .ref (adK 2)] D cI cB cT (wd_k a_k a_k_bytes cI cB cT k_size k_place k_sort k_number k_behind k_bytes) a U ∧ SE adK adV (fun _ => False) U U.heap) (Qr (some (.int z))) 0 0 (fun _ => False) := by
  refine rx_intro RX8 (by decide +kernel) rfl (Nat.le_of_ble_eq_true rfl) ?_
  intro p e s m below meth c ls CF hr hlk hG hP hE hl
  have hl : lv_has ls 3 [(0, .ref a_k), (1, .ref (adK 2))] := hl
  obtain ⟨hx, hb, hml, hown, hts⟩ := id CF
  unfold f_X8_spells_s2 at hf
  refine lv_aload_n hx hb dX8_spells_0 rfl (lv_at hl 0 rfl) ?_
  refine va_get (D := D) (ci := 6) (v := .int k_sort) (C := RX8) (T := TX8) (N := 6) hx hb hts fin_X8 hown hG.1 hP 0 ce_k_0 vq_6 2 (by decide) (hts _ wm_235) (fun _ h9 => h9) rfl dX8_spells_1 ?_
  refine lv_iconst (v := (1 : Int32)) hx hb dX8_spells_4 (by decide) ?_
  refine lv_icmp_ne (tgt := 24) hx hb dX8_spells_5 (by decide) (fun c1 => ?_) (fun c1 => ?_)
  · have hf := fk c1 hf
    refine lv_iconst (v := (0 : Int32)) hx hb dX8_spells_24 (by decide) ?_
    obtain rfl := Option.some.inj hf
    exact ro_zret CF hr hlk (Or.inl rfl) dX8_spells_25
  · have hf := tk c1 hf
    refine lv_aload_n hx hb dX8_spells_8 rfl (lv_at hl 0 rfl) ?_
    refine va_get (D := D) (ci := 6) (v := .int k_behind) (C := RX8) (T := TX8) (N := 6) hx hb hts fin_X8 hown hG.1 hP 0 ce_k_0 vq_6 4 (by decide) (hts _ wm_238) (fun _ h9 => h9) rfl dX8_spells_9 ?_
    refine lv_aload_n hx hb dX8_spells_12 rfl (lv_at hl 0 rfl) ?_
    refine va_get (D := D) (ci := 6) (v := .int k_place) (C := RX8) (T := TX8) (N := 6) hx hb hts fin_X8 hown hG.1 hP 0 ce_k_0 vq_6 1 (by decide) (hts _ wm_232) (fun _ h9 => h9) rfl dX8_spells_13 ?_
    refine lv_isub hx hb dX8_spells_16 ?_
    refine lv_aload_n hx hb dX8_spells_17 rfl (lv_at hl 1 rfl) ?_
    refine rx_Ti (x := (Int32.ofNat (stL.getD 2 0))) (As := []) (rest := [.int (k_behind - k_place)]) CF (c_J0_length_8abf5 l D cI cB cT adK adV 2 (by decide)) SE.blind hE.atR ok_J0_length_8abf5 wm_434 ⟨rfl, rfl, Nat.le_of_ble_eq_true rfl, Nat.le_of_ble_eq_true rfl⟩ hG wd_E_P (vk_recv (i := 2) hE.1 (by decide) (va_S.rf (A := fun _ => False))) rfl hl.1 rfl (Nat.le_of_ble_eq_true rfl) ⟨Nat.zero_le _, Nat.zero_le _⟩ dX8_spells_18 ?_
    refine lv_icmp_eq (tgt := 26) hx hb dX8_spells_21 (by decide) (fun c2 => ?_) (fun c2 => ?_)
    · have hf := tk c2 hf
      refine lv_iconst (v := (0 : Int32)) hx hb dX8_spells_26 (by decide) ?_
      refine lv_istore_n (lv' := [(2, .int (0 : Int32)), (0, .ref a_k), (1, .ref (adK 2))]) hx hb dX8_spells_27 rfl hl (by decide) rfl (fun ls hl => ?_)
      obtain ⟨o7, e8, hf⟩ := lp_bind hf
      refine L_X8_spells_s2_28_W CF hG hE ?_ ?_ KN _ _ hP (lv_sub hl [1, 2, 0] rfl) e8
      · intro ls et hl
        have hf := tk et hf
        refine lv_iconst (v := (0 : Int32)) hx hb dX8_spells_55 (by decide) ?_
        obtain rfl := Option.some.inj hf
        exact ro_zret CF hr hlk (Or.inl rfl) dX8_spells_56
      · intro ls et hl
        have hf := fk (by rw [et]; decide) hf
        refine lv_iconst (v := (1 : Int32)) hx hb dX8_spells_63 (by decide) ?_
        obtain rfl := Option.some.inj hf
        exact ro_zret CF hr hlk (Or.inr rfl) dX8_spells_64
    · have hf := fk c2 hf
      refine lv_iconst (v := (0 : Int32)) hx hb dX8_spells_24 (by decide) ?_
      obtain rfl := Option.some.inj hf
      exact ro_zret CF hr hlk (Or.inl rfl) dX8_spells_25
end M_X8_spells_s2
section M_X8_spells_s3
variable {p : Program} {l : Launch} {e : Env} {s : State} {m : MethodId} {args : Array Value} {below : List Frame} {meth : Method} {c : Code} {Q : State → Prop} {A : Nat → Prop} {D : va_G} {cI cB cT : ClassId}
variable {adK adV : Nat → Nat}
variable {a_k a_k_bytes : Nat}
def rm_X8_spells_s3 : Room := { frames := 4, cells := 0, slots := 0, locals := 90 }
def B_X8_spells_s3_28 (k_place : Int32) (k_bytes : (Nat → Int32)) (x2 : Int32) : Option ((Int32) ⊕ (Nat)) := (if (Int32.ofNat (stL.getD 3 0)) ≤ x2 then some (Sum.inr 1) else (if oob (k_place + x2) 150 then none else (if oob x2 (stL.getD 3 0) then none else (if (k_bytes ((k_place + x2)).toNatClampNeg) = ((stB.getD 3 []).getD (x2).toNatClampNeg 0 &&& 255) then some (Sum.inl (x2 + (1 : Int32))) else some (Sum.inr 0)))))
def f_X8_spells_s3 (k_place : Int32) (k_sort : Int32) (k_behind : Int32) (k_bytes : (Nat → Int32)) : Option (Int32) := (if k_sort = (1 : Int32) then (if (k_behind - k_place) = (Int32.ofNat (stL.getD 3 0)) then ((lp (fun v => B_X8_spells_s3_28 k_place k_bytes v) KN (0 : Int32)).bind fun o7 => (if o7 = 0 then some (0 : Int32) else some (1 : Int32))) else some (0 : Int32)) else some (0 : Int32))
set_option maxHeartbeats 4000000 in
set_option maxRecDepth 100000 in
theorem B_X8_spells_s3_28_W {k_size : Int32} {k_place : Int32} {k_sort : Int32} {k_number : Int32} {k_behind : Int32} {k_bytes : (Nat → Int32)} {x2 : Int32} (CF : CallFix p m c cX8_spells 3 s args wsAll RX8) (hG : Gd D cI cB cT s) (hE : SE adK adV (fun _ => False) s s.heap) {z : (Int32) ⊕ (Nat)} (hk : ∀ (v' : Int32) (ls : Array Slot), z = Sum.inl v' → lv_has ls 3 [(0, .ref a_k), (1, .ref (adK 3)), (2, .int (v'))] → W p l e rm_X8_spells_s3 s m args below meth c s.heap [] 0 0 Q (F0 m 28 ls [])) (hx0 : ∀ (o' : Nat) (ls : Array Slot), z = Sum.inr o' → o' = 0 → lv_has ls 3 [] → W p l e rm_X8_spells_s3 s m args below meth c s.heap [] 0 0 Q (F0 m 55 ls [])) (hx1 : ∀ (o' : Nat) (ls : Array Slot), z = Sum.inr o' → o' = 1 → lv_has ls 3 [] → W p l e rm_X8_spells_s3 s m args below meth c s.heap [] 0 0 Q (F0 m 63 ls [])) {ls : Array Slot} (hP : va_P D vwCl (wd_k a_k a_k_bytes cI cB cT k_size k_place k_sort k_number k_behind k_bytes) s.heap) (hl : lv_has ls 3 [(0, .ref a_k), (1, .ref (adK 3)), (2, .int x2)]) (hf : B_X8_spells_s3_28 k_place k_bytes x2 = some z) : W p l e rm_X8_spells_s3 s m args below meth c s.heap [] 0 0 Q (F0 m 28 ls []) := by
  obtain ⟨hx, hb, hml, hown, hts⟩ := id CF
  unfold B_X8_spells_s3_28 at hf
  refine lv_iload_n hx hb dX8_spells_28 rfl (lv_at hl 2 rfl) ?_
  refine lv_aload_n hx hb dX8_spells_29 rfl (lv_at hl 1 rfl) ?_
  refine rx_Ti (x := (Int32.ofNat (stL.getD 3 0))) (As := []) (rest := [.int x2]) CF (c_J0_length_8abf5 l D cI cB cT adK adV 3 (by decide)) SE.blind hE.atR ok_J0_length_8abf5 wm_434 ⟨rfl, rfl, Nat.le_of_ble_eq_true rfl, Nat.le_of_ble_eq_true rfl⟩ hG wd_E_P (vk_recv (i := 3) hE.1 (by decide) (va_S.rf (A := fun _ => False))) rfl hl.1 rfl (Nat.le_of_ble_eq_true rfl) ⟨Nat.zero_le _, Nat.zero_le _⟩ dX8_spells_30 ?_
  refine lv_icmp_ge (tgt := 63) hx hb dX8_spells_33 (by decide) (fun c3 => ?_) (fun c3 => ?_)
  · have hf := tk c3 hf
    exact hx1 _ _ (Option.some.inj hf).symm rfl (lv_sub hl [] rfl)
  · have hf := fk c3 hf
    refine lv_aload_n hx hb dX8_spells_36 rfl (lv_at hl 0 rfl) ?_
    refine va_get (D := D) (ci := 6) (v := .ref a_k_bytes) (C := RX8) (T := TX8) (N := 6) hx hb hts fin_X8 hown hG.1 hP 0 ce_k_0 vq_6 5 (by decide) (hts _ wm_239) (fun _ h9 => h9) rfl dX8_spells_37 ?_
    refine lv_aload_n hx hb dX8_spells_40 rfl (lv_at hl 0 rfl) ?_
    refine va_get (D := D) (ci := 6) (v := .int k_place) (C := RX8) (T := TX8) (N := 6) hx hb hts fin_X8 hown hG.1 hP 0 ce_k_0 vq_6 1 (by decide) (hts _ wm_232) (fun _ h9 => h9) rfl dX8_spells_41 ?_
    refine lv_iload_n hx hb dX8_spells_44 rfl (lv_at hl 2 rfl) ?_
    refine lv_iadd hx hb dX8_spells_45 ?_
    obtain ⟨n4, hf⟩ := nk hf
    refine va_bald (f := k_bytes) hx hb hG.1 hP 1 1 ce_k_1 rfl n4 dX8_spells_46 ?_
    refine lv_aload_n hx hb dX8_spells_47 rfl (lv_at hl 1 rfl) ?_
    refine lv_iload_n hx hb dX8_spells_48 rfl (lv_at hl 2 rfl) ?_
    obtain ⟨n5, hf⟩ := nk hf
    refine rx_Ti (x := ((stB.getD 3 []).getD (x2).toNatClampNeg 0 &&& 255)) (As := [.int x2]) (rest := [.int (k_bytes ((k_place + x2)).toNatClampNeg)]) CF (c_J0_charAt_5068e l D cI cB cT adK adV 3 (by decide) x2 n5) SE.blind hE.atR ok_J0_charAt_5068e wm_444 ⟨rfl, rfl, Nat.le_of_ble_eq_true rfl, Nat.le_of_ble_eq_true rfl⟩ hG wd_E_P (vk_recv (i := 3) hE.1 (by decide) (va_S.rf (A := fun _ => False))) rfl hl.1 rfl (Nat.le_of_ble_eq_true rfl) ⟨Nat.zero_le _, Nat.zero_le _⟩ dX8_spells_49 ?_
    refine lv_icmp_eq (tgt := 57) hx hb dX8_spells_52 (by decide) (fun c6 => ?_) (fun c6 => ?_)
    · have hf := tk c6 hf
      refine lv_iinc (v := (x2 + (1 : Int32))) (lv' := [(2, .int (x2 + (1 : Int32))), (0, .ref a_k), (1, .ref (adK 3))]) hx hb dX8_spells_57 hl (k := 2) rfl (iinc_eq (by decide)) (by decide) rfl (fun ls hl => ?_)
      refine lv_goto (tgt := 28) hx hb dX8_spells_60 (by decide) ?_
      exact hk _ _ (Option.some.inj hf).symm (lv_sub hl [1, 2, 0] rfl)
    · have hf := fk c6 hf
      exact hx0 _ _ (Option.some.inj hf).symm rfl (lv_sub hl [] rfl)
set_option maxHeartbeats 4000000 in
set_option maxRecDepth 100000 in
theorem L_X8_spells_s3_28_W {k_size : Int32} {k_place : Int32} {k_sort : Int32} {k_number : Int32} {k_behind : Int32} {k_bytes : (Nat → Int32)} (CF : CallFix p m c cX8_spells 3 s args wsAll RX8) (hG : Gd D cI cB cT s) (hE : SE adK adV (fun _ => False) s s.heap) {o : Nat} (hx0 : ∀ (ls : Array Slot), o = 0 → lv_has ls 3 [] → W p l e rm_X8_spells_s3 s m args below meth c s.heap [] 0 0 Q (F0 m 55 ls [])) (hx1 : ∀ (ls : Array Slot), o = 1 → lv_has ls 3 [] → W p l e rm_X8_spells_s3 s m args below meth c s.heap [] 0 0 Q (F0 m 63 ls [])) : ∀ (n : Nat) (x2 : Int32) (ls : Array Slot), va_P D vwCl (wd_k a_k a_k_bytes cI cB cT k_size k_place k_sort k_number k_behind k_bytes) s.heap → lv_has ls 3 [(0, .ref a_k), (1, .ref (adK 3)), (2, .int x2)] → lp (fun v => B_X8_spells_s3_28 k_place k_bytes v) n x2 = some o → W p l e rm_X8_spells_s3 s m args below meth c s.heap [] 0 0 Q (F0 m 28 ls []) := by
  intro n
  induction n with
  | zero =>
    intro x2 ls hP hl hf
    exact (lp_zero hf).elim
  | succ n ih =>
    intro x2 ls hP hl hf
    obtain ⟨z, hz, hf⟩ := lp_succ hf
    refine B_X8_spells_s3_28_W CF hG hE ?_ ?_ ?_ hP hl hz
    · intro v' ls ez hl
      rcases hf with ⟨v2, ev, hf⟩ | ev
      · cases Sum.inl.inj (ez.symm.trans ev)
        exact ih v' ls hP hl hf
      · exact (lp_lr (ez.symm.trans ev)).elim
    · intro o' ls ez et hl
      rcases hf with ⟨v2, ev, hf⟩ | ev
      · exact (lp_lr (ev.symm.trans ez)).elim
      · cases Sum.inr.inj (ez.symm.trans ev)
        exact hx0 ls et  hl
    · intro o' ls ez et hl
      rcases hf with ⟨v2, ev, hf⟩ | ev
      · exact (lp_lr (ev.symm.trans ez)).elim
      · cases Sum.inr.inj (ez.symm.trans ev)
        exact hx1 ls et  hl
set_option maxHeartbeats 4000000 in
set_option maxRecDepth 100000 in
theorem c_X8_spells_s3 (l : Launch) (D : va_G) (cI cB cT : ClassId) (adK adV : Nat → Nat) (a_k a_k_bytes : Nat) (k_size : Int32) (k_place : Int32) (k_sort : Int32) (k_number : Int32) (k_behind : Int32) (k_bytes : (Nat → Int32)) {z : Int32} (hf : f_X8_spells_s3 k_place k_sort k_behind k_bytes = some z) :
    Met l yX8_spells (Cond.code yX8_spells cX8_spells 3 (some .boolean) :: wsAll) rm_X8_spells_s3 (fun a U => Pro [.ref a_k, .ref (adK 3)] D cI cB cT (wd_k a_k a_k_bytes cI cB cT k_size k_place k_sort k_number k_behind k_bytes) a U ∧ SE adK adV (fun _ => False) U U.heap) (Qr (some (.int z))) 0 0 (fun _ => False) := by
  refine rx_intro RX8 (by decide +kernel) rfl (Nat.le_of_ble_eq_true rfl) ?_
  intro p e s m below meth c ls CF hr hlk hG hP hE hl
  have hl : lv_has ls 3 [(0, .ref a_k), (1, .ref (adK 3))] := hl
  obtain ⟨hx, hb, hml, hown, hts⟩ := id CF
  unfold f_X8_spells_s3 at hf
  refine lv_aload_n hx hb dX8_spells_0 rfl (lv_at hl 0 rfl) ?_
  refine va_get (D := D) (ci := 6) (v := .int k_sort) (C := RX8) (T := TX8) (N := 6) hx hb hts fin_X8 hown hG.1 hP 0 ce_k_0 vq_6 2 (by decide) (hts _ wm_235) (fun _ h9 => h9) rfl dX8_spells_1 ?_
  refine lv_iconst (v := (1 : Int32)) hx hb dX8_spells_4 (by decide) ?_
  refine lv_icmp_ne (tgt := 24) hx hb dX8_spells_5 (by decide) (fun c1 => ?_) (fun c1 => ?_)
  · have hf := fk c1 hf
    refine lv_iconst (v := (0 : Int32)) hx hb dX8_spells_24 (by decide) ?_
    obtain rfl := Option.some.inj hf
    exact ro_zret CF hr hlk (Or.inl rfl) dX8_spells_25
  · have hf := tk c1 hf
    refine lv_aload_n hx hb dX8_spells_8 rfl (lv_at hl 0 rfl) ?_
    refine va_get (D := D) (ci := 6) (v := .int k_behind) (C := RX8) (T := TX8) (N := 6) hx hb hts fin_X8 hown hG.1 hP 0 ce_k_0 vq_6 4 (by decide) (hts _ wm_238) (fun _ h9 => h9) rfl dX8_spells_9 ?_
    refine lv_aload_n hx hb dX8_spells_12 rfl (lv_at hl 0 rfl) ?_
    refine va_get (D := D) (ci := 6) (v := .int k_place) (C := RX8) (T := TX8) (N := 6) hx hb hts fin_X8 hown hG.1 hP 0 ce_k_0 vq_6 1 (by decide) (hts _ wm_232) (fun _ h9 => h9) rfl dX8_spells_13 ?_
    refine lv_isub hx hb dX8_spells_16 ?_
    refine lv_aload_n hx hb dX8_spells_17 rfl (lv_at hl 1 rfl) ?_
    refine rx_Ti (x := (Int32.ofNat (stL.getD 3 0))) (As := []) (rest := [.int (k_behind - k_place)]) CF (c_J0_length_8abf5 l D cI cB cT adK adV 3 (by decide)) SE.blind hE.atR ok_J0_length_8abf5 wm_434 ⟨rfl, rfl, Nat.le_of_ble_eq_true rfl, Nat.le_of_ble_eq_true rfl⟩ hG wd_E_P (vk_recv (i := 3) hE.1 (by decide) (va_S.rf (A := fun _ => False))) rfl hl.1 rfl (Nat.le_of_ble_eq_true rfl) ⟨Nat.zero_le _, Nat.zero_le _⟩ dX8_spells_18 ?_
    refine lv_icmp_eq (tgt := 26) hx hb dX8_spells_21 (by decide) (fun c2 => ?_) (fun c2 => ?_)
    · have hf := tk c2 hf
      refine lv_iconst (v := (0 : Int32)) hx hb dX8_spells_26 (by decide) ?_
      refine lv_istore_n (lv' := [(2, .int (0 : Int32)), (0, .ref a_k), (1, .ref (adK 3))]) hx hb dX8_spells_27 rfl hl (by decide) rfl (fun ls hl => ?_)
      obtain ⟨o7, e8, hf⟩ := lp_bind hf
      refine L_X8_spells_s3_28_W CF hG hE ?_ ?_ KN _ _ hP (lv_sub hl [1, 2, 0] rfl) e8
      · intro ls et hl
        have hf := tk et hf
        refine lv_iconst (v := (0 : Int32)) hx hb dX8_spells_55 (by decide) ?_
        obtain rfl := Option.some.inj hf
        exact ro_zret CF hr hlk (Or.inl rfl) dX8_spells_56
      · intro ls et hl
        have hf := fk (by rw [et]; decide) hf
        refine lv_iconst (v := (1 : Int32)) hx hb dX8_spells_63 (by decide) ?_
        obtain rfl := Option.some.inj hf
        exact ro_zret CF hr hlk (Or.inr rfl) dX8_spells_64
    · have hf := fk c2 hf
      refine lv_iconst (v := (0 : Int32)) hx hb dX8_spells_24 (by decide) ?_
      obtain rfl := Option.some.inj hf
      exact ro_zret CF hr hlk (Or.inl rfl) dX8_spells_25
end M_X8_spells_s3
section M_X4_readItem
variable {p : Program} {l : Launch} {e : Env} {s : State} {m : MethodId} {args : Array Value} {below : List Frame} {meth : Method} {c : Code} {Q : State → Prop} {A : Nat → Prop} {D : va_G} {cI cB cT : ClassId}
variable {adK adV : Nat → Nat}
variable {a_r a_d a_d_w a_d_w_codes a_d_w_masks a_d_w_alike a_d_w_havers a_d_g a_d_n a_d_n_cells a_d_m a_d_m_cells a_d_p a_d_p_cells a_k a_k_bytes : Nat}
def rm_X4_readItem : Room := { frames := 5, cells := 0, slots := 0, locals := 117 }
def f_X4_readItem (d_kind : Int32) (d_secret : Int32) (d_w_size : Int32) (d_w_codes : (Nat → Int32)) (d_w_masks : (Nat → Int32)) (d_w_alike : (Nat → Int32)) (d_w_havers : (Nat → Int32)) (d_g_left : Int32) (d_g_guessed : Int32) (d_g_wrong : Int32) (d_p_size : Int32) (k_size : Int32) (k_place : Int32) (k_sort : Int32) (k_number : Int32) (k_behind : Int32) (k_bytes : (Nat → Int32)) (p1 : Int32) : Option (Int32 × Int32 × Int32 × Int32 × (Nat → Int32) × (Nat → Int32) × (Nat → Int32) × (Nat → Int32) × Int32 × Int32 × Int32 × Int32 × Int32 × Int32 × Int32 × Int32) := ((f_X8_spells_s0 k_place k_sort k_behind k_bytes).bind fun o1 => (if o1 = 0 then (if p1 = 0 then ((f_X8_spells_s1 k_place k_sort k_behind k_bytes).bind fun o5 => (if o5 = 0 then ((f_X8_spells_s2 k_place k_sort k_behind k_bytes).bind fun o8 => (if o8 = 0 then ((f_X8_spells_s3 k_place k_sort k_behind k_bytes).bind fun o11 => (if o11 = 0 then some ((0 : Int32), d_kind, d_secret, d_w_size, d_w_codes, d_w_masks, d_w_alike, d_w_havers, d_g_left, d_g_guessed, d_g_wrong, d_p_size, k_place, k_sort, k_number, k_behind) else ((f_X4_readGuess d_kind d_secret d_w_size d_w_masks d_w_alike d_w_havers d_g_left d_g_guessed d_g_wrong k_size k_number k_behind k_bytes).bind fun o14 => (if o14.1 = 0 then some ((0 : Int32), d_kind, d_secret, d_w_size, d_w_codes, d_w_masks, d_w_alike, d_w_havers, o14.2.1, o14.2.2.1, o14.2.2.2.1, d_p_size, o14.2.2.2.2.1, o14.2.2.2.2.2.1, o14.2.2.2.2.2.2.1, o14.2.2.2.2.2.2.2) else some ((1 : Int32), d_kind, d_secret, d_w_size, d_w_codes, d_w_masks, d_w_alike, d_w_havers, o14.2.1, o14.2.2.1, o14.2.2.2.1, d_p_size, o14.2.2.2.2.1, o14.2.2.2.2.2.1, o14.2.2.2.2.2.2.1, o14.2.2.2.2.2.2.2))))) else ((f_X4_readSecret d_secret d_w_size k_size k_number k_behind k_bytes).bind fun o17 => (if (o17.1 = 0 ∨ o17.1 = 1) then some (o17.1, d_kind, o17.2.1, d_w_size, d_w_codes, d_w_masks, d_w_alike, d_w_havers, d_g_left, d_g_guessed, d_g_wrong, d_p_size, o17.2.2.1, o17.2.2.2.1, o17.2.2.2.2.1, o17.2.2.2.2.2) else none)))) else ((f_X4_readWord d_w_size d_w_codes d_w_masks d_w_alike d_w_havers d_g_left d_g_guessed d_g_wrong d_p_size k_size k_place k_sort k_number k_behind k_bytes).bind fun o20 => (if (o20.1 = 0 ∨ o20.1 = 1) then some (o20.1, d_kind, d_secret, o20.2.1, o20.2.2.1, o20.2.2.2.1, o20.2.2.2.2.1, o20.2.2.2.2.2.1, o20.2.2.2.2.2.2.1, o20.2.2.2.2.2.2.2.1, o20.2.2.2.2.2.2.2.2.1, o20.2.2.2.2.2.2.2.2.2.1, o20.2.2.2.2.2.2.2.2.2.2.1, o20.2.2.2.2.2.2.2.2.2.2.2.1, o20.2.2.2.2.2.2.2.2.2.2.2.2.1, o20.2.2.2.2.2.2.2.2.2.2.2.2.2) else none)))) else some ((0 : Int32), d_kind, d_secret, d_w_size, d_w_codes, d_w_masks, d_w_alike, d_w_havers, d_g_left, d_g_guessed, d_g_wrong, d_p_size, k_place, k_sort, k_number, k_behind)) else (if p1 = 0 then some ((0 : Int32), d_kind, d_secret, d_w_size, d_w_codes, d_w_masks, d_w_alike, d_w_havers, d_g_left, d_g_guessed, d_g_wrong, d_p_size, k_place, k_sort, k_number, k_behind) else ((f_X4_readKind d_kind k_size k_number k_behind k_bytes).bind fun o24 => (if o24.1 = 0 then some ((0 : Int32), o24.2.1, d_secret, d_w_size, d_w_codes, d_w_masks, d_w_alike, d_w_havers, d_g_left, d_g_guessed, d_g_wrong, d_p_size, o24.2.2.1, o24.2.2.2.1, o24.2.2.2.2.1, o24.2.2.2.2.2) else some ((1 : Int32), o24.2.1, d_secret, d_w_size, d_w_codes, d_w_masks, d_w_alike, d_w_havers, d_g_left, d_g_guessed, d_g_wrong, d_p_size, o24.2.2.1, o24.2.2.2.1, o24.2.2.2.2.1, o24.2.2.2.2.2))))))
set_option maxHeartbeats 4000000 in
set_option maxRecDepth 100000 in
theorem c_X4_readItem (l : Launch) (D : va_G) (cI cB cT : ClassId) (adK adV : Nat → Nat) (sz : Nat) (a_r a_d a_d_w a_d_w_codes a_d_w_masks a_d_w_alike a_d_w_havers a_d_g a_d_n a_d_n_cells a_d_m a_d_m_cells a_d_p a_d_p_cells a_k a_k_bytes : Nat) (d_kind : Int32) (d_secret : Int32) (d_w_size : Int32) (d_w_codes : (Nat → Int32)) (d_w_masks : (Nat → Int32)) (d_w_alike : (Nat → Int32)) (d_w_havers : (Nat → Int32)) (d_g_left : Int32) (d_g_guessed : Int32) (d_g_wrong : Int32) (d_n_size : Int32) (d_n_cells : (Nat → Int32)) (d_m_size : Int32) (d_m_cells : (Nat → Int32)) (d_p_size : Int32) (d_p_cells : (Nat → Int32)) (k_size : Int32) (k_place : Int32) (k_sort : Int32) (k_number : Int32) (k_behind : Int32) (k_bytes : (Nat → Int32)) (p1 : Int32) {z : Int32 × Int32 × Int32 × Int32 × (Nat → Int32) × (Nat → Int32) × (Nat → Int32) × (Nat → Int32) × Int32 × Int32 × Int32 × Int32 × Int32 × Int32 × Int32 × Int32} (hf : f_X4_readItem d_kind d_secret d_w_size d_w_codes d_w_masks d_w_alike d_w_havers d_g_left d_g_guessed d_g_wrong d_p_size k_size k_place k_sort k_number k_behind k_bytes p1 = some z) :
    Met l yX4_readItem (Cond.code yX4_readItem cX4_readItem 2 (some .boolean) :: wsAll) rm_X4_readItem (fun a U => Pwr [.ref a_r, .int p1] D cI cB cT (wd_r a_r a_d a_d_w a_d_w_codes a_d_w_masks a_d_w_alike a_d_w_havers a_d_g a_d_n a_d_n_cells a_d_m a_d_m_cells a_d_p a_d_p_cells a_k a_k_bytes cI cB cT d_kind d_secret d_w_size d_w_codes d_w_masks d_w_alike d_w_havers d_g_left d_g_guessed d_g_wrong d_n_size d_n_cells d_m_size d_m_cells d_p_size d_p_cells k_size k_place k_sort k_number k_behind k_bytes) sz a U ∧ SE adK adV (va_A (wd_r a_r a_d a_d_w a_d_w_codes a_d_w_masks a_d_w_alike a_d_w_havers a_d_g a_d_n a_d_n_cells a_d_m a_d_m_cells a_d_p a_d_p_cells a_k a_k_bytes cI cB cT d_kind d_secret d_w_size d_w_codes d_w_masks d_w_alike d_w_havers d_g_left d_g_guessed d_g_wrong d_n_size d_n_cells d_m_size d_m_cells d_p_size d_p_cells k_size k_place k_sort k_number k_behind k_bytes) sz) U U.heap) (Qw (some (.int z.1)) D (wd_r a_r a_d a_d_w a_d_w_codes a_d_w_masks a_d_w_alike a_d_w_havers a_d_g a_d_n a_d_n_cells a_d_m a_d_m_cells a_d_p a_d_p_cells a_k a_k_bytes cI cB cT z.2.1 z.2.2.1 z.2.2.2.1 z.2.2.2.2.1 z.2.2.2.2.2.1 z.2.2.2.2.2.2.1 z.2.2.2.2.2.2.2.1 z.2.2.2.2.2.2.2.2.1 z.2.2.2.2.2.2.2.2.2.1 z.2.2.2.2.2.2.2.2.2.2.1 d_n_size d_n_cells d_m_size d_m_cells z.2.2.2.2.2.2.2.2.2.2.2.1 d_p_cells k_size z.2.2.2.2.2.2.2.2.2.2.2.2.1 z.2.2.2.2.2.2.2.2.2.2.2.2.2.1 z.2.2.2.2.2.2.2.2.2.2.2.2.2.2.1 z.2.2.2.2.2.2.2.2.2.2.2.2.2.2.2 k_bytes) (va_A (wd_r a_r a_d a_d_w a_d_w_codes a_d_w_masks a_d_w_alike a_d_w_havers a_d_g a_d_n a_d_n_cells a_d_m a_d_m_cells a_d_p a_d_p_cells a_k a_k_bytes cI cB cT d_kind d_secret d_w_size d_w_codes d_w_masks d_w_alike d_w_havers d_g_left d_g_guessed d_g_wrong d_n_size d_n_cells d_m_size d_m_cells d_p_size d_p_cells k_size k_place k_sort k_number k_behind k_bytes) sz)) 0 0 (va_A (wd_r a_r a_d a_d_w a_d_w_codes a_d_w_masks a_d_w_alike a_d_w_havers a_d_g a_d_n a_d_n_cells a_d_m a_d_m_cells a_d_p a_d_p_cells a_k a_k_bytes cI cB cT d_kind d_secret d_w_size d_w_codes d_w_masks d_w_alike d_w_havers d_g_left d_g_guessed d_g_wrong d_n_size d_n_cells d_m_size d_m_cells d_p_size d_p_cells k_size k_place k_sort k_number k_behind k_bytes) sz) := by
  refine wx_intro (E := fun A U => SE adK adV A U U.heap) RX4 (by decide +kernel) rfl (Nat.le_of_ble_eq_true rfl) ?_
  intro p e s m below meth c ls A H locs CF hr hlk hG hP hD hS hA hE hl
  have hl : lv_has ls 2 [(0, .ref a_r), (1, .int p1)] := hl
  obtain ⟨hx, hb, hml, hown, hts⟩ := id CF
  unfold f_X4_readItem at hf
  refine lv_aload_n hx hb dX4_readItem_0 rfl (lv_at hl 0 rfl) ?_
  refine va_get (D := D) (ci := 2) (v := .ref a_k) (C := RX4) (T := TX4) (N := 2) hx hb hts fin_X4 hown hG.1 hP 0 ce_r_0 vq_2 0 (by decide) (hts _ wm_256) (fun _ h9 => h9) rfl dX4_readItem_1 ?_
  refine va_ldcS hx hb hown (hE.2.2.2 (43, "game", 0) (List.mem_of_getElem? (i := 0) rfl)) dX4_readItem_4 ?_
  obtain ⟨o1, e2, hf⟩ := lp_bind hf
  have hPc : va_P D vwCl (wd_k a_k a_k_bytes cI cB cT k_size k_place k_sort k_number k_behind k_bytes) H := su_13 hP
  refine rx_Vi (x := o1) (As := [.ref (adK 0)]) (rest := []) CF (c_X8_spells_s0 l D cI cB cT adK adV a_k a_k_bytes k_size k_place k_sort k_number k_behind k_bytes e2) SE.blind (hE.atF hS) ok_X8_spells wm_430 ⟨rfl, rfl, Nat.le_of_ble_eq_true rfl, Nat.le_of_ble_eq_true rfl⟩ hG hPc 0 6 vq_6 rfl ce_k_0 rfl hl.1 rfl (Nat.le_of_ble_eq_true rfl) ⟨Nat.zero_le _, Nat.zero_le _⟩ dX4_readItem_6 ?_
  refine lv_if_eq (tgt := 29) hx hb dX4_readItem_9 (by decide) (fun c3 => ?_) (fun c3 => ?_)
  · have hf := tk c3 hf
    refine lv_iload_n hx hb dX4_readItem_29 rfl (lv_at hl 1 rfl) ?_
    refine lv_if_eq (tgt := 35) hx hb dX4_readItem_30 (by decide) (fun c4 => ?_) (fun c4 => ?_)
    · have hf := tk c4 hf
      refine lv_aload_n hx hb dX4_readItem_35 rfl (lv_at hl 0 rfl) ?_
      refine va_get (D := D) (ci := 2) (v := .ref a_k) (C := RX4) (T := TX4) (N := 2) hx hb hts fin_X4 hown hG.1 hP 0 ce_r_0 vq_2 0 (by decide) (hts _ wm_256) (fun _ h9 => h9) rfl dX4_readItem_36 ?_
      refine va_ldcS hx hb hown (hE.2.2.2 (53, "word", 1) (List.mem_of_getElem? (i := 1) rfl)) dX4_readItem_39 ?_
      obtain ⟨o5, e6, hf⟩ := lp_bind hf
      have hPc : va_P D vwCl (wd_k a_k a_k_bytes cI cB cT k_size k_place k_sort k_number k_behind k_bytes) H := su_13 hP
      refine rx_Vi (x := o5) (As := [.ref (adK 1)]) (rest := []) CF (c_X8_spells_s1 l D cI cB cT adK adV a_k a_k_bytes k_size k_place k_sort k_number k_behind k_bytes e6) SE.blind (hE.atF hS) ok_X8_spells wm_430 ⟨rfl, rfl, Nat.le_of_ble_eq_true rfl, Nat.le_of_ble_eq_true rfl⟩ hG hPc 0 6 vq_6 rfl ce_k_0 rfl hl.1 rfl (Nat.le_of_ble_eq_true rfl) ⟨Nat.zero_le _, Nat.zero_le _⟩ dX4_readItem_41 ?_
      refine lv_if_eq (tgt := 52) hx hb dX4_readItem_44 (by decide) (fun c7 => ?_) (fun c7 => ?_)
      · have hf := tk c7 hf
        refine lv_aload_n hx hb dX4_readItem_52 rfl (lv_at hl 0 rfl) ?_
        refine va_get (D := D) (ci := 2) (v := .ref a_k) (C := RX4) (T := TX4) (N := 2) hx hb hts fin_X4 hown hG.1 hP 0 ce_r_0 vq_2 0 (by decide) (hts _ wm_256) (fun _ h9 => h9) rfl dX4_readItem_53 ?_
        refine va_ldcS hx hb hown (hE.2.2.2 (58, "secret", 2) (List.mem_of_getElem? (i := 2) rfl)) dX4_readItem_56 ?_
        obtain ⟨o8, e9, hf⟩ := lp_bind hf
        have hPc : va_P D vwCl (wd_k a_k a_k_bytes cI cB cT k_size k_place k_sort k_number k_behind k_bytes) H := su_13 hP
        refine rx_Vi (x := o8) (As := [.ref (adK 2)]) (rest := []) CF (c_X8_spells_s2 l D cI cB cT adK adV a_k a_k_bytes k_size k_place k_sort k_number k_behind k_bytes e9) SE.blind (hE.atF hS) ok_X8_spells wm_430 ⟨rfl, rfl, Nat.le_of_ble_eq_true rfl, Nat.le_of_ble_eq_true rfl⟩ hG hPc 0 6 vq_6 rfl ce_k_0 rfl hl.1 rfl (Nat.le_of_ble_eq_true rfl) ⟨Nat.zero_le _, Nat.zero_le _⟩ dX4_readItem_58 ?_
        refine lv_if_eq (tgt := 69) hx hb dX4_readItem_61 (by decide) (fun c10 => ?_) (fun c10 => ?_)
        · have hf := tk c10 hf
          refine lv_aload_n hx hb dX4_readItem_69 rfl (lv_at hl 0 rfl) ?_
          refine va_get (D := D) (ci := 2) (v := .ref a_k) (C := RX4) (T := TX4) (N := 2) hx hb hts fin_X4 hown hG.1 hP 0 ce_r_0 vq_2 0 (by decide) (hts _ wm_256) (fun _ h9 => h9) rfl dX4_readItem_70 ?_
          refine va_ldcS hx hb hown (hE.2.2.2 (63, "guess", 3) (List.mem_of_getElem? (i := 3) rfl)) dX4_readItem_73 ?_
          obtain ⟨o11, e12, hf⟩ := lp_bind hf
          have hPc : va_P D vwCl (wd_k a_k a_k_bytes cI cB cT k_size k_place k_sort k_number k_behind k_bytes) H := su_13 hP
          refine rx_Vi (x := o11) (As := [.ref (adK 3)]) (rest := []) CF (c_X8_spells_s3 l D cI cB cT adK adV a_k a_k_bytes k_size k_place k_sort k_number k_behind k_bytes e12) SE.blind (hE.atF hS) ok_X8_spells wm_430 ⟨rfl, rfl, Nat.le_of_ble_eq_true rfl, Nat.le_of_ble_eq_true rfl⟩ hG hPc 0 6 vq_6 rfl ce_k_0 rfl hl.1 rfl (Nat.le_of_ble_eq_true rfl) ⟨Nat.zero_le _, Nat.zero_le _⟩ dX4_readItem_75 ?_
          refine lv_if_eq (tgt := 92) hx hb dX4_readItem_78 (by decide) (fun c13 => ?_) (fun c13 => ?_)
          · have hf := tk c13 hf
            refine lv_iconst (v := (0 : Int32)) hx hb dX4_readItem_92 (by decide) ?_
            obtain rfl := Option.some.inj hf
            exact wr_zret CF hr hlk (Or.inl rfl) hP hS dX4_readItem_93
          · have hf := fk c13 hf
            refine lv_aload_n hx hb dX4_readItem_81 rfl (lv_at hl 0 rfl) ?_
            obtain ⟨o14, e15, hf⟩ := lp_bind hf
            refine wr_Wi (x := o14.1) (ws' := (wd_r a_r a_d a_d_w a_d_w_codes a_d_w_masks a_d_w_alike a_d_w_havers a_d_g a_d_n a_d_n_cells a_d_m a_d_m_cells a_d_p a_d_p_cells a_k a_k_bytes cI cB cT d_kind d_secret d_w_size d_w_codes d_w_masks d_w_alike d_w_havers o14.2.1 o14.2.2.1 o14.2.2.2.1 d_n_size d_n_cells d_m_size d_m_cells d_p_size d_p_cells k_size o14.2.2.2.2.1 o14.2.2.2.2.2.1 o14.2.2.2.2.2.2.1 o14.2.2.2.2.2.2.2 k_bytes)) (As := []) (rest := []) CF (c_X4_readGuess l D cI cB cT H.size a_r a_d a_d_w a_d_w_codes a_d_w_masks a_d_w_alike a_d_w_havers a_d_g a_d_n a_d_n_cells a_d_m a_d_m_cells a_d_p a_d_p_cells a_k a_k_bytes d_kind d_secret d_w_size d_w_codes d_w_masks d_w_alike d_w_havers d_g_left d_g_guessed d_g_wrong d_n_size d_n_cells d_m_size d_m_cells d_p_size d_p_cells k_size k_place k_sort k_number k_behind k_bytes e15) ok_X4_readGuess wm_507 ⟨rfl, rfl, Nat.le_of_ble_eq_true rfl, Nat.le_of_ble_eq_true rfl⟩ hG hP hD hS hA fs_r 0 2 vq_2 rfl ce_r_0 rfl hl.1 rfl (Nat.le_of_ble_eq_true rfl) ⟨Nat.zero_le _, Nat.zero_le _⟩ dX4_readItem_82 (fun H locs hP hD hS => ?_)
            refine lv_if_eq (tgt := 92) hx hb dX4_readItem_85 (by decide) (fun c16 => ?_) (fun c16 => ?_)
            · have hf := tk c16 hf
              refine lv_iconst (v := (0 : Int32)) hx hb dX4_readItem_92 (by decide) ?_
              obtain rfl := Option.some.inj hf
              exact wr_zret CF hr hlk (Or.inl rfl) hP hS dX4_readItem_93
            · have hf := fk c16 hf
              refine lv_iconst (v := (1 : Int32)) hx hb dX4_readItem_88 (by decide) ?_
              refine lv_goto (tgt := 93) hx hb dX4_readItem_89 (by decide) ?_
              obtain rfl := Option.some.inj hf
              exact wr_zret CF hr hlk (Or.inr rfl) hP hS dX4_readItem_93
        · have hf := fk c10 hf
          refine lv_aload_n hx hb dX4_readItem_64 rfl (lv_at hl 0 rfl) ?_
          obtain ⟨o17, e18, hf⟩ := lp_bind hf
          refine wr_Wi (x := o17.1) (ws' := (wd_r a_r a_d a_d_w a_d_w_codes a_d_w_masks a_d_w_alike a_d_w_havers a_d_g a_d_n a_d_n_cells a_d_m a_d_m_cells a_d_p a_d_p_cells a_k a_k_bytes cI cB cT d_kind o17.2.1 d_w_size d_w_codes d_w_masks d_w_alike d_w_havers d_g_left d_g_guessed d_g_wrong d_n_size d_n_cells d_m_size d_m_cells d_p_size d_p_cells k_size o17.2.2.1 o17.2.2.2.1 o17.2.2.2.2.1 o17.2.2.2.2.2 k_bytes)) (As := []) (rest := []) CF (c_X4_readSecret l D cI cB cT H.size a_r a_d a_d_w a_d_w_codes a_d_w_masks a_d_w_alike a_d_w_havers a_d_g a_d_n a_d_n_cells a_d_m a_d_m_cells a_d_p a_d_p_cells a_k a_k_bytes d_kind d_secret d_w_size d_w_codes d_w_masks d_w_alike d_w_havers d_g_left d_g_guessed d_g_wrong d_n_size d_n_cells d_m_size d_m_cells d_p_size d_p_cells k_size k_place k_sort k_number k_behind k_bytes e18) ok_X4_readSecret wm_502 ⟨rfl, rfl, Nat.le_of_ble_eq_true rfl, Nat.le_of_ble_eq_true rfl⟩ hG hP hD hS hA fs_r 0 2 vq_2 rfl ce_r_0 rfl hl.1 rfl (Nat.le_of_ble_eq_true rfl) ⟨Nat.zero_le _, Nat.zero_le _⟩ dX4_readItem_65 (fun H locs hP hD hS => ?_)
          obtain ⟨n19, hf⟩ := yk hf
          obtain rfl := Option.some.inj hf
          exact wr_zret CF hr hlk n19 hP hS dX4_readItem_68
      · have hf := fk c7 hf
        refine lv_aload_n hx hb dX4_readItem_47 rfl (lv_at hl 0 rfl) ?_
        obtain ⟨o20, e21, hf⟩ := lp_bind hf
        refine wr_Wi (x := o20.1) (ws' := (wd_r a_r a_d a_d_w a_d_w_codes a_d_w_masks a_d_w_alike a_d_w_havers a_d_g a_d_n a_d_n_cells a_d_m a_d_m_cells a_d_p a_d_p_cells a_k a_k_bytes cI cB cT d_kind d_secret o20.2.1 o20.2.2.1 o20.2.2.2.1 o20.2.2.2.2.1 o20.2.2.2.2.2.1 o20.2.2.2.2.2.2.1 o20.2.2.2.2.2.2.2.1 o20.2.2.2.2.2.2.2.2.1 d_n_size d_n_cells d_m_size d_m_cells o20.2.2.2.2.2.2.2.2.2.1 d_p_cells k_size o20.2.2.2.2.2.2.2.2.2.2.1 o20.2.2.2.2.2.2.2.2.2.2.2.1 o20.2.2.2.2.2.2.2.2.2.2.2.2.1 o20.2.2.2.2.2.2.2.2.2.2.2.2.2 k_bytes)) (As := []) (rest := []) CF (c_X4_readWord l D cI cB cT H.size a_r a_d a_d_w a_d_w_codes a_d_w_masks a_d_w_alike a_d_w_havers a_d_g a_d_n a_d_n_cells a_d_m a_d_m_cells a_d_p a_d_p_cells a_k a_k_bytes d_kind d_secret d_w_size d_w_codes d_w_masks d_w_alike d_w_havers d_g_left d_g_guessed d_g_wrong d_n_size d_n_cells d_m_size d_m_cells d_p_size d_p_cells k_size k_place k_sort k_number k_behind k_bytes e21) ok_X4_readWord wm_495 ⟨rfl, rfl, Nat.le_of_ble_eq_true rfl, Nat.le_of_ble_eq_true rfl⟩ hG hP hD hS hA fs_r 0 2 vq_2 rfl ce_r_0 rfl hl.1 rfl (Nat.le_of_ble_eq_true rfl) ⟨Nat.zero_le _, Nat.zero_le _⟩ dX4_readItem_48 (fun H locs hP hD hS => ?_)
        obtain ⟨n22, hf⟩ := yk hf
        obtain rfl := Option.some.inj hf
        exact wr_zret CF hr hlk n22 hP hS dX4_readItem_51
    · have hf := fk c4 hf
      refine lv_iconst (v := (0 : Int32)) hx hb dX4_readItem_33 (by decide) ?_
      obtain rfl := Option.some.inj hf
      exact wr_zret CF hr hlk (Or.inl rfl) hP hS dX4_readItem_34
  · have hf := fk c3 hf
    refine lv_iload_n hx hb dX4_readItem_12 rfl (lv_at hl 1 rfl) ?_
    refine lv_if_eq (tgt := 27) hx hb dX4_readItem_13 (by decide) (fun c23 => ?_) (fun c23 => ?_)
    · have hf := tk c23 hf
      refine lv_iconst (v := (0 : Int32)) hx hb dX4_readItem_27 (by decide) ?_
      obtain rfl := Option.some.inj hf
      exact wr_zret CF hr hlk (Or.inl rfl) hP hS dX4_readItem_28
    · have hf := fk c23 hf
      refine lv_aload_n hx hb dX4_readItem_16 rfl (lv_at hl 0 rfl) ?_
      obtain ⟨o24, e25, hf⟩ := lp_bind hf
      refine wr_Wi (x := o24.1) (ws' := (wd_r a_r a_d a_d_w a_d_w_codes a_d_w_masks a_d_w_alike a_d_w_havers a_d_g a_d_n a_d_n_cells a_d_m a_d_m_cells a_d_p a_d_p_cells a_k a_k_bytes cI cB cT o24.2.1 d_secret d_w_size d_w_codes d_w_masks d_w_alike d_w_havers d_g_left d_g_guessed d_g_wrong d_n_size d_n_cells d_m_size d_m_cells d_p_size d_p_cells k_size o24.2.2.1 o24.2.2.2.1 o24.2.2.2.2.1 o24.2.2.2.2.2 k_bytes)) (As := []) (rest := []) CF (c_X4_readKind l D cI cB cT H.size a_r a_d a_d_w a_d_w_codes a_d_w_masks a_d_w_alike a_d_w_havers a_d_g a_d_n a_d_n_cells a_d_m a_d_m_cells a_d_p a_d_p_cells a_k a_k_bytes d_kind d_secret d_w_size d_w_codes d_w_masks d_w_alike d_w_havers d_g_left d_g_guessed d_g_wrong d_n_size d_n_cells d_m_size d_m_cells d_p_size d_p_cells k_size k_place k_sort k_number k_behind k_bytes e25) ok_X4_readKind wm_482 ⟨rfl, rfl, Nat.le_of_ble_eq_true rfl, Nat.le_of_ble_eq_true rfl⟩ hG hP hD hS hA fs_r 0 2 vq_2 rfl ce_r_0 rfl hl.1 rfl (Nat.le_of_ble_eq_true rfl) ⟨Nat.zero_le _, Nat.zero_le _⟩ dX4_readItem_17 (fun H locs hP hD hS => ?_)
      refine lv_if_eq (tgt := 27) hx hb dX4_readItem_20 (by decide) (fun c26 => ?_) (fun c26 => ?_)
      · have hf := tk c26 hf
        refine lv_iconst (v := (0 : Int32)) hx hb dX4_readItem_27 (by decide) ?_
        obtain rfl := Option.some.inj hf
        exact wr_zret CF hr hlk (Or.inl rfl) hP hS dX4_readItem_28
      · have hf := fk c26 hf
        refine lv_iconst (v := (1 : Int32)) hx hb dX4_readItem_23 (by decide) ?_
        refine lv_goto (tgt := 28) hx hb dX4_readItem_24 (by decide) ?_
        obtain rfl := Option.some.inj hf
        exact wr_zret CF hr hlk (Or.inr rfl) hP hS dX4_readItem_28
end M_X4_readItem
section M_X4_readItems
variable {p : Program} {l : Launch} {e : Env} {s : State} {m : MethodId} {args : Array Value} {below : List Frame} {meth : Method} {c : Code} {Q : State → Prop} {A : Nat → Prop} {D : va_G} {cI cB cT : ClassId}
variable {adK adV : Nat → Nat}
variable {a_r a_d a_d_w a_d_w_codes a_d_w_masks a_d_w_alike a_d_w_havers a_d_g a_d_n a_d_n_cells a_d_m a_d_m_cells a_d_p a_d_p_cells a_k a_k_bytes : Nat}
def rm_X4_readItems : Room := { frames := 6, cells := 0, slots := 0, locals := 138 }
def B_X4_readItems_24 (k_size : Int32) (k_bytes : (Nat → Int32)) (x1 : Int32) (d_kind : Int32) (d_secret : Int32) (d_w_size : Int32) (d_w_codes : (Nat → Int32)) (d_w_masks : (Nat → Int32)) (d_w_alike : (Nat → Int32)) (d_w_havers : (Nat → Int32)) (d_g_left : Int32) (d_g_guessed : Int32) (d_g_wrong : Int32) (d_p_size : Int32) (k_place : Int32) (k_sort : Int32) (k_number : Int32) (k_behind : Int32) : Option ((Int32 × Int32 × Int32 × Int32 × (Nat → Int32) × (Nat → Int32) × (Nat → Int32) × (Nat → Int32) × Int32 × Int32 × Int32 × Int32 × Int32 × Int32 × Int32 × Int32) ⊕ (Nat × Int32 × Int32 × Int32 × Int32 × (Nat → Int32) × (Nat → Int32) × (Nat → Int32) × (Nat → Int32) × Int32 × Int32 × Int32 × Int32 × Int32 × Int32 × Int32 × Int32)) := (if (150 : Int32) ≤ x1 then some (Sum.inr (1, x1, d_kind, d_secret, d_w_size, d_w_codes, d_w_masks, d_w_alike, d_w_havers, d_g_left, d_g_guessed, d_g_wrong, d_p_size, k_place, k_sort, k_number, k_behind)) else (if k_sort = 0 then some (Sum.inr (1, x1, d_kind, d_secret, d_w_size, d_w_codes, d_w_masks, d_w_alike, d_w_havers, d_g_left, d_g_guessed, d_g_wrong, d_p_size, k_place, k_sort, k_number, k_behind)) else (if x1 = 0 then ((f_X4_readItem d_kind d_secret d_w_size d_w_codes d_w_masks d_w_alike d_w_havers d_g_left d_g_guessed d_g_wrong d_p_size k_size k_place k_sort k_number k_behind k_bytes (1 : Int32)).bind fun o15 => (if o15.1 = 0 then some (Sum.inr (0, x1, o15.2.1, o15.2.2.1, o15.2.2.2.1, o15.2.2.2.2.1, o15.2.2.2.2.2.1, o15.2.2.2.2.2.2.1, o15.2.2.2.2.2.2.2.1, o15.2.2.2.2.2.2.2.2.1, o15.2.2.2.2.2.2.2.2.2.1, o15.2.2.2.2.2.2.2.2.2.2.1, o15.2.2.2.2.2.2.2.2.2.2.2.1, o15.2.2.2.2.2.2.2.2.2.2.2.2.1, o15.2.2.2.2.2.2.2.2.2.2.2.2.2.1, o15.2.2.2.2.2.2.2.2.2.2.2.2.2.2.1, o15.2.2.2.2.2.2.2.2.2.2.2.2.2.2.2)) else ((f_X8_step k_size o15.2.2.2.2.2.2.2.2.2.2.2.2.2.2.1 o15.2.2.2.2.2.2.2.2.2.2.2.2.2.2.2 k_bytes).bind fun o18 => some (Sum.inl ((x1 + (1 : Int32)), o15.2.1, o15.2.2.1, o15.2.2.2.1, o15.2.2.2.2.1, o15.2.2.2.2.2.1, o15.2.2.2.2.2.2.1, o15.2.2.2.2.2.2.2.1, o15.2.2.2.2.2.2.2.2.1, o15.2.2.2.2.2.2.2.2.2.1, o15.2.2.2.2.2.2.2.2.2.2.1, o15.2.2.2.2.2.2.2.2.2.2.2.1, o18.1, o18.2.1, o18.2.2.1, o18.2.2.2))))) else ((f_X4_readItem d_kind d_secret d_w_size d_w_codes d_w_masks d_w_alike d_w_havers d_g_left d_g_guessed d_g_wrong d_p_size k_size k_place k_sort k_number k_behind k_bytes (0 : Int32)).bind fun o10 => (if o10.1 = 0 then some (Sum.inr (0, x1, o10.2.1, o10.2.2.1, o10.2.2.2.1, o10.2.2.2.2.1, o10.2.2.2.2.2.1, o10.2.2.2.2.2.2.1, o10.2.2.2.2.2.2.2.1, o10.2.2.2.2.2.2.2.2.1, o10.2.2.2.2.2.2.2.2.2.1, o10.2.2.2.2.2.2.2.2.2.2.1, o10.2.2.2.2.2.2.2.2.2.2.2.1, o10.2.2.2.2.2.2.2.2.2.2.2.2.1, o10.2.2.2.2.2.2.2.2.2.2.2.2.2.1, o10.2.2.2.2.2.2.2.2.2.2.2.2.2.2.1, o10.2.2.2.2.2.2.2.2.2.2.2.2.2.2.2)) else ((f_X8_step k_size o10.2.2.2.2.2.2.2.2.2.2.2.2.2.2.1 o10.2.2.2.2.2.2.2.2.2.2.2.2.2.2.2 k_bytes).bind fun o13 => some (Sum.inl ((x1 + (1 : Int32)), o10.2.1, o10.2.2.1, o10.2.2.2.1, o10.2.2.2.2.1, o10.2.2.2.2.2.1, o10.2.2.2.2.2.2.1, o10.2.2.2.2.2.2.2.1, o10.2.2.2.2.2.2.2.2.1, o10.2.2.2.2.2.2.2.2.2.1, o10.2.2.2.2.2.2.2.2.2.2.1, o10.2.2.2.2.2.2.2.2.2.2.2.1, o13.1, o13.2.1, o13.2.2.1, o13.2.2.2))))))))
def f_X4_readItems (d_w_codes : (Nat → Int32)) (d_w_masks : (Nat → Int32)) (d_w_alike : (Nat → Int32)) (d_w_havers : (Nat → Int32)) (k_size : Int32) (k_number : Int32) (k_bytes : (Nat → Int32)) : Option (Int32 × Int32 × Int32 × Int32 × (Nat → Int32) × (Nat → Int32) × (Nat → Int32) × (Nat → Int32) × Int32 × Int32 × Int32 × Int32 × Int32 × Int32 × Int32 × Int32 × Int32 × Int32) := ((f_X8_rewind).bind fun o1 => ((f_X7_reset d_w_havers (0 : Int32)).bind fun o3 => ((f_X8_step k_size k_number o1 k_bytes).bind fun o5 => ((lp (fun v => B_X4_readItems_24 k_size k_bytes v.1 v.2.1 v.2.2.1 v.2.2.2.1 v.2.2.2.2.1 v.2.2.2.2.2.1 v.2.2.2.2.2.2.1 v.2.2.2.2.2.2.2.1 v.2.2.2.2.2.2.2.2.1 v.2.2.2.2.2.2.2.2.2.1 v.2.2.2.2.2.2.2.2.2.2.1 v.2.2.2.2.2.2.2.2.2.2.2.1 v.2.2.2.2.2.2.2.2.2.2.2.2.1 v.2.2.2.2.2.2.2.2.2.2.2.2.2.1 v.2.2.2.2.2.2.2.2.2.2.2.2.2.2.1 v.2.2.2.2.2.2.2.2.2.2.2.2.2.2.2) KN ((0 : Int32), o3.1, o3.2.1, o3.2.2.1, d_w_codes, d_w_masks, d_w_alike, o3.2.2.2.1, o3.2.2.2.2.1, o3.2.2.2.2.2.1, o3.2.2.2.2.2.2.1, o3.2.2.2.2.2.2.2.2.2, o5.1, o5.2.1, o5.2.2.1, o5.2.2.2)).bind fun o20 => (if o20.1 = 0 then some ((0 : Int32), o20.2.2.1, o20.2.2.2.1, o20.2.2.2.2.1, o20.2.2.2.2.2.1, o20.2.2.2.2.2.2.1, o20.2.2.2.2.2.2.2.1, o20.2.2.2.2.2.2.2.2.1, o20.2.2.2.2.2.2.2.2.2.1, o20.2.2.2.2.2.2.2.2.2.2.1, o20.2.2.2.2.2.2.2.2.2.2.2.1, o3.2.2.2.2.2.2.2.1, o3.2.2.2.2.2.2.2.2.1, o20.2.2.2.2.2.2.2.2.2.2.2.2.1, o20.2.2.2.2.2.2.2.2.2.2.2.2.2.1, o20.2.2.2.2.2.2.2.2.2.2.2.2.2.2.1, o20.2.2.2.2.2.2.2.2.2.2.2.2.2.2.2.1, o20.2.2.2.2.2.2.2.2.2.2.2.2.2.2.2.2) else some (o20.2.1, o20.2.2.1, o20.2.2.2.1, o20.2.2.2.2.1, o20.2.2.2.2.2.1, o20.2.2.2.2.2.2.1, o20.2.2.2.2.2.2.2.1, o20.2.2.2.2.2.2.2.2.1, o20.2.2.2.2.2.2.2.2.2.1, o20.2.2.2.2.2.2.2.2.2.2.1, o20.2.2.2.2.2.2.2.2.2.2.2.1, o3.2.2.2.2.2.2.2.1, o3.2.2.2.2.2.2.2.2.1, o20.2.2.2.2.2.2.2.2.2.2.2.2.1, o20.2.2.2.2.2.2.2.2.2.2.2.2.2.1, o20.2.2.2.2.2.2.2.2.2.2.2.2.2.2.1, o20.2.2.2.2.2.2.2.2.2.2.2.2.2.2.2.1, o20.2.2.2.2.2.2.2.2.2.2.2.2.2.2.2.2))))))
set_option maxHeartbeats 4000000 in
set_option maxRecDepth 100000 in
theorem B_X4_readItems_24_W {d_kind : Int32} {d_secret : Int32} {d_w_size : Int32} {d_w_codes : (Nat → Int32)} {d_w_masks : (Nat → Int32)} {d_w_alike : (Nat → Int32)} {d_w_havers : (Nat → Int32)} {d_g_left : Int32} {d_g_guessed : Int32} {d_g_wrong : Int32} {d_n_size : Int32} {d_n_cells : (Nat → Int32)} {d_m_size : Int32} {d_m_cells : (Nat → Int32)} {d_p_size : Int32} {d_p_cells : (Nat → Int32)} {k_size : Int32} {k_place : Int32} {k_sort : Int32} {k_number : Int32} {k_behind : Int32} {k_bytes : (Nat → Int32)} {x1 : Int32} (CF : CallFix p m c cX4_readItems 2 s args wsAll RX4) (hG : Gd D cI cB cT s) (hA : ∀ q : Nat, s.heap.size ≤ q → A q) (hE : SE adK adV A s s.heap) {z : (Int32 × Int32 × Int32 × Int32 × (Nat → Int32) × (Nat → Int32) × (Nat → Int32) × (Nat → Int32) × Int32 × Int32 × Int32 × Int32 × Int32 × Int32 × Int32 × Int32) ⊕ (Nat × Int32 × Int32 × Int32 × Int32 × (Nat → Int32) × (Nat → Int32) × (Nat → Int32) × (Nat → Int32) × Int32 × Int32 × Int32 × Int32 × Int32 × Int32 × Int32 × Int32)} {H : Heap} {locs : List Loc} (hk : ∀ (v' : Int32 × Int32 × Int32 × Int32 × (Nat → Int32) × (Nat → Int32) × (Nat → Int32) × (Nat → Int32) × Int32 × Int32 × Int32 × Int32 × Int32 × Int32 × Int32 × Int32) (H : Heap) (locs : List Loc) (ls : Array Slot), z = Sum.inl v' → va_P D vwCl (wd_r a_r a_d a_d_w a_d_w_codes a_d_w_masks a_d_w_alike a_d_w_havers a_d_g a_d_n a_d_n_cells a_d_m a_d_m_cells a_d_p a_d_p_cells a_k a_k_bytes cI cB cT (v'.2.1) (v'.2.2.1) (v'.2.2.2.1) (v'.2.2.2.2.1) (v'.2.2.2.2.2.1) (v'.2.2.2.2.2.2.1) (v'.2.2.2.2.2.2.2.1) (v'.2.2.2.2.2.2.2.2.1) (v'.2.2.2.2.2.2.2.2.2.1) (v'.2.2.2.2.2.2.2.2.2.2.1) d_n_size d_n_cells d_m_size d_m_cells (v'.2.2.2.2.2.2.2.2.2.2.2.1) d_p_cells k_size (v'.2.2.2.2.2.2.2.2.2.2.2.2.1) (v'.2.2.2.2.2.2.2.2.2.2.2.2.2.1) (v'.2.2.2.2.2.2.2.2.2.2.2.2.2.2.1) (v'.2.2.2.2.2.2.2.2.2.2.2.2.2.2.2) k_bytes) H → va_D A (wd_r a_r a_d a_d_w a_d_w_codes a_d_w_masks a_d_w_alike a_d_w_havers a_d_g a_d_n a_d_n_cells a_d_m a_d_m_cells a_d_p a_d_p_cells a_k a_k_bytes cI cB cT (v'.2.1) (v'.2.2.1) (v'.2.2.2.1) (v'.2.2.2.2.1) (v'.2.2.2.2.2.1) (v'.2.2.2.2.2.2.1) (v'.2.2.2.2.2.2.2.1) (v'.2.2.2.2.2.2.2.2.1) (v'.2.2.2.2.2.2.2.2.2.1) (v'.2.2.2.2.2.2.2.2.2.2.1) d_n_size d_n_cells d_m_size d_m_cells (v'.2.2.2.2.2.2.2.2.2.2.2.1) d_p_cells k_size (v'.2.2.2.2.2.2.2.2.2.2.2.2.1) (v'.2.2.2.2.2.2.2.2.2.2.2.2.2.1) (v'.2.2.2.2.2.2.2.2.2.2.2.2.2.2.1) (v'.2.2.2.2.2.2.2.2.2.2.2.2.2.2.2) k_bytes) → va_S A s.heap H locs → lv_has ls 2 [(0, .ref a_r), (1, .int (v'.1))] → W p l e rm_X4_readItems s m args below meth c H locs 0 0 Q (F0 m 24 ls [])) (hx0 : ∀ (o' : Nat × Int32 × Int32 × Int32 × Int32 × (Nat → Int32) × (Nat → Int32) × (Nat → Int32) × (Nat → Int32) × Int32 × Int32 × Int32 × Int32 × Int32 × Int32 × Int32 × Int32) (H : Heap) (locs : List Loc) (ls : Array Slot), z = Sum.inr o' → o'.1 = 0 → va_P D vwCl (wd_r a_r a_d a_d_w a_d_w_codes a_d_w_masks a_d_w_alike a_d_w_havers a_d_g a_d_n a_d_n_cells a_d_m a_d_m_cells a_d_p a_d_p_cells a_k a_k_bytes cI cB cT (o'.2.2.1) (o'.2.2.2.1) (o'.2.2.2.2.1) (o'.2.2.2.2.2.1) (o'.2.2.2.2.2.2.1) (o'.2.2.2.2.2.2.2.1) (o'.2.2.2.2.2.2.2.2.1) (o'.2.2.2.2.2.2.2.2.2.1) (o'.2.2.2.2.2.2.2.2.2.2.1) (o'.2.2.2.2.2.2.2.2.2.2.2.1) d_n_size d_n_cells d_m_size d_m_cells (o'.2.2.2.2.2.2.2.2.2.2.2.2.1) d_p_cells k_size (o'.2.2.2.2.2.2.2.2.2.2.2.2.2.1) (o'.2.2.2.2.2.2.2.2.2.2.2.2.2.2.1) (o'.2.2.2.2.2.2.2.2.2.2.2.2.2.2.2.1) (o'.2.2.2.2.2.2.2.2.2.2.2.2.2.2.2.2) k_bytes) H → va_D A (wd_r a_r a_d a_d_w a_d_w_codes a_d_w_masks a_d_w_alike a_d_w_havers a_d_g a_d_n a_d_n_cells a_d_m a_d_m_cells a_d_p a_d_p_cells a_k a_k_bytes cI cB cT (o'.2.2.1) (o'.2.2.2.1) (o'.2.2.2.2.1) (o'.2.2.2.2.2.1) (o'.2.2.2.2.2.2.1) (o'.2.2.2.2.2.2.2.1) (o'.2.2.2.2.2.2.2.2.1) (o'.2.2.2.2.2.2.2.2.2.1) (o'.2.2.2.2.2.2.2.2.2.2.1) (o'.2.2.2.2.2.2.2.2.2.2.2.1) d_n_size d_n_cells d_m_size d_m_cells (o'.2.2.2.2.2.2.2.2.2.2.2.2.1) d_p_cells k_size (o'.2.2.2.2.2.2.2.2.2.2.2.2.2.1) (o'.2.2.2.2.2.2.2.2.2.2.2.2.2.2.1) (o'.2.2.2.2.2.2.2.2.2.2.2.2.2.2.2.1) (o'.2.2.2.2.2.2.2.2.2.2.2.2.2.2.2.2) k_bytes) → va_S A s.heap H locs → lv_has ls 2 [] → W p l e rm_X4_readItems s m args below meth c H locs 0 0 Q (F0 m 57 ls [])) (hx1 : ∀ (o' : Nat × Int32 × Int32 × Int32 × Int32 × (Nat → Int32) × (Nat → Int32) × (Nat → Int32) × (Nat → Int32) × Int32 × Int32 × Int32 × Int32 × Int32 × Int32 × Int32 × Int32) (H : Heap) (locs : List Loc) (ls : Array Slot), z = Sum.inr o' → o'.1 = 1 → va_P D vwCl (wd_r a_r a_d a_d_w a_d_w_codes a_d_w_masks a_d_w_alike a_d_w_havers a_d_g a_d_n a_d_n_cells a_d_m a_d_m_cells a_d_p a_d_p_cells a_k a_k_bytes cI cB cT (o'.2.2.1) (o'.2.2.2.1) (o'.2.2.2.2.1) (o'.2.2.2.2.2.1) (o'.2.2.2.2.2.2.1) (o'.2.2.2.2.2.2.2.1) (o'.2.2.2.2.2.2.2.2.1) (o'.2.2.2.2.2.2.2.2.2.1) (o'.2.2.2.2.2.2.2.2.2.2.1) (o'.2.2.2.2.2.2.2.2.2.2.2.1) d_n_size d_n_cells d_m_size d_m_cells (o'.2.2.2.2.2.2.2.2.2.2.2.2.1) d_p_cells k_size (o'.2.2.2.2.2.2.2.2.2.2.2.2.2.1) (o'.2.2.2.2.2.2.2.2.2.2.2.2.2.2.1) (o'.2.2.2.2.2.2.2.2.2.2.2.2.2.2.2.1) (o'.2.2.2.2.2.2.2.2.2.2.2.2.2.2.2.2) k_bytes) H → va_D A (wd_r a_r a_d a_d_w a_d_w_codes a_d_w_masks a_d_w_alike a_d_w_havers a_d_g a_d_n a_d_n_cells a_d_m a_d_m_cells a_d_p a_d_p_cells a_k a_k_bytes cI cB cT (o'.2.2.1) (o'.2.2.2.1) (o'.2.2.2.2.1) (o'.2.2.2.2.2.1) (o'.2.2.2.2.2.2.1) (o'.2.2.2.2.2.2.2.1) (o'.2.2.2.2.2.2.2.2.1) (o'.2.2.2.2.2.2.2.2.2.1) (o'.2.2.2.2.2.2.2.2.2.2.1) (o'.2.2.2.2.2.2.2.2.2.2.2.1) d_n_size d_n_cells d_m_size d_m_cells (o'.2.2.2.2.2.2.2.2.2.2.2.2.1) d_p_cells k_size (o'.2.2.2.2.2.2.2.2.2.2.2.2.2.1) (o'.2.2.2.2.2.2.2.2.2.2.2.2.2.2.1) (o'.2.2.2.2.2.2.2.2.2.2.2.2.2.2.2.1) (o'.2.2.2.2.2.2.2.2.2.2.2.2.2.2.2.2) k_bytes) → va_S A s.heap H locs → lv_has ls 2 [(1, .int (o'.2.1))] → W p l e rm_X4_readItems s m args below meth c H locs 0 0 Q (F0 m 72 ls [])) {ls : Array Slot} (hP : va_P D vwCl (wd_r a_r a_d a_d_w a_d_w_codes a_d_w_masks a_d_w_alike a_d_w_havers a_d_g a_d_n a_d_n_cells a_d_m a_d_m_cells a_d_p a_d_p_cells a_k a_k_bytes cI cB cT d_kind d_secret d_w_size d_w_codes d_w_masks d_w_alike d_w_havers d_g_left d_g_guessed d_g_wrong d_n_size d_n_cells d_m_size d_m_cells d_p_size d_p_cells k_size k_place k_sort k_number k_behind k_bytes) H) (hD : va_D A (wd_r a_r a_d a_d_w a_d_w_codes a_d_w_masks a_d_w_alike a_d_w_havers a_d_g a_d_n a_d_n_cells a_d_m a_d_m_cells a_d_p a_d_p_cells a_k a_k_bytes cI cB cT d_kind d_secret d_w_size d_w_codes d_w_masks d_w_alike d_w_havers d_g_left d_g_guessed d_g_wrong d_n_size d_n_cells d_m_size d_m_cells d_p_size d_p_cells k_size k_place k_sort k_number k_behind k_bytes)) (hS : va_S A s.heap H locs) (hl : lv_has ls 2 [(0, .ref a_r), (1, .int x1)]) (hf : B_X4_readItems_24 k_size k_bytes x1 d_kind d_secret d_w_size d_w_codes d_w_masks d_w_alike d_w_havers d_g_left d_g_guessed d_g_wrong d_p_size k_place k_sort k_number k_behind = some z) : W p l e rm_X4_readItems s m args below meth c H locs 0 0 Q (F0 m 24 ls []) := by
  obtain ⟨hx, hb, hml, hown, hts⟩ := id CF
  unfold B_X4_readItems_24 at hf
  refine lv_iload_n hx hb dX4_readItems_24 rfl (lv_at hl 1 rfl) ?_
  refine lv_sipush (v := (150 : Int32)) hx hb dX4_readItems_25 (by decide) ?_
  refine lv_icmp_ge (tgt := 72) hx hb dX4_readItems_28 (by decide) (fun c7 => ?_) (fun c7 => ?_)
  · have hf := tk c7 hf
    exact hx1 _ _ _ _ (Option.some.inj hf).symm rfl hP hD hS (lv_sub hl [1] rfl)
  · have hf := fk c7 hf
    refine lv_aload_n hx hb dX4_readItems_31 rfl (lv_at hl 0 rfl) ?_
    refine va_get (D := D) (ci := 2) (v := .ref a_k) (C := RX4) (T := TX4) (N := 2) hx hb hts fin_X4 hown hG.1 hP 0 ce_r_0 vq_2 0 (by decide) (hts _ wm_256) (fun _ h9 => h9) rfl dX4_readItems_32 ?_
    refine va_get (D := D) (ci := 6) (v := .int k_sort) (C := RX8) (T := TX8) (N := 6) hx hb hts fin_X8 hown hG.1 hP 14 ce_r_14 vq_6 2 (by decide) (hts _ wm_234) (fun _ h9 => h9) rfl dX4_readItems_35 ?_
    refine lv_if_eq (tgt := 72) hx hb dX4_readItems_38 (by decide) (fun c8 => ?_) (fun c8 => ?_)
    · have hf := tk c8 hf
      exact hx1 _ _ _ _ (Option.some.inj hf).symm rfl hP hD hS (lv_sub hl [1] rfl)
    · have hf := fk c8 hf
      refine lv_aload_n hx hb dX4_readItems_41 rfl (lv_at hl 0 rfl) ?_
      refine lv_iload_n hx hb dX4_readItems_42 rfl (lv_at hl 1 rfl) ?_
      refine lv_if_ne (tgt := 50) hx hb dX4_readItems_43 (by decide) (fun c9 => ?_) (fun c9 => ?_)
      · have hf := fk c9 hf
        refine lv_iconst (v := (0 : Int32)) hx hb dX4_readItems_50 (by decide) ?_
        obtain ⟨o10, e11, hf⟩ := lp_bind hf
        refine wx_Wi (x := o10.1) (ws' := (wd_r a_r a_d a_d_w a_d_w_codes a_d_w_masks a_d_w_alike a_d_w_havers a_d_g a_d_n a_d_n_cells a_d_m a_d_m_cells a_d_p a_d_p_cells a_k a_k_bytes cI cB cT o10.2.1 o10.2.2.1 o10.2.2.2.1 o10.2.2.2.2.1 o10.2.2.2.2.2.1 o10.2.2.2.2.2.2.1 o10.2.2.2.2.2.2.2.1 o10.2.2.2.2.2.2.2.2.1 o10.2.2.2.2.2.2.2.2.2.1 o10.2.2.2.2.2.2.2.2.2.2.1 d_n_size d_n_cells d_m_size d_m_cells o10.2.2.2.2.2.2.2.2.2.2.2.1 d_p_cells k_size o10.2.2.2.2.2.2.2.2.2.2.2.2.1 o10.2.2.2.2.2.2.2.2.2.2.2.2.2.1 o10.2.2.2.2.2.2.2.2.2.2.2.2.2.2.1 o10.2.2.2.2.2.2.2.2.2.2.2.2.2.2.2 k_bytes)) (As := [.int (0 : Int32)]) (rest := []) CF (c_X4_readItem l D cI cB cT adK adV H.size a_r a_d a_d_w a_d_w_codes a_d_w_masks a_d_w_alike a_d_w_havers a_d_g a_d_n a_d_n_cells a_d_m a_d_m_cells a_d_p a_d_p_cells a_k a_k_bytes d_kind d_secret d_w_size d_w_codes d_w_masks d_w_alike d_w_havers d_g_left d_g_guessed d_g_wrong d_n_size d_n_cells d_m_size d_m_cells d_p_size d_p_cells k_size k_place k_sort k_number k_behind k_bytes (0 : Int32) e11) SE.blind (hE.atW hS (self_free hD hS hA)) ok_X4_readItem wm_425 ⟨rfl, rfl, Nat.le_of_ble_eq_true rfl, Nat.le_of_ble_eq_true rfl⟩ hG hP hD hS hA fs_r 0 2 vq_2 rfl ce_r_0 rfl hl.1 rfl (Nat.le_of_ble_eq_true rfl) ⟨Nat.zero_le _, Nat.zero_le _⟩ dX4_readItems_51 (fun H locs hP hD hS => ?_)
        refine lv_if_ne (tgt := 59) hx hb dX4_readItems_54 (by decide) (fun c12 => ?_) (fun c12 => ?_)
        · have hf := fk c12 hf
          refine lv_iinc (v := (x1 + (1 : Int32))) (lv' := [(1, .int (x1 + (1 : Int32))), (0, .ref a_r)]) hx hb dX4_readItems_59 hl (k := 1) rfl (iinc_eq (by decide)) (by decide) rfl (fun ls hl => ?_)
          refine lv_aload_n hx hb dX4_readItems_62 rfl (lv_at hl 1 rfl) ?_
          refine va_get (D := D) (ci := 2) (v := .ref a_k) (C := RX4) (T := TX4) (N := 2) hx hb hts fin_X4 hown hG.1 hP 0 ce_r_0 vq_2 0 (by decide) (hts _ wm_256) (fun _ h9 => h9) rfl dX4_readItems_63 ?_
          obtain ⟨o13, e14, hf⟩ := lp_bind hf
          have hPc : va_P D vwCl (wd_k a_k a_k_bytes cI cB cT k_size o10.2.2.2.2.2.2.2.2.2.2.2.2.1 o10.2.2.2.2.2.2.2.2.2.2.2.2.2.1 o10.2.2.2.2.2.2.2.2.2.2.2.2.2.2.1 o10.2.2.2.2.2.2.2.2.2.2.2.2.2.2.2 k_bytes) H := su_13 hP
          refine wr_Vv (ws' := (wd_r a_r a_d a_d_w a_d_w_codes a_d_w_masks a_d_w_alike a_d_w_havers a_d_g a_d_n a_d_n_cells a_d_m a_d_m_cells a_d_p a_d_p_cells a_k a_k_bytes cI cB cT o10.2.1 o10.2.2.1 o10.2.2.2.1 o10.2.2.2.2.1 o10.2.2.2.2.2.1 o10.2.2.2.2.2.2.1 o10.2.2.2.2.2.2.2.1 o10.2.2.2.2.2.2.2.2.1 o10.2.2.2.2.2.2.2.2.2.1 o10.2.2.2.2.2.2.2.2.2.2.1 d_n_size d_n_cells d_m_size d_m_cells o10.2.2.2.2.2.2.2.2.2.2.2.1 d_p_cells k_size o13.1 o13.2.1 o13.2.2.1 o13.2.2.2 k_bytes)) (As := []) (rest := []) CF (c_X8_step l D cI cB cT H.size a_k a_k_bytes k_size o10.2.2.2.2.2.2.2.2.2.2.2.2.1 o10.2.2.2.2.2.2.2.2.2.2.2.2.2.1 o10.2.2.2.2.2.2.2.2.2.2.2.2.2.2.1 o10.2.2.2.2.2.2.2.2.2.2.2.2.2.2.2 k_bytes e14) ok_X8_step wm_413 ⟨rfl, rfl, Nat.le_of_ble_eq_true rfl, Nat.le_of_ble_eq_true rfl⟩ hG hP hD hS hA [14, 15] hPc rfl hc_13 rfl pb_13 fs_r 0 6 vq_6 rfl ce_k_0 rfl hl.1 rfl (Nat.le_of_ble_eq_true rfl) ⟨Nat.zero_le _, Nat.zero_le _⟩ dX4_readItems_66 (fun H locs hP hD hS => ?_)
          refine lv_goto (tgt := 24) hx hb dX4_readItems_69 (by decide) ?_
          exact hk _ _ _ _ (Option.some.inj hf).symm hP hD hS (lv_sub hl [1, 0] rfl)
        · have hf := tk c12 hf
          exact hx0 _ _ _ _ (Option.some.inj hf).symm rfl hP hD hS (lv_sub hl [] rfl)
      · have hf := tk c9 hf
        refine lv_iconst (v := (1 : Int32)) hx hb dX4_readItems_46 (by decide) ?_
        refine lv_goto (tgt := 51) hx hb dX4_readItems_47 (by decide) ?_
        obtain ⟨o15, e16, hf⟩ := lp_bind hf
        refine wx_Wi (x := o15.1) (ws' := (wd_r a_r a_d a_d_w a_d_w_codes a_d_w_masks a_d_w_alike a_d_w_havers a_d_g a_d_n a_d_n_cells a_d_m a_d_m_cells a_d_p a_d_p_cells a_k a_k_bytes cI cB cT o15.2.1 o15.2.2.1 o15.2.2.2.1 o15.2.2.2.2.1 o15.2.2.2.2.2.1 o15.2.2.2.2.2.2.1 o15.2.2.2.2.2.2.2.1 o15.2.2.2.2.2.2.2.2.1 o15.2.2.2.2.2.2.2.2.2.1 o15.2.2.2.2.2.2.2.2.2.2.1 d_n_size d_n_cells d_m_size d_m_cells o15.2.2.2.2.2.2.2.2.2.2.2.1 d_p_cells k_size o15.2.2.2.2.2.2.2.2.2.2.2.2.1 o15.2.2.2.2.2.2.2.2.2.2.2.2.2.1 o15.2.2.2.2.2.2.2.2.2.2.2.2.2.2.1 o15.2.2.2.2.2.2.2.2.2.2.2.2.2.2.2 k_bytes)) (As := [.int (1 : Int32)]) (rest := []) CF (c_X4_readItem l D cI cB cT adK adV H.size a_r a_d a_d_w a_d_w_codes a_d_w_masks a_d_w_alike a_d_w_havers a_d_g a_d_n a_d_n_cells a_d_m a_d_m_cells a_d_p a_d_p_cells a_k a_k_bytes d_kind d_secret d_w_size d_w_codes d_w_masks d_w_alike d_w_havers d_g_left d_g_guessed d_g_wrong d_n_size d_n_cells d_m_size d_m_cells d_p_size d_p_cells k_size k_place k_sort k_number k_behind k_bytes (1 : Int32) e16) SE.blind (hE.atW hS (self_free hD hS hA)) ok_X4_readItem wm_425 ⟨rfl, rfl, Nat.le_of_ble_eq_true rfl, Nat.le_of_ble_eq_true rfl⟩ hG hP hD hS hA fs_r 0 2 vq_2 rfl ce_r_0 rfl hl.1 rfl (Nat.le_of_ble_eq_true rfl) ⟨Nat.zero_le _, Nat.zero_le _⟩ dX4_readItems_51 (fun H locs hP hD hS => ?_)
        refine lv_if_ne (tgt := 59) hx hb dX4_readItems_54 (by decide) (fun c17 => ?_) (fun c17 => ?_)
        · have hf := fk c17 hf
          refine lv_iinc (v := (x1 + (1 : Int32))) (lv' := [(1, .int (x1 + (1 : Int32))), (0, .ref a_r)]) hx hb dX4_readItems_59 hl (k := 1) rfl (iinc_eq (by decide)) (by decide) rfl (fun ls hl => ?_)
          refine lv_aload_n hx hb dX4_readItems_62 rfl (lv_at hl 1 rfl) ?_
          refine va_get (D := D) (ci := 2) (v := .ref a_k) (C := RX4) (T := TX4) (N := 2) hx hb hts fin_X4 hown hG.1 hP 0 ce_r_0 vq_2 0 (by decide) (hts _ wm_256) (fun _ h9 => h9) rfl dX4_readItems_63 ?_
          obtain ⟨o18, e19, hf⟩ := lp_bind hf
          have hPc : va_P D vwCl (wd_k a_k a_k_bytes cI cB cT k_size o15.2.2.2.2.2.2.2.2.2.2.2.2.1 o15.2.2.2.2.2.2.2.2.2.2.2.2.2.1 o15.2.2.2.2.2.2.2.2.2.2.2.2.2.2.1 o15.2.2.2.2.2.2.2.2.2.2.2.2.2.2.2 k_bytes) H := su_13 hP
          refine wr_Vv (ws' := (wd_r a_r a_d a_d_w a_d_w_codes a_d_w_masks a_d_w_alike a_d_w_havers a_d_g a_d_n a_d_n_cells a_d_m a_d_m_cells a_d_p a_d_p_cells a_k a_k_bytes cI cB cT o15.2.1 o15.2.2.1 o15.2.2.2.1 o15.2.2.2.2.1 o15.2.2.2.2.2.1 o15.2.2.2.2.2.2.1 o15.2.2.2.2.2.2.2.1 o15.2.2.2.2.2.2.2.2.1 o15.2.2.2.2.2.2.2.2.2.1 o15.2.2.2.2.2.2.2.2.2.2.1 d_n_size d_n_cells d_m_size d_m_cells o15.2.2.2.2.2.2.2.2.2.2.2.1 d_p_cells k_size o18.1 o18.2.1 o18.2.2.1 o18.2.2.2 k_bytes)) (As := []) (rest := []) CF (c_X8_step l D cI cB cT H.size a_k a_k_bytes k_size o15.2.2.2.2.2.2.2.2.2.2.2.2.1 o15.2.2.2.2.2.2.2.2.2.2.2.2.2.1 o15.2.2.2.2.2.2.2.2.2.2.2.2.2.2.1 o15.2.2.2.2.2.2.2.2.2.2.2.2.2.2.2 k_bytes e19) ok_X8_step wm_413 ⟨rfl, rfl, Nat.le_of_ble_eq_true rfl, Nat.le_of_ble_eq_true rfl⟩ hG hP hD hS hA [14, 15] hPc rfl hc_13 rfl pb_13 fs_r 0 6 vq_6 rfl ce_k_0 rfl hl.1 rfl (Nat.le_of_ble_eq_true rfl) ⟨Nat.zero_le _, Nat.zero_le _⟩ dX4_readItems_66 (fun H locs hP hD hS => ?_)
          refine lv_goto (tgt := 24) hx hb dX4_readItems_69 (by decide) ?_
          exact hk _ _ _ _ (Option.some.inj hf).symm hP hD hS (lv_sub hl [1, 0] rfl)
        · have hf := tk c17 hf
          exact hx0 _ _ _ _ (Option.some.inj hf).symm rfl hP hD hS (lv_sub hl [] rfl)
set_option maxHeartbeats 4000000 in
set_option maxRecDepth 100000 in
theorem L_X4_readItems_24_W {d_n_size : Int32} {d_n_cells : (Nat → Int32)} {d_m_size : Int32} {d_m_cells : (Nat → Int32)} {d_p_cells : (Nat → Int32)} {k_size : Int32} {k_bytes : (Nat → Int32)} (CF : CallFix p m c cX4_readItems 2 s args wsAll RX4) (hG : Gd D cI cB cT s) (hA : ∀ q : Nat, s.heap.size ≤ q → A q) (hE : SE adK adV A s s.heap) {o : Nat × Int32 × Int32 × Int32 × Int32 × (Nat → Int32) × (Nat → Int32) × (Nat → Int32) × (Nat → Int32) × Int32 × Int32 × Int32 × Int32 × Int32 × Int32 × Int32 × Int32} (hx0 : ∀ (H : Heap) (locs : List Loc) (ls : Array Slot), o.1 = 0 → va_P D vwCl (wd_r a_r a_d a_d_w a_d_w_codes a_d_w_masks a_d_w_alike a_d_w_havers a_d_g a_d_n a_d_n_cells a_d_m a_d_m_cells a_d_p a_d_p_cells a_k a_k_bytes cI cB cT o.2.2.1 o.2.2.2.1 o.2.2.2.2.1 o.2.2.2.2.2.1 o.2.2.2.2.2.2.1 o.2.2.2.2.2.2.2.1 o.2.2.2.2.2.2.2.2.1 o.2.2.2.2.2.2.2.2.2.1 o.2.2.2.2.2.2.2.2.2.2.1 o.2.2.2.2.2.2.2.2.2.2.2.1 d_n_size d_n_cells d_m_size d_m_cells o.2.2.2.2.2.2.2.2.2.2.2.2.1 d_p_cells k_size o.2.2.2.2.2.2.2.2.2.2.2.2.2.1 o.2.2.2.2.2.2.2.2.2.2.2.2.2.2.1 o.2.2.2.2.2.2.2.2.2.2.2.2.2.2.2.1 o.2.2.2.2.2.2.2.2.2.2.2.2.2.2.2.2 k_bytes) H → va_D A (wd_r a_r a_d a_d_w a_d_w_codes a_d_w_masks a_d_w_alike a_d_w_havers a_d_g a_d_n a_d_n_cells a_d_m a_d_m_cells a_d_p a_d_p_cells a_k a_k_bytes cI cB cT o.2.2.1 o.2.2.2.1 o.2.2.2.2.1 o.2.2.2.2.2.1 o.2.2.2.2.2.2.1 o.2.2.2.2.2.2.2.1 o.2.2.2.2.2.2.2.2.1 o.2.2.2.2.2.2.2.2.2.1 o.2.2.2.2.2.2.2.2.2.2.1 o.2.2.2.2.2.2.2.2.2.2.2.1 d_n_size d_n_cells d_m_size d_m_cells o.2.2.2.2.2.2.2.2.2.2.2.2.1 d_p_cells k_size o.2.2.2.2.2.2.2.2.2.2.2.2.2.1 o.2.2.2.2.2.2.2.2.2.2.2.2.2.2.1 o.2.2.2.2.2.2.2.2.2.2.2.2.2.2.2.1 o.2.2.2.2.2.2.2.2.2.2.2.2.2.2.2.2 k_bytes) → va_S A s.heap H locs → lv_has ls 2 [] → W p l e rm_X4_readItems s m args below meth c H locs 0 0 Q (F0 m 57 ls [])) (hx1 : ∀ (H : Heap) (locs : List Loc) (ls : Array Slot), o.1 = 1 → va_P D vwCl (wd_r a_r a_d a_d_w a_d_w_codes a_d_w_masks a_d_w_alike a_d_w_havers a_d_g a_d_n a_d_n_cells a_d_m a_d_m_cells a_d_p a_d_p_cells a_k a_k_bytes cI cB cT o.2.2.1 o.2.2.2.1 o.2.2.2.2.1 o.2.2.2.2.2.1 o.2.2.2.2.2.2.1 o.2.2.2.2.2.2.2.1 o.2.2.2.2.2.2.2.2.1 o.2.2.2.2.2.2.2.2.2.1 o.2.2.2.2.2.2.2.2.2.2.1 o.2.2.2.2.2.2.2.2.2.2.2.1 d_n_size d_n_cells d_m_size d_m_cells o.2.2.2.2.2.2.2.2.2.2.2.2.1 d_p_cells k_size o.2.2.2.2.2.2.2.2.2.2.2.2.2.1 o.2.2.2.2.2.2.2.2.2.2.2.2.2.2.1 o.2.2.2.2.2.2.2.2.2.2.2.2.2.2.2.1 o.2.2.2.2.2.2.2.2.2.2.2.2.2.2.2.2 k_bytes) H → va_D A (wd_r a_r a_d a_d_w a_d_w_codes a_d_w_masks a_d_w_alike a_d_w_havers a_d_g a_d_n a_d_n_cells a_d_m a_d_m_cells a_d_p a_d_p_cells a_k a_k_bytes cI cB cT o.2.2.1 o.2.2.2.1 o.2.2.2.2.1 o.2.2.2.2.2.1 o.2.2.2.2.2.2.1 o.2.2.2.2.2.2.2.1 o.2.2.2.2.2.2.2.2.1 o.2.2.2.2.2.2.2.2.2.1 o.2.2.2.2.2.2.2.2.2.2.1 o.2.2.2.2.2.2.2.2.2.2.2.1 d_n_size d_n_cells d_m_size d_m_cells o.2.2.2.2.2.2.2.2.2.2.2.2.1 d_p_cells k_size o.2.2.2.2.2.2.2.2.2.2.2.2.2.1 o.2.2.2.2.2.2.2.2.2.2.2.2.2.2.1 o.2.2.2.2.2.2.2.2.2.2.2.2.2.2.2.1 o.2.2.2.2.2.2.2.2.2.2.2.2.2.2.2.2 k_bytes) → va_S A s.heap H locs → lv_has ls 2 [(1, .int o.2.1)] → W p l e rm_X4_readItems s m args below meth c H locs 0 0 Q (F0 m 72 ls [])) : ∀ (n : Nat) (x1 : Int32) (d_kind : Int32) (d_secret : Int32) (d_w_size : Int32) (d_w_codes : (Nat → Int32)) (d_w_masks : (Nat → Int32)) (d_w_alike : (Nat → Int32)) (d_w_havers : (Nat → Int32)) (d_g_left : Int32) (d_g_guessed : Int32) (d_g_wrong : Int32) (d_p_size : Int32) (k_place : Int32) (k_sort : Int32) (k_number : Int32) (k_behind : Int32) (H : Heap) (locs : List Loc) (ls : Array Slot), va_P D vwCl (wd_r a_r a_d a_d_w a_d_w_codes a_d_w_masks a_d_w_alike a_d_w_havers a_d_g a_d_n a_d_n_cells a_d_m a_d_m_cells a_d_p a_d_p_cells a_k a_k_bytes cI cB cT d_kind d_secret d_w_size d_w_codes d_w_masks d_w_alike d_w_havers d_g_left d_g_guessed d_g_wrong d_n_size d_n_cells d_m_size d_m_cells d_p_size d_p_cells k_size k_place k_sort k_number k_behind k_bytes) H → va_D A (wd_r a_r a_d a_d_w a_d_w_codes a_d_w_masks a_d_w_alike a_d_w_havers a_d_g a_d_n a_d_n_cells a_d_m a_d_m_cells a_d_p a_d_p_cells a_k a_k_bytes cI cB cT d_kind d_secret d_w_size d_w_codes d_w_masks d_w_alike d_w_havers d_g_left d_g_guessed d_g_wrong d_n_size d_n_cells d_m_size d_m_cells d_p_size d_p_cells k_size k_place k_sort k_number k_behind k_bytes) → va_S A s.heap H locs → lv_has ls 2 [(0, .ref a_r), (1, .int x1)] → lp (fun v => B_X4_readItems_24 k_size k_bytes v.1 v.2.1 v.2.2.1 v.2.2.2.1 v.2.2.2.2.1 v.2.2.2.2.2.1 v.2.2.2.2.2.2.1 v.2.2.2.2.2.2.2.1 v.2.2.2.2.2.2.2.2.1 v.2.2.2.2.2.2.2.2.2.1 v.2.2.2.2.2.2.2.2.2.2.1 v.2.2.2.2.2.2.2.2.2.2.2.1 v.2.2.2.2.2.2.2.2.2.2.2.2.1 v.2.2.2.2.2.2.2.2.2.2.2.2.2.1 v.2.2.2.2.2.2.2.2.2.2.2.2.2.2.1 v.2.2.2.2.2.2.2.2.2.2.2.2.2.2.2) n (x1, d_kind, d_secret, d_w_size, d_w_codes, d_w_masks, d_w_alike, d_w_havers, d_g_left, d_g_guessed, d_g_wrong, d_p_size, k_place, k_sort, k_number, k_behind) = some o → W p l e rm_X4_readItems s m args below meth c H locs 0 0 Q (F0 m 24 ls []) := by
  intro n
  induction n with
  | zero =>
    intro x1 d_kind d_secret d_w_size d_w_codes d_w_masks d_w_alike d_w_havers d_g_left d_g_guessed d_g_wrong d_p_size k_place k_sort k_number k_behind H locs ls hP hD hS hl hf
    exact (lp_zero hf).elim
  | succ n ih =>
    intro x1 d_kind d_secret d_w_size d_w_codes d_w_masks d_w_alike d_w_havers d_g_left d_g_guessed d_g_wrong d_p_size k_place k_sort k_number k_behind H locs ls hP hD hS hl hf
    obtain ⟨z, hz, hf⟩ := lp_succ hf
    refine B_X4_readItems_24_W CF hG hA hE ?_ ?_ ?_ hP hD hS hl hz
    · intro v' H locs ls ez hP hD hS hl
      rcases hf with ⟨v2, ev, hf⟩ | ev
      · cases Sum.inl.inj (ez.symm.trans ev)
        exact ih v'.1 v'.2.1 v'.2.2.1 v'.2.2.2.1 v'.2.2.2.2.1 v'.2.2.2.2.2.1 v'.2.2.2.2.2.2.1 v'.2.2.2.2.2.2.2.1 v'.2.2.2.2.2.2.2.2.1 v'.2.2.2.2.2.2.2.2.2.1 v'.2.2.2.2.2.2.2.2.2.2.1 v'.2.2.2.2.2.2.2.2.2.2.2.1 v'.2.2.2.2.2.2.2.2.2.2.2.2.1 v'.2.2.2.2.2.2.2.2.2.2.2.2.2.1 v'.2.2.2.2.2.2.2.2.2.2.2.2.2.2.1 v'.2.2.2.2.2.2.2.2.2.2.2.2.2.2.2 H locs ls hP hD hS hl hf
      · exact (lp_lr (ez.symm.trans ev)).elim
    · intro o' H locs ls ez et hP hD hS hl
      rcases hf with ⟨v2, ev, hf⟩ | ev
      · exact (lp_lr (ev.symm.trans ez)).elim
      · cases Sum.inr.inj (ez.symm.trans ev)
        exact hx0 H locs ls et hP hD hS hl
    · intro o' H locs ls ez et hP hD hS hl
      rcases hf with ⟨v2, ev, hf⟩ | ev
      · exact (lp_lr (ev.symm.trans ez)).elim
      · cases Sum.inr.inj (ez.symm.trans ev)
        exact hx1 H locs ls et hP hD hS hl
set_option maxHeartbeats 4000000 in
set_option maxRecDepth 100000 in
theorem c_X4_readItems (l : Launch) (D : va_G) (cI cB cT : ClassId) (adK adV : Nat → Nat) (sz : Nat) (a_r a_d a_d_w a_d_w_codes a_d_w_masks a_d_w_alike a_d_w_havers a_d_g a_d_n a_d_n_cells a_d_m a_d_m_cells a_d_p a_d_p_cells a_k a_k_bytes : Nat) (d_kind : Int32) (d_secret : Int32) (d_w_size : Int32) (d_w_codes : (Nat → Int32)) (d_w_masks : (Nat → Int32)) (d_w_alike : (Nat → Int32)) (d_w_havers : (Nat → Int32)) (d_g_left : Int32) (d_g_guessed : Int32) (d_g_wrong : Int32) (d_n_size : Int32) (d_n_cells : (Nat → Int32)) (d_m_size : Int32) (d_m_cells : (Nat → Int32)) (d_p_size : Int32) (d_p_cells : (Nat → Int32)) (k_size : Int32) (k_place : Int32) (k_sort : Int32) (k_number : Int32) (k_behind : Int32) (k_bytes : (Nat → Int32)) {z : Int32 × Int32 × Int32 × Int32 × (Nat → Int32) × (Nat → Int32) × (Nat → Int32) × (Nat → Int32) × Int32 × Int32 × Int32 × Int32 × Int32 × Int32 × Int32 × Int32 × Int32 × Int32} (hf : f_X4_readItems d_w_codes d_w_masks d_w_alike d_w_havers k_size k_number k_bytes = some z) :
    Met l yX4_readItems (Cond.code yX4_readItems cX4_readItems 2 (some .int) :: wsAll) rm_X4_readItems (fun a U => Pwr [.ref a_r] D cI cB cT (wd_r a_r a_d a_d_w a_d_w_codes a_d_w_masks a_d_w_alike a_d_w_havers a_d_g a_d_n a_d_n_cells a_d_m a_d_m_cells a_d_p a_d_p_cells a_k a_k_bytes cI cB cT d_kind d_secret d_w_size d_w_codes d_w_masks d_w_alike d_w_havers d_g_left d_g_guessed d_g_wrong d_n_size d_n_cells d_m_size d_m_cells d_p_size d_p_cells k_size k_place k_sort k_number k_behind k_bytes) sz a U ∧ SE adK adV (va_A (wd_r a_r a_d a_d_w a_d_w_codes a_d_w_masks a_d_w_alike a_d_w_havers a_d_g a_d_n a_d_n_cells a_d_m a_d_m_cells a_d_p a_d_p_cells a_k a_k_bytes cI cB cT d_kind d_secret d_w_size d_w_codes d_w_masks d_w_alike d_w_havers d_g_left d_g_guessed d_g_wrong d_n_size d_n_cells d_m_size d_m_cells d_p_size d_p_cells k_size k_place k_sort k_number k_behind k_bytes) sz) U U.heap) (Qw (some (.int z.1)) D (wd_r a_r a_d a_d_w a_d_w_codes a_d_w_masks a_d_w_alike a_d_w_havers a_d_g a_d_n a_d_n_cells a_d_m a_d_m_cells a_d_p a_d_p_cells a_k a_k_bytes cI cB cT z.2.1 z.2.2.1 z.2.2.2.1 z.2.2.2.2.1 z.2.2.2.2.2.1 z.2.2.2.2.2.2.1 z.2.2.2.2.2.2.2.1 z.2.2.2.2.2.2.2.2.1 z.2.2.2.2.2.2.2.2.2.1 z.2.2.2.2.2.2.2.2.2.2.1 z.2.2.2.2.2.2.2.2.2.2.2.1 d_n_cells z.2.2.2.2.2.2.2.2.2.2.2.2.1 d_m_cells z.2.2.2.2.2.2.2.2.2.2.2.2.2.1 d_p_cells k_size z.2.2.2.2.2.2.2.2.2.2.2.2.2.2.1 z.2.2.2.2.2.2.2.2.2.2.2.2.2.2.2.1 z.2.2.2.2.2.2.2.2.2.2.2.2.2.2.2.2.1 z.2.2.2.2.2.2.2.2.2.2.2.2.2.2.2.2.2 k_bytes) (va_A (wd_r a_r a_d a_d_w a_d_w_codes a_d_w_masks a_d_w_alike a_d_w_havers a_d_g a_d_n a_d_n_cells a_d_m a_d_m_cells a_d_p a_d_p_cells a_k a_k_bytes cI cB cT d_kind d_secret d_w_size d_w_codes d_w_masks d_w_alike d_w_havers d_g_left d_g_guessed d_g_wrong d_n_size d_n_cells d_m_size d_m_cells d_p_size d_p_cells k_size k_place k_sort k_number k_behind k_bytes) sz)) 0 0 (va_A (wd_r a_r a_d a_d_w a_d_w_codes a_d_w_masks a_d_w_alike a_d_w_havers a_d_g a_d_n a_d_n_cells a_d_m a_d_m_cells a_d_p a_d_p_cells a_k a_k_bytes cI cB cT d_kind d_secret d_w_size d_w_codes d_w_masks d_w_alike d_w_havers d_g_left d_g_guessed d_g_wrong d_n_size d_n_cells d_m_size d_m_cells d_p_size d_p_cells k_size k_place k_sort k_number k_behind k_bytes) sz) := by
  refine wx_intro (E := fun A U => SE adK adV A U U.heap) RX4 (by decide +kernel) rfl (Nat.le_of_ble_eq_true rfl) ?_
  intro p e s m below meth c ls A H locs CF hr hlk hG hP hD hS hA hE hl
  have hl : lv_has ls 2 [(0, .ref a_r)] := hl
  obtain ⟨hx, hb, hml, hown, hts⟩ := id CF
  unfold f_X4_readItems at hf
  refine lv_aload_n hx hb dX4_readItems_0 rfl (lv_at hl 0 rfl) ?_
  refine va_get (D := D) (ci := 2) (v := .ref a_k) (C := RX4) (T := TX4) (N := 2) hx hb hts fin_X4 hown hG.1 hP 0 ce_r_0 vq_2 0 (by decide) (hts _ wm_256) (fun _ h9 => h9) rfl dX4_readItems_1 ?_
  obtain ⟨o1, e2, hf⟩ := lp_bind hf
  have hPc : va_P D vwCl (wd_k a_k a_k_bytes cI cB cT k_size k_place k_sort k_number k_behind k_bytes) H := su_13 hP
  refine wr_Vv (ws' := (wd_r a_r a_d a_d_w a_d_w_codes a_d_w_masks a_d_w_alike a_d_w_havers a_d_g a_d_n a_d_n_cells a_d_m a_d_m_cells a_d_p a_d_p_cells a_k a_k_bytes cI cB cT d_kind d_secret d_w_size d_w_codes d_w_masks d_w_alike d_w_havers d_g_left d_g_guessed d_g_wrong d_n_size d_n_cells d_m_size d_m_cells d_p_size d_p_cells k_size k_place k_sort k_number o1 k_bytes)) (As := []) (rest := []) CF (c_X8_rewind l D cI cB cT H.size a_k a_k_bytes k_size k_place k_sort k_number k_behind k_bytes e2) ok_X8_rewind wm_408 ⟨rfl, rfl, Nat.le_of_ble_eq_true rfl, Nat.le_of_ble_eq_true rfl⟩ hG hP hD hS hA [14, 15] hPc rfl hc_13 rfl pb_13 fs_r 0 6 vq_6 rfl ce_k_0 rfl hl.1 rfl (Nat.le_of_ble_eq_true rfl) ⟨Nat.zero_le _, Nat.zero_le _⟩ dX4_readItems_4 (fun H locs hP hD hS => ?_)
  refine lv_aload_n hx hb dX4_readItems_7 rfl (lv_at hl 0 rfl) ?_
  refine va_get (D := D) (ci := 2) (v := .ref a_d) (C := RX4) (T := TX4) (N := 2) hx hb hts fin_X4 hown hG.1 hP 0 ce_r_0 vq_2 1 (by decide) (hts _ wm_258) (fun _ h9 => h9) rfl dX4_readItems_8 ?_
  refine lv_iconst (v := (0 : Int32)) hx hb dX4_readItems_11 (by decide) ?_
  obtain ⟨o3, e4, hf⟩ := lp_bind hf
  have hPc : va_P D vwCl (wd_t a_d a_d_w a_d_w_codes a_d_w_masks a_d_w_alike a_d_w_havers a_d_g a_d_n a_d_n_cells a_d_m a_d_m_cells a_d_p a_d_p_cells cI cB cT d_kind d_secret d_w_size d_w_codes d_w_masks d_w_alike d_w_havers d_g_left d_g_guessed d_g_wrong d_n_size d_n_cells d_m_size d_m_cells d_p_size d_p_cells) H := su_15 hP
  refine wr_Vv (ws' := (wd_r a_r a_d a_d_w a_d_w_codes a_d_w_masks a_d_w_alike a_d_w_havers a_d_g a_d_n a_d_n_cells a_d_m a_d_m_cells a_d_p a_d_p_cells a_k a_k_bytes cI cB cT o3.1 o3.2.1 o3.2.2.1 d_w_codes d_w_masks d_w_alike o3.2.2.2.1 o3.2.2.2.2.1 o3.2.2.2.2.2.1 o3.2.2.2.2.2.2.1 o3.2.2.2.2.2.2.2.1 d_n_cells o3.2.2.2.2.2.2.2.2.1 d_m_cells o3.2.2.2.2.2.2.2.2.2 d_p_cells k_size k_place k_sort k_number o1 k_bytes)) (As := [.int (0 : Int32)]) (rest := []) CF (c_X7_reset l D cI cB cT H.size a_d a_d_w a_d_w_codes a_d_w_masks a_d_w_alike a_d_w_havers a_d_g a_d_n a_d_n_cells a_d_m a_d_m_cells a_d_p a_d_p_cells d_kind d_secret d_w_size d_w_codes d_w_masks d_w_alike d_w_havers d_g_left d_g_guessed d_g_wrong d_n_size d_n_cells d_m_size d_m_cells d_p_size d_p_cells (0 : Int32) e4) ok_X7_reset wm_412 ⟨rfl, rfl, Nat.le_of_ble_eq_true rfl, Nat.le_of_ble_eq_true rfl⟩ hG hP hD hS hA [1, 2, 3, 4, 5, 6, 7, 8, 9, 10, 11, 12, 13] hPc rfl hc_15 rfl pb_15 fs_r 0 5 vq_5 rfl ce_t_0 rfl hl.1 rfl (Nat.le_of_ble_eq_true rfl) ⟨Nat.zero_le _, Nat.zero_le _⟩ dX4_readItems_12 (fun H locs hP hD hS => ?_)
  refine lv_iconst (v := (0 : Int32)) hx hb dX4_readItems_15 (by decide) ?_
  refine lv_istore_n (lv' := [(1, .int (0 : Int32)), (0, .ref a_r)]) hx hb dX4_readItems_16 rfl hl (by decide) rfl (fun ls hl => ?_)
  refine lv_aload_n hx hb dX4_readItems_17 rfl (lv_at hl 1 rfl) ?_
  refine va_get (D := D) (ci := 2) (v := .ref a_k) (C := RX4) (T := TX4) (N := 2) hx hb hts fin_X4 hown hG.1 hP 0 ce_r_0 vq_2 0 (by decide) (hts _ wm_256) (fun _ h9 => h9) rfl dX4_readItems_18 ?_
  obtain ⟨o5, e6, hf⟩ := lp_bind hf
  have hPc : va_P D vwCl (wd_k a_k a_k_bytes cI cB cT k_size k_place k_sort k_number o1 k_bytes) H := su_13 hP
  refine wr_Vv (ws' := (wd_r a_r a_d a_d_w a_d_w_codes a_d_w_masks a_d_w_alike a_d_w_havers a_d_g a_d_n a_d_n_cells a_d_m a_d_m_cells a_d_p a_d_p_cells a_k a_k_bytes cI cB cT o3.1 o3.2.1 o3.2.2.1 d_w_codes d_w_masks d_w_alike o3.2.2.2.1 o3.2.2.2.2.1 o3.2.2.2.2.2.1 o3.2.2.2.2.2.2.1 o3.2.2.2.2.2.2.2.1 d_n_cells o3.2.2.2.2.2.2.2.2.1 d_m_cells o3.2.2.2.2.2.2.2.2.2 d_p_cells k_size o5.1 o5.2.1 o5.2.2.1 o5.2.2.2 k_bytes)) (As := []) (rest := []) CF (c_X8_step l D cI cB cT H.size a_k a_k_bytes k_size k_place k_sort k_number o1 k_bytes e6) ok_X8_step wm_413 ⟨rfl, rfl, Nat.le_of_ble_eq_true rfl, Nat.le_of_ble_eq_true rfl⟩ hG hP hD hS hA [14, 15] hPc rfl hc_13 rfl pb_13 fs_r 0 6 vq_6 rfl ce_k_0 rfl hl.1 rfl (Nat.le_of_ble_eq_true rfl) ⟨Nat.zero_le _, Nat.zero_le _⟩ dX4_readItems_21 (fun H locs hP hD hS => ?_)
  obtain ⟨o20, e21, hf⟩ := lp_bind hf
  refine L_X4_readItems_24_W CF hG hA hE ?_ ?_ KN _ _ _ _ _ _ _ _ _ _ _ _ _ _ _ _ _ _ _ hP hD hS (lv_sub hl [1, 0] rfl) e21
  · intro H locs ls et hP hD hS hl
    have hf := tk et hf
    refine lv_iconst (v := (0 : Int32)) hx hb dX4_readItems_57 (by decide) ?_
    obtain rfl := Option.some.inj hf
    exact wr_iret CF hr hlk hP hS dX4_readItems_58
  · intro H locs ls et hP hD hS hl
    have hf := fk (by rw [et]; decide) hf
    refine lv_iload_n hx hb dX4_readItems_72 rfl (lv_at hl 0 rfl) ?_
    obtain rfl := Option.some.inj hf
    exact wr_iret CF hr hlk hP hS dX4_readItems_73
end M_X4_readItems
