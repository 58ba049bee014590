section M_X9_removeAll
variable {p : Program} {l : Launch} {e : Env} {s : State} {m : MethodId} {args : Array Value} {below : List Frame} {meth : Method} {c : Code} {Q : State → Prop} {A : Nat → Prop} {D : va_G} {cI cB cT : ClassId}
variable {a_w a_w_codes a_w_masks a_w_alike a_w_havers : Nat}
def rm_X9_removeAll : Room := { frames := 0, cells := 0, slots := 0, locals := 0 }
def B_X9_removeAll_7 (x1 : Int32) (w_havers : (Nat → Int32)) : Option ((Int32 × (Nat → Int32)) ⊕ ((Nat → Int32))) := (if (10 : Int32) ≤ x1 then some (Sum.inr w_havers) else (if oob x1 10 then none else some (Sum.inl ((x1 + (1 : Int32)), (upd w_havers (x1).toNatClampNeg (0 : Int32))))))
def f_X9_removeAll (w_havers : (Nat → Int32)) : Option (Int32 × (Nat → Int32)) := ((lp (fun v => B_X9_removeAll_7 v.1 v.2) KN ((0 : Int32), w_havers)).bind fun o3 => some ((0 : Int32), o3))
set_option maxHeartbeats 4000000 in
set_option maxRecDepth 100000 in
theorem B_X9_removeAll_7_W {w_size : Int32} {w_codes : (Nat → Int32)} {w_masks : (Nat → Int32)} {w_alike : (Nat → Int32)} {w_havers : (Nat → Int32)} {x1 : Int32} (CF : CallFix p m c cX9_removeAll 2 s args wsAll RX9) (hG : Gd D cI cB cT s) (hA : ∀ q : Nat, s.heap.size ≤ q → A q) {z : (Int32 × (Nat → Int32)) ⊕ ((Nat → Int32))} {H : Heap} {locs : List Loc} (hk : ∀ (v' : Int32 × (Nat → Int32)) (H : Heap) (locs : List Loc) (ls : Array Slot), z = Sum.inl v' → va_P D vwCl (wd_w a_w a_w_codes a_w_masks a_w_alike a_w_havers cI cB cT w_size w_codes w_masks w_alike (v'.2)) H → va_D A (wd_w a_w a_w_codes a_w_masks a_w_alike a_w_havers cI cB cT w_size w_codes w_masks w_alike (v'.2)) → va_S A s.heap H locs → lv_has ls 2 [(0, .ref a_w), (1, .int (v'.1))] → W p l e rm_X9_removeAll s m args below meth c H locs 0 0 Q (F0 m 7 ls [])) (hx0 : ∀ (o' : (Nat → Int32)) (H : Heap) (locs : List Loc) (ls : Array Slot), z = Sum.inr o' → va_P D vwCl (wd_w a_w a_w_codes a_w_masks a_w_alike a_w_havers cI cB cT w_size w_codes w_masks w_alike (o')) H → va_D A (wd_w a_w a_w_codes a_w_masks a_w_alike a_w_havers cI cB cT w_size w_codes w_masks w_alike (o')) → va_S A s.heap H locs → lv_has ls 2 [] → W p l e rm_X9_removeAll s m args below meth c H locs 0 0 Q (F0 m 26 ls [])) {ls : Array Slot} (hP : va_P D vwCl (wd_w a_w a_w_codes a_w_masks a_w_alike a_w_havers cI cB cT w_size w_codes w_masks w_alike w_havers) H) (hD : va_D A (wd_w a_w a_w_codes a_w_masks a_w_alike a_w_havers cI cB cT w_size w_codes w_masks w_alike w_havers)) (hS : va_S A s.heap H locs) (hl : lv_has ls 2 [(0, .ref a_w), (1, .int x1)]) (hf : B_X9_removeAll_7 x1 w_havers = some z) : W p l e rm_X9_removeAll s m args below meth c H locs 0 0 Q (F0 m 7 ls []) := by
  obtain ⟨hx, hb, hml, hown, hts⟩ := id CF
  unfold B_X9_removeAll_7 at hf
  refine lv_iload_n hx hb dX9_removeAll_7 rfl (lv_at hl 1 rfl) ?_
  refine lv_bipush (v := (10 : Int32)) hx hb dX9_removeAll_8 (by decide) ?_
  refine lv_icmp_ge (tgt := 26) hx hb dX9_removeAll_10 (by decide) (fun c1 => ?_) (fun c1 => ?_)
  · have hf := tk c1 hf
    exact hx0 _ _ _ _ (Option.some.inj hf).symm hP hD hS (lv_sub hl [] rfl)
  · have hf := fk c1 hf
    refine lv_aload_n hx hb dX9_removeAll_13 rfl (lv_at hl 0 rfl) ?_
    refine va_get (D := D) (ci := 7) (v := .ref a_w_havers) (C := RX9) (T := TX9) (N := 5) hx hb hts fin_X9 hown hG.1 hP 0 ce_w_0 vq_7 4 (by decide) (hts _ wm_130) (fun _ h9 => h9) rfl dX9_removeAll_14 ?_
    refine lv_iload_n hx hb dX9_removeAll_17 rfl (lv_at hl 1 rfl) ?_
    refine lv_iconst (v := (0 : Int32)) hx hb dX9_removeAll_18 (by decide) ?_
    obtain ⟨n2, hf⟩ := nk hf
    refine va_iast (f := w_havers) hx hb hG.1 hP hD hS 4 0 ce_w_4 rfl n2 dX9_removeAll_19 (fun H locs hP _ hS => ?_)
    have hP : va_P D vwCl (wd_w a_w a_w_codes a_w_masks a_w_alike a_w_havers cI cB cT w_size w_codes w_masks w_alike (upd w_havers (x1).toNatClampNeg (0 : Int32))) H := va_P_eq se_w_w_havers hP
    have hD : va_D A (wd_w a_w a_w_codes a_w_masks a_w_alike a_w_havers cI cB cT w_size w_codes w_masks w_alike (upd w_havers (x1).toNatClampNeg (0 : Int32))) := va_D_fst fs_w hD
    refine lv_iinc (v := (x1 + (1 : Int32))) (lv' := [(1, .int (x1 + (1 : Int32))), (0, .ref a_w)]) hx hb dX9_removeAll_20 hl (k := 1) rfl (iinc_eq (by decide)) (by decide) rfl (fun ls hl => ?_)
    refine lv_goto (tgt := 7) hx hb dX9_removeAll_23 (by decide) ?_
    exact hk _ _ _ _ (Option.some.inj hf).symm hP hD hS (lv_sub hl [1, 0] rfl)
set_option maxHeartbeats 4000000 in
set_option maxRecDepth 100000 in
theorem L_X9_removeAll_7_W {w_size : Int32} {w_codes : (Nat → Int32)} {w_masks : (Nat → Int32)} {w_alike : (Nat → Int32)} (CF : CallFix p m c cX9_removeAll 2 s args wsAll RX9) (hG : Gd D cI cB cT s) (hA : ∀ q : Nat, s.heap.size ≤ q → A q) {o : (Nat → Int32)} (hx0 : ∀ (H : Heap) (locs : List Loc) (ls : Array Slot), va_P D vwCl (wd_w a_w a_w_codes a_w_masks a_w_alike a_w_havers cI cB cT w_size w_codes w_masks w_alike o) H → va_D A (wd_w a_w a_w_codes a_w_masks a_w_alike a_w_havers cI cB cT w_size w_codes w_masks w_alike o) → va_S A s.heap H locs → lv_has ls 2 [] → W p l e rm_X9_removeAll s m args below meth c H locs 0 0 Q (F0 m 26 ls [])) : ∀ (n : Nat) (x1 : Int32) (w_havers : (Nat → Int32)) (H : Heap) (locs : List Loc) (ls : Array Slot), va_P D vwCl (wd_w a_w a_w_codes a_w_masks a_w_alike a_w_havers cI cB cT w_size w_codes w_masks w_alike w_havers) H → va_D A (wd_w a_w a_w_codes a_w_masks a_w_alike a_w_havers cI cB cT w_size w_codes w_masks w_alike w_havers) → va_S A s.heap H locs → lv_has ls 2 [(0, .ref a_w), (1, .int x1)] → lp (fun v => B_X9_removeAll_7 v.1 v.2) n (x1, w_havers) = some o → W p l e rm_X9_removeAll s m args below meth c H locs 0 0 Q (F0 m 7 ls []) := by
  intro n
  induction n with
  | zero =>
    intro x1 w_havers H locs ls hP hD hS hl hf
    exact (lp_zero hf).elim
  | succ n ih =>
    intro x1 w_havers H locs ls hP hD hS hl hf
    obtain ⟨z, hz, hf⟩ := lp_succ hf
    refine B_X9_removeAll_7_W CF hG hA ?_ ?_ hP hD hS hl hz
    · intro v' H locs ls ez hP hD hS hl
      rcases hf with ⟨v2, ev, hf⟩ | ev
      · cases Sum.inl.inj (ez.symm.trans ev)
        exact ih v'.1 v'.2 H locs ls hP hD hS hl hf
      · exact (lp_lr (ez.symm.trans ev)).elim
    · intro o' H locs ls ez hP hD hS hl
      rcases hf with ⟨v2, ev, hf⟩ | ev
      · exact (lp_lr (ev.symm.trans ez)).elim
      · cases Sum.inr.inj (ez.symm.trans ev)
        exact hx0 H locs ls hP hD hS hl
set_option maxHeartbeats 4000000 in
set_option maxRecDepth 100000 in
theorem c_X9_removeAll (l : Launch) (D : va_G) (cI cB cT : ClassId) (sz : Nat) (a_w a_w_codes a_w_masks a_w_alike a_w_havers : Nat) (w_size : Int32) (w_codes : (Nat → Int32)) (w_masks : (Nat → Int32)) (w_alike : (Nat → Int32)) (w_havers : (Nat → Int32)) {z : Int32 × (Nat → Int32)} (hf : f_X9_removeAll w_havers = some z) :
    Met l yX9_removeAll (Cond.code yX9_removeAll cX9_removeAll 2 none :: wsAll) rm_X9_removeAll (Pwr [.ref a_w] D cI cB cT (wd_w a_w a_w_codes a_w_masks a_w_alike a_w_havers cI cB cT w_size w_codes w_masks w_alike w_havers) sz) (Qw none D (wd_w a_w a_w_codes a_w_masks a_w_alike a_w_havers cI cB cT z.1 w_codes w_masks w_alike z.2) (va_A (wd_w a_w a_w_codes a_w_masks a_w_alike a_w_havers cI cB cT w_size w_codes w_masks w_alike w_havers) sz)) 0 0 (va_A (wd_w a_w a_w_codes a_w_masks a_w_alike a_w_havers cI cB cT w_size w_codes w_masks w_alike w_havers) sz) := by
  refine wr_intro RX9 (by decide +kernel) rfl (Nat.le_of_ble_eq_true rfl) ?_
  intro p e s m below meth c ls A H locs CF hr hlk hG hP hD hS hA hl
  have hl : lv_has ls 2 [(0, .ref a_w)] := hl
  obtain ⟨hx, hb, hml, hown, hts⟩ := id CF
  unfold f_X9_removeAll at hf
  refine lv_aload_n hx hb dX9_removeAll_0 rfl (lv_at hl 0 rfl) ?_
  refine lv_iconst (v := (0 : Int32)) hx hb dX9_removeAll_1 (by decide) ?_
  refine va_put (D := D) (ci := 7) (v := .int (0 : Int32)) (ty := .int) (C := RX9) (T := TX9) (N := 5) hx hb hts fin_X9 tyX9 tyX9_ok nmX9 hown hG.1 hP hD hS 0 ce_w_0 vq_7 0 (by decide) (hts _ wm_123) (fun _ h9 => h9) rfl (tyX9_ok 0 (by decide)) rfl rfl (Nat.le_of_ble_eq_true rfl) dX9_removeAll_2 (fun H locs hP _ hS => ?_)
  have hP : va_P D vwCl (wd_w a_w a_w_codes a_w_masks a_w_alike a_w_havers cI cB cT (0 : Int32) w_codes w_masks w_alike w_havers) H := va_P_eq se_w_w_size hP
  have hD : va_D A (wd_w a_w a_w_codes a_w_masks a_w_alike a_w_havers cI cB cT (0 : Int32) w_codes w_masks w_alike w_havers) := va_D_fst fs_w hD
  refine lv_iconst (v := (0 : Int32)) hx hb dX9_removeAll_5 (by decide) ?_
  refine lv_istore_n (lv' := [(1, .int (0 : Int32)), (0, .ref a_w)]) hx hb dX9_removeAll_6 rfl hl (by decide) rfl (fun ls hl => ?_)
  obtain ⟨o3, e4, hf⟩ := lp_bind hf
  refine L_X9_removeAll_7_W CF hG hA ?_ KN _ _ _ _ _ hP hD hS (lv_sub hl [1, 0] rfl) e4
  intro H locs ls hP hD hS hl
  obtain rfl := Option.some.inj hf
  exact wr_vret CF hr hlk hP hS dX9_removeAll_26
end M_X9_removeAll
section M_X9_numberOf
variable {p : Program} {l : Launch} {e : Env} {s : State} {m : MethodId} {args : Array Value} {below : List Frame} {meth : Method} {c : Code} {Q : State → Prop} {A : Nat → Prop} {D : va_G} {cI cB cT : ClassId}
variable {a_w a_w_codes a_w_masks a_w_alike a_w_havers : Nat}
def rm_X9_numberOf : Room := { frames := 0, cells := 0, slots := 0, locals := 0 }
def B_X9_numberOf_2 (w_size : Int32) (w_codes : (Nat → Int32)) (x1 : Int32) (x2 : Int32) : Option ((Int32) ⊕ (Nat × Int32)) := (if w_size ≤ x2 then some (Sum.inr (1, x2)) else (if oob x2 8 then none else (if (w_codes (x2).toNatClampNeg) = x1 then some (Sum.inr (0, x2)) else some (Sum.inl (x2 + (1 : Int32))))))
def f_X9_numberOf (w_size : Int32) (w_codes : (Nat → Int32)) (p1 : Int32) : Option (Int32) := ((lp (fun v => B_X9_numberOf_2 w_size w_codes p1 v) KN (0 : Int32)).bind fun o4 => (if o4.1 = 0 then some o4.2 else some (-1 : Int32)))
set_option maxHeartbeats 4000000 in
set_option maxRecDepth 100000 in
theorem B_X9_numberOf_2_W {w_size : Int32} {w_codes : (Nat → Int32)} {w_masks : (Nat → Int32)} {w_alike : (Nat → Int32)} {w_havers : (Nat → Int32)} {x1 : Int32} {x2 : Int32} (CF : CallFix p m c cX9_numberOf 3 s args wsAll RX9) (hG : Gd D cI cB cT s) {z : (Int32) ⊕ (Nat × Int32)} (hk : ∀ (v' : Int32) (ls : Array Slot), z = Sum.inl v' → lv_has ls 3 [(0, .ref a_w), (1, .int x1), (2, .int (v'))] → W p l e rm_X9_numberOf s m args below meth c s.heap [] 0 0 Q (F0 m 2 ls [])) (hx0 : ∀ (o' : Nat × Int32) (ls : Array Slot), z = Sum.inr o' → o'.1 = 0 → lv_has ls 3 [(2, .int (o'.2))] → W p l e rm_X9_numberOf s m args below meth c s.heap [] 0 0 Q (F0 m 20 ls [])) (hx1 : ∀ (o' : Nat × Int32) (ls : Array Slot), z = Sum.inr o' → o'.1 = 1 → lv_has ls 3 [] → W p l e rm_X9_numberOf s m args below meth c s.heap [] 0 0 Q (F0 m 28 ls [])) {ls : Array Slot} (hP : va_P D vwCl (wd_w a_w a_w_codes a_w_masks a_w_alike a_w_havers cI cB cT w_size w_codes w_masks w_alike w_havers) s.heap) (hl : lv_has ls 3 [(0, .ref a_w), (1, .int x1), (2, .int x2)]) (hf : B_X9_numberOf_2 w_size w_codes x1 x2 = some z) : W p l e rm_X9_numberOf s m args below meth c s.heap [] 0 0 Q (F0 m 2 ls []) := by
  obtain ⟨hx, hb, hml, hown, hts⟩ := id CF
  unfold B_X9_numberOf_2 at hf
  refine lv_iload_n hx hb dX9_numberOf_2 rfl (lv_at hl 2 rfl) ?_
  refine lv_aload_n hx hb dX9_numberOf_3 rfl (lv_at hl 0 rfl) ?_
  refine va_get (D := D) (ci := 7) (v := .int w_size) (C := RX9) (T := TX9) (N := 5) hx hb hts fin_X9 hown hG.1 hP 0 ce_w_0 vq_7 0 (by decide) (hts _ wm_123) (fun _ h9 => h9) rfl dX9_numberOf_4 ?_
  refine lv_icmp_ge (tgt := 28) hx hb dX9_numberOf_7 (by decide) (fun c1 => ?_) (fun c1 => ?_)
  · have hf := tk c1 hf
    exact hx1 _ _ (Option.some.inj hf).symm rfl (lv_sub hl [] rfl)
  · have hf := fk c1 hf
    refine lv_aload_n hx hb dX9_numberOf_10 rfl (lv_at hl 0 rfl) ?_
    refine va_get (D := D) (ci := 7) (v := .ref a_w_codes) (C := RX9) (T := TX9) (N := 5) hx hb hts fin_X9 hown hG.1 hP 0 ce_w_0 vq_7 1 (by decide) (hts _ wm_127) (fun _ h9 => h9) rfl dX9_numberOf_11 ?_
    refine lv_iload_n hx hb dX9_numberOf_14 rfl (lv_at hl 2 rfl) ?_
    obtain ⟨n2, hf⟩ := nk hf
    refine va_iald (f := w_codes) hx hb hG.1 hP 1 0 ce_w_1 rfl n2 dX9_numberOf_15 ?_
    refine lv_iload_n hx hb dX9_numberOf_16 rfl (lv_at hl 1 rfl) ?_
    refine lv_icmp_ne (tgt := 22) hx hb dX9_numberOf_17 (by decide) (fun c3 => ?_) (fun c3 => ?_)
    · have hf := fk c3 hf
      refine lv_iinc (v := (x2 + (1 : Int32))) (lv' := [(2, .int (x2 + (1 : Int32))), (0, .ref a_w), (1, .int x1)]) hx hb dX9_numberOf_22 hl (k := 2) rfl (iinc_eq (by decide)) (by decide) rfl (fun ls hl => ?_)
      refine lv_goto (tgt := 2) hx hb dX9_numberOf_25 (by decide) ?_
      exact hk _ _ (Option.some.inj hf).symm (lv_sub hl [1, 2, 0] rfl)
    · have hf := tk c3 hf
      exact hx0 _ _ (Option.some.inj hf).symm rfl (lv_sub hl [2] rfl)
set_option maxHeartbeats 4000000 in
set_option maxRecDepth 100000 in
theorem L_X9_numberOf_2_W {w_size : Int32} {w_codes : (Nat → Int32)} {w_masks : (Nat → Int32)} {w_alike : (Nat → Int32)} {w_havers : (Nat → Int32)} {x1 : Int32} (CF : CallFix p m c cX9_numberOf 3 s args wsAll RX9) (hG : Gd D cI cB cT s) {o : Nat × Int32} (hx0 : ∀ (ls : Array Slot), o.1 = 0 → lv_has ls 3 [(2, .int o.2)] → W p l e rm_X9_numberOf s m args below meth c s.heap [] 0 0 Q (F0 m 20 ls [])) (hx1 : ∀ (ls : Array Slot), o.1 = 1 → lv_has ls 3 [] → W p l e rm_X9_numberOf s m args below meth c s.heap [] 0 0 Q (F0 m 28 ls [])) : ∀ (n : Nat) (x2 : Int32) (ls : Array Slot), va_P D vwCl (wd_w a_w a_w_codes a_w_masks a_w_alike a_w_havers cI cB cT w_size w_codes w_masks w_alike w_havers) s.heap → lv_has ls 3 [(0, .ref a_w), (1, .int x1), (2, .int x2)] → lp (fun v => B_X9_numberOf_2 w_size w_codes x1 v) n x2 = some o → W p l e rm_X9_numberOf s m args below meth c s.heap [] 0 0 Q (F0 m 2 ls []) := by
  intro n
  induction n with
  | zero =>
    intro x2 ls hP hl hf
    exact (lp_zero hf).elim
  | succ n ih =>
    intro x2 ls hP hl hf
    obtain ⟨z, hz, hf⟩ := lp_succ hf
    refine B_X9_numberOf_2_W CF hG ?_ ?_ ?_ hP hl hz
    · intro v' ls ez hl
      rcases hf with ⟨v2, ev, hf⟩ | ev
      · cases Sum.inl.inj (ez.symm.trans ev)
        exact ih v' ls hP hl hf
      · exact (lp_lr (ez.symm.trans ev)).elim
    · intro o' ls ez et hl
      rcases hf with ⟨v2, ev, hf⟩ | ev
      · exact (lp_lr (ev.symm.trans ez)).elim
      · cases Sum.inr.inj (ez.symm.trans ev)
        exact hx0 ls et  hl
    · intro o' ls ez et hl
      rcases hf with ⟨v2, ev, hf⟩ | ev
      · exact (lp_lr (ev.symm.trans ez)).elim
      · cases Sum.inr.inj (ez.symm.trans ev)
        exact hx1 ls et  hl
set_option maxHeartbeats 4000000 in
set_option maxRecDepth 100000 in
theorem c_X9_numberOf (l : Launch) (D : va_G) (cI cB cT : ClassId) (a_w a_w_codes a_w_masks a_w_alike a_w_havers : Nat) (w_size : Int32) (w_codes : (Nat → Int32)) (w_masks : (Nat → Int32)) (w_alike : (Nat → Int32)) (w_havers : (Nat → Int32)) (p1 : Int32) {z : Int32} (hf : f_X9_numberOf w_size w_codes p1 = some z) :
    Met l yX9_numberOf (Cond.code yX9_numberOf cX9_numberOf 3 (some .int) :: wsAll) rm_X9_numberOf (Pro [.ref a_w, .int p1] D cI cB cT (wd_w a_w a_w_codes a_w_masks a_w_alike a_w_havers cI cB cT w_size w_codes w_masks w_alike w_havers)) (Qr (some (.int z))) 0 0 (fun _ => False) := by
  refine ro_intro RX9 (by decide +kernel) rfl (Nat.le_of_ble_eq_true rfl) ?_
  intro p e s m below meth c ls CF hr hlk hG hP hl
  have hl : lv_has ls 3 [(0, .ref a_w), (1, .int p1)] := hl
  obtain ⟨hx, hb, hml, hown, hts⟩ := id CF
  unfold f_X9_numberOf at hf
  refine lv_iconst (v := (0 : Int32)) hx hb dX9_numberOf_0 (by decide) ?_
  refine lv_istore_n (lv' := [(2, .int (0 : Int32)), (0, .ref a_w), (1, .int p1)]) hx hb dX9_numberOf_1 rfl hl (by decide) rfl (fun ls hl => ?_)
  obtain ⟨o4, e5, hf⟩ := lp_bind hf
  refine L_X9_numberOf_2_W CF hG ?_ ?_ KN _ _ hP (lv_sub hl [1, 2, 0] rfl) e5
  · intro ls et hl
    have hf := tk et hf
    refine lv_iload_n hx hb dX9_numberOf_20 rfl (lv_at hl 0 rfl) ?_
    obtain rfl := Option.some.inj hf
    exact ro_iret CF hr hlk dX9_numberOf_21
  · intro ls et hl
    have hf := fk (by rw [et]; decide) hf
    refine lv_iconst (v := (-1 : Int32)) hx hb dX9_numberOf_28 (by decide) ?_
    obtain rfl := Option.some.inj hf
    exact ro_iret CF hr hlk dX9_numberOf_29
end M_X9_numberOf
section M_X9_reckonMask
variable {p : Program} {l : Launch} {e : Env} {s : State} {m : MethodId} {args : Array Value} {below : List Frame} {meth : Method} {c : Code} {Q : State → Prop} {A : Nat → Prop} {D : va_G} {cI cB cT : ClassId}
def rm_X9_reckonMask : Room := { frames := 0, cells := 0, slots := 0, locals := 0 }
def B_X9_reckonMask_7 (x1 : Int32) (x2 : Int32) (x3 : Int32) (x4 : Int32) : Option ((Int32 × Int32 × Int32) ⊕ (Int32)) := (if x4 < 0 then some (Sum.inr x2) else (if (x3 - x3 / (10 : Int32) * (10 : Int32)) = x1 then some (Sum.inl ((x2 ||| ((1 : Int32) <<< (x4 &&& 31))), (x3 / (10 : Int32)), (x4 + (-1 : Int32)))) else some (Sum.inl (x2, (x3 / (10 : Int32)), (x4 + (-1 : Int32))))))
def f_X9_reckonMask (p1 : Int32) (p2 : Int32) : Option (Int32) := ((lp (fun v => B_X9_reckonMask_7 p2 v.1 v.2.1 v.2.2) KN ((0 : Int32), p1, (3 : Int32))).bind fun o3 => some o3)
set_option maxHeartbeats 4000000 in
set_option maxRecDepth 100000 in
theorem B_X9_reckonMask_7_W {x1 : Int32} {x2 : Int32} {x3 : Int32} {x4 : Int32} (CF : CallFix p m c cX9_reckonMask 5 s args wsAll RX9) (hG : Gd D cI cB cT s) {z : (Int32 × Int32 × Int32) ⊕ (Int32)} (hk : ∀ (v' : Int32 × Int32 × Int32) (ls : Array Slot), z = Sum.inl v' → lv_has ls 5 [(1, .int x1), (2, .int (v'.1)), (3, .int (v'.2.1)), (4, .int (v'.2.2))] → W p l e rm_X9_reckonMask s m args below meth c s.heap [] 0 0 Q (F0 m 7 ls [])) (hx0 : ∀ (o' : Int32) (ls : Array Slot), z = Sum.inr o' → lv_has ls 5 [(2, .int (o'))] → W p l e rm_X9_reckonMask s m args below meth c s.heap [] 0 0 Q (F0 m 38 ls [])) {ls : Array Slot} (hP : va_P D vwCl wd_E s.heap) (hl : lv_has ls 5 [(1, .int x1), (2, .int x2), (3, .int x3), (4, .int x4)]) (hf : B_X9_reckonMask_7 x1 x2 x3 x4 = some z) : W p l e rm_X9_reckonMask s m args below meth c s.heap [] 0 0 Q (F0 m 7 ls []) := by
  obtain ⟨hx, hb, hml, hown, hts⟩ := id CF
  unfold B_X9_reckonMask_7 at hf
  refine lv_iload hx hb dX9_reckonMask_7 (lv_at hl 3 rfl) ?_
  refine lv_if_lt (tgt := 38) hx hb dX9_reckonMask_9 (by decide) (fun c1 => ?_) (fun c1 => ?_)
  · have hf := tk c1 hf
    exact hx0 _ _ (Option.some.inj hf).symm (lv_sub hl [1] rfl)
  · have hf := fk c1 hf
    refine lv_iload_n hx hb dX9_reckonMask_12 rfl (lv_at hl 2 rfl) ?_
    refine lv_bipush (v := (10 : Int32)) hx hb dX9_reckonMask_13 (by decide) ?_
    refine lv_irem hx hb dX9_reckonMask_15 (by decide) ?_
    refine lv_iload_n hx hb dX9_reckonMask_16 rfl (lv_at hl 0 rfl) ?_
    refine lv_icmp_ne (tgt := 27) hx hb dX9_reckonMask_17 (by decide) (fun c2 => ?_) (fun c2 => ?_)
    · have hf := fk c2 hf
      refine lv_iload_n hx hb dX9_reckonMask_27 rfl (lv_at hl 2 rfl) ?_
      refine lv_bipush (v := (10 : Int32)) hx hb dX9_reckonMask_28 (by decide) ?_
      refine lv_idiv hx hb dX9_reckonMask_30 (by decide) ?_
      refine lv_istore_n (lv' := [(3, .int (x3 / (10 : Int32))), (1, .int x1), (2, .int x2), (4, .int x4)]) hx hb dX9_reckonMask_31 rfl hl (by decide) rfl (fun ls hl => ?_)
      refine lv_iinc (v := (x4 + (-1 : Int32))) (lv' := [(4, .int (x4 + (-1 : Int32))), (3, .int (x3 / (10 : Int32))), (1, .int x1), (2, .int x2)]) hx hb dX9_reckonMask_32 hl (k := 3) rfl (iinc_eq (by decide)) (by decide) rfl (fun ls hl => ?_)
      refine lv_goto (tgt := 7) hx hb dX9_reckonMask_35 (by decide) ?_
      exact hk _ _ (Option.some.inj hf).symm (lv_sub hl [2, 3, 1, 0] rfl)
    · have hf := tk c2 hf
      refine lv_iload_n hx hb dX9_reckonMask_20 rfl (lv_at hl 1 rfl) ?_
      refine lv_iconst (v := (1 : Int32)) hx hb dX9_reckonMask_21 (by decide) ?_
      refine lv_iload hx hb dX9_reckonMask_22 (lv_at hl 3 rfl) ?_
      refine lv_ishl hx hb dX9_reckonMask_24 ?_
      refine lv_ior hx hb dX9_reckonMask_25 ?_
      refine lv_istore_n (lv' := [(2, .int (x2 ||| ((1 : Int32) <<< (x4 &&& 31)))), (1, .int x1), (3, .int x3), (4, .int x4)]) hx hb dX9_reckonMask_26 rfl hl (by decide) rfl (fun ls hl => ?_)
      refine lv_iload_n hx hb dX9_reckonMask_27 rfl (lv_at hl 2 rfl) ?_
      refine lv_bipush (v := (10 : Int32)) hx hb dX9_reckonMask_28 (by decide) ?_
      refine lv_idiv hx hb dX9_reckonMask_30 (by decide) ?_
      refine lv_istore_n (lv' := [(3, .int (x3 / (10 : Int32))), (2, .int (x2 ||| ((1 : Int32) <<< (x4 &&& 31)))), (1, .int x1), (4, .int x4)]) hx hb dX9_reckonMask_31 rfl hl (by decide) rfl (fun ls hl => ?_)
      refine lv_iinc (v := (x4 + (-1 : Int32))) (lv' := [(4, .int (x4 + (-1 : Int32))), (3, .int (x3 / (10 : Int32))), (2, .int (x2 ||| ((1 : Int32) <<< (x4 &&& 31)))), (1, .int x1)]) hx hb dX9_reckonMask_32 hl (k := 3) rfl (iinc_eq (by decide)) (by decide) rfl (fun ls hl => ?_)
      refine lv_goto (tgt := 7) hx hb dX9_reckonMask_35 (by decide) ?_
      exact hk _ _ (Option.some.inj hf).symm (lv_sub hl [3, 2, 1, 0] rfl)
set_option maxHeartbeats 4000000 in
set_option maxRecDepth 100000 in
theorem L_X9_reckonMask_7_W {x1 : Int32} (CF : CallFix p m c cX9_reckonMask 5 s args wsAll RX9) (hG : Gd D cI cB cT s) {o : Int32} (hx0 : ∀ (ls : Array Slot), lv_has ls 5 [(2, .int o)] → W p l e rm_X9_reckonMask s m args below meth c s.heap [] 0 0 Q (F0 m 38 ls [])) : ∀ (n : Nat) (x2 : Int32) (x3 : Int32) (x4 : Int32) (ls : Array Slot), va_P D vwCl wd_E s.heap → lv_has ls 5 [(1, .int x1), (2, .int x2), (3, .int x3), (4, .int x4)] → lp (fun v => B_X9_reckonMask_7 x1 v.1 v.2.1 v.2.2) n (x2, x3, x4) = some o → W p l e rm_X9_reckonMask s m args below meth c s.heap [] 0 0 Q (F0 m 7 ls []) := by
  intro n
  induction n with
  | zero =>
    intro x2 x3 x4 ls hP hl hf
    exact (lp_zero hf).elim
  | succ n ih =>
    intro x2 x3 x4 ls hP hl hf
    obtain ⟨z, hz, hf⟩ := lp_succ hf
    refine B_X9_reckonMask_7_W CF hG ?_ ?_ hP hl hz
    · intro v' ls ez hl
      rcases hf with ⟨v2, ev, hf⟩ | ev
      · cases Sum.inl.inj (ez.symm.trans ev)
        exact ih v'.1 v'.2.1 v'.2.2 ls hP hl hf
      · exact (lp_lr (ez.symm.trans ev)).elim
    · intro o' ls ez hl
      rcases hf with ⟨v2, ev, hf⟩ | ev
      · exact (lp_lr (ev.symm.trans ez)).elim
      · cases Sum.inr.inj (ez.symm.trans ev)
        exact hx0 ls  hl
set_option maxHeartbeats 4000000 in
set_option maxRecDepth 100000 in
theorem c_X9_reckonMask (l : Launch) (D : va_G) (cI cB cT : ClassId) (p1 : Int32) (p2 : Int32) {z : Int32} (hf : f_X9_reckonMask p1 p2 = some z) :
    Met l yX9_reckonMask (Cond.code yX9_reckonMask cX9_reckonMask 5 (some .int) :: wsAll) rm_X9_reckonMask (Pro [.int p1, .int p2] D cI cB cT wd_E) (Qr (some (.int z))) 0 0 (fun _ => False) := by
  refine ro_intro RX9 (by decide +kernel) rfl (Nat.le_of_ble_eq_true rfl) ?_
  intro p e s m below meth c ls CF hr hlk hG hP hl
  have hl : lv_has ls 5 [(0, .int p1), (1, .int p2)] := hl
  obtain ⟨hx, hb, hml, hown, hts⟩ := id CF
  unfold f_X9_reckonMask at hf
  refine lv_iconst (v := (0 : Int32)) hx hb dX9_reckonMask_0 (by decide) ?_
  refine lv_istore_n (lv' := [(2, .int (0 : Int32)), (0, .int p1), (1, .int p2)]) hx hb dX9_reckonMask_1 rfl hl (by decide) rfl (fun ls hl => ?_)
  refine lv_iload_n hx hb dX9_reckonMask_2 rfl (lv_at hl 1 rfl) ?_
  refine lv_istore_n (lv' := [(3, .int p1), (2, .int (0 : Int32)), (0, .int p1), (1, .int p2)]) hx hb dX9_reckonMask_3 rfl hl (by decide) rfl (fun ls hl => ?_)
  refine lv_iconst (v := (3 : Int32)) hx hb dX9_reckonMask_4 (by decide) ?_
  refine lv_istore (lv' := [(4, .int (3 : Int32)), (3, .int p1), (2, .int (0 : Int32)), (0, .int p1), (1, .int p2)]) hx hb dX9_reckonMask_5 hl (by decide) rfl (fun ls hl => ?_)
  obtain ⟨o3, e4, hf⟩ := lp_bind hf
  refine L_X9_reckonMask_7_W CF hG ?_ KN _ _ _ _ hP (lv_sub hl [4, 2, 1, 0] rfl) e4
  intro ls hl
  refine lv_iload_n hx hb dX9_reckonMask_38 rfl (lv_at hl 0 rfl) ?_
  obtain rfl := Option.some.inj hf
  exact ro_iret CF hr hlk dX9_reckonMask_39
end M_X9_reckonMask
section M_X9_reckonLetter
variable {p : Program} {l : Launch} {e : Env} {s : State} {m : MethodId} {args : Array Value} {below : List Frame} {meth : Method} {c : Code} {Q : State → Prop} {A : Nat → Prop} {D : va_G} {cI cB cT : ClassId}
variable {a_w a_w_codes a_w_masks a_w_alike a_w_havers : Nat}
def rm_X9_reckonLetter : Room := { frames := 1, cells := 0, slots := 0, locals := 24 }
def B_X9_reckonLetter_47 (w_masks : (Nat → Int32)) (x1 : Int32) (x2 : Int32) (x3 : Int32) (x4 : Int32) (x5 : Int32) (w_alike : (Nat → Int32)) : Option ((Int32 × Int32 × (Nat → Int32)) ⊕ (Int32 × (Nat → Int32))) := (if x1 ≤ x5 then some (Sum.inr (x4, w_alike)) else (if oob ((x5 * (10 : Int32)) + x2) 80 then none else (if (w_masks (((x5 * (10 : Int32)) + x2)).toNatClampNeg) = x3 then (if oob ((x5 * (10 : Int32)) + x2) 80 then none else (if oob ((x5 * (10 : Int32)) + x2) 80 then none else some (Sum.inl ((x4 ||| ((1 : Int32) <<< (x5 &&& 31))), (x5 + (1 : Int32)), (upd w_alike (((x5 * (10 : Int32)) + x2)).toNatClampNeg ((w_alike (((x5 * (10 : Int32)) + x2)).toNatClampNeg) ||| ((1 : Int32) <<< (x1 &&& 31)))))))) else some (Sum.inl (x4, (x5 + (1 : Int32)), w_alike)))))
def J_X9_reckonLetter_39 (w_masks : (Nat → Int32)) (w_alike : (Nat → Int32)) (w_havers : (Nat → Int32)) (x1 : Int32) (x2 : Int32) (x3 : Int32) : Option ((Nat → Int32) × (Nat → Int32) × (Nat → Int32)) := ((lp (fun v => B_X9_reckonLetter_47 w_masks x1 x2 x3 v.1 v.2.1 v.2.2) KN (((1 : Int32) <<< (x1 &&& 31)), (0 : Int32), w_alike)).bind fun o11 => (if oob ((x1 * (10 : Int32)) + x2) 80 then none else some (w_masks, (upd o11.2 (((x1 * (10 : Int32)) + x2)).toNatClampNeg o11.1), w_havers)))
def f_X9_reckonLetter (w_codes : (Nat → Int32)) (w_masks : (Nat → Int32)) (w_alike : (Nat → Int32)) (w_havers : (Nat → Int32)) (p1 : Int32) (p2 : Int32) : Option ((Nat → Int32) × (Nat → Int32) × (Nat → Int32)) := (if oob p1 8 then none else ((f_X9_reckonMask (w_codes (p1).toNatClampNeg) p2).bind fun o2 => (if oob ((p1 * (10 : Int32)) + p2) 80 then none else (if o2 = 0 then J_X9_reckonLetter_39 (upd w_masks (((p1 * (10 : Int32)) + p2)).toNatClampNeg o2) w_alike w_havers p1 p2 o2 else (if oob p2 10 then none else (if oob p2 10 then none else J_X9_reckonLetter_39 (upd w_masks (((p1 * (10 : Int32)) + p2)).toNatClampNeg o2) w_alike (upd w_havers (p2).toNatClampNeg ((w_havers (p2).toNatClampNeg) ||| ((1 : Int32) <<< (p1 &&& 31)))) p1 p2 o2))))))
set_option maxHeartbeats 4000000 in
set_option maxRecDepth 100000 in
theorem B_X9_reckonLetter_47_W {w_size : Int32} {w_codes : (Nat → Int32)} {w_masks : (Nat → Int32)} {w_alike : (Nat → Int32)} {w_havers : (Nat → Int32)} {x1 : Int32} {x2 : Int32} {x3 : Int32} {x4 : Int32} {x5 : Int32} (CF : CallFix p m c cX9_reckonLetter 6 s args wsAll RX9) (hG : Gd D cI cB cT s) (hA : ∀ q : Nat, s.heap.size ≤ q → A q) {z : (Int32 × Int32 × (Nat → Int32)) ⊕ (Int32 × (Nat → Int32))} {H : Heap} {locs : List Loc} (hk : ∀ (v' : Int32 × Int32 × (Nat → Int32)) (H : Heap) (locs : List Loc) (ls : Array Slot), z = Sum.inl v' → va_P D vwCl (wd_w a_w a_w_codes a_w_masks a_w_alike a_w_havers cI cB cT w_size w_codes w_masks (v'.2.2) w_havers) H → va_D A (wd_w a_w a_w_codes a_w_masks a_w_alike a_w_havers cI cB cT w_size w_codes w_masks (v'.2.2) w_havers) → va_S A s.heap H locs → lv_has ls 6 [(0, .ref a_w), (1, .int x1), (2, .int x2), (3, .int x3), (4, .int (v'.1)), (5, .int (v'.2.1))] → W p l e rm_X9_reckonLetter s m args below meth c H locs 0 0 Q (F0 m 47 ls [])) (hx0 : ∀ (o' : Int32 × (Nat → Int32)) (H : Heap) (locs : List Loc) (ls : Array Slot), z = Sum.inr o' → va_P D vwCl (wd_w a_w a_w_codes a_w_masks a_w_alike a_w_havers cI cB cT w_size w_codes w_masks (o'.2) w_havers) H → va_D A (wd_w a_w a_w_codes a_w_masks a_w_alike a_w_havers cI cB cT w_size w_codes w_masks (o'.2) w_havers) → va_S A s.heap H locs → lv_has ls 6 [(0, .ref a_w), (1, .int x1), (2, .int x2), (4, .int (o'.1))] → W p l e rm_X9_reckonLetter s m args below meth c H locs 0 0 Q (F0 m 102 ls [])) {ls : Array Slot} (hP : va_P D vwCl (wd_w a_w a_w_codes a_w_masks a_w_alike a_w_havers cI cB cT w_size w_codes w_masks w_alike w_havers) H) (hD : va_D A (wd_w a_w a_w_codes a_w_masks a_w_alike a_w_havers cI cB cT w_size w_codes w_masks w_alike w_havers)) (hS : va_S A s.heap H locs) (hl : lv_has ls 6 [(0, .ref a_w), (1, .int x1), (2, .int x2), (3, .int x3), (4, .int x4), (5, .int x5)]) (hf : B_X9_reckonLetter_47 w_masks x1 x2 x3 x4 x5 w_alike = some z) : W p l e rm_X9_reckonLetter s m args below meth c H locs 0 0 Q (F0 m 47 ls []) := by
  obtain ⟨hx, hb, hml, hown, hts⟩ := id CF
  unfold B_X9_reckonLetter_47 at hf
  refine lv_iload hx hb dX9_reckonLetter_47 (lv_at hl 5 rfl) ?_
  refine lv_iload_n hx hb dX9_reckonLetter_49 rfl (lv_at hl 1 rfl) ?_
  refine lv_icmp_ge (tgt := 102) hx hb dX9_reckonLetter_50 (by decide) (fun c6 => ?_) (fun c6 => ?_)
  · have hf := tk c6 hf
    exact hx0 _ _ _ _ (Option.some.inj hf).symm hP hD hS (lv_sub hl [0, 1, 2, 4] rfl)
  · have hf := fk c6 hf
    refine lv_aload_n hx hb dX9_reckonLetter_53 rfl (lv_at hl 0 rfl) ?_
    refine va_get (D := D) (ci := 7) (v := .ref a_w_masks) (C := RX9) (T := TX9) (N := 5) hx hb hts fin_X9 hown hG.1 hP 0 ce_w_0 vq_7 2 (by decide) (hts _ wm_128) (fun _ h9 => h9) rfl dX9_reckonLetter_54 ?_
    refine lv_iload hx hb dX9_reckonLetter_57 (lv_at hl 5 rfl) ?_
    refine lv_bipush (v := (10 : Int32)) hx hb dX9_reckonLetter_59 (by decide) ?_
    refine lv_imul hx hb dX9_reckonLetter_61 ?_
    refine lv_iload_n hx hb dX9_reckonLetter_62 rfl (lv_at hl 2 rfl) ?_
    refine lv_iadd hx hb dX9_reckonLetter_63 ?_
    obtain ⟨n7, hf⟩ := nk hf
    refine va_iald (f := w_masks) hx hb hG.1 hP 2 0 ce_w_2 rfl n7 dX9_reckonLetter_64 ?_
    refine lv_iload_n hx hb dX9_reckonLetter_65 rfl (lv_at hl 3 rfl) ?_
    refine lv_icmp_ne (tgt := 96) hx hb dX9_reckonLetter_66 (by decide) (fun c8 => ?_) (fun c8 => ?_)
    · have hf := fk c8 hf
      refine lv_iinc (v := (x5 + (1 : Int32))) (lv' := [(5, .int (x5 + (1 : Int32))), (0, .ref a_w), (1, .int x1), (2, .int x2), (3, .int x3), (4, .int x4)]) hx hb dX9_reckonLetter_96 hl (k := 5) rfl (iinc_eq (by decide)) (by decide) rfl (fun ls hl => ?_)
      refine lv_goto (tgt := 47) hx hb dX9_reckonLetter_99 (by decide) ?_
      exact hk _ _ _ _ (Option.some.inj hf).symm hP hD hS (lv_sub hl [1, 2, 3, 4, 5, 0] rfl)
    · have hf := tk c8 hf
      refine lv_aload_n hx hb dX9_reckonLetter_69 rfl (lv_at hl 0 rfl) ?_
      refine va_get (D := D) (ci := 7) (v := .ref a_w_alike) (C := RX9) (T := TX9) (N := 5) hx hb hts fin_X9 hown hG.1 hP 0 ce_w_0 vq_7 3 (by decide) (hts _ wm_129) (fun _ h9 => h9) rfl dX9_reckonLetter_70 ?_
      refine lv_iload hx hb dX9_reckonLetter_73 (lv_at hl 5 rfl) ?_
      refine lv_bipush (v := (10 : Int32)) hx hb dX9_reckonLetter_75 (by decide) ?_
      refine lv_imul hx hb dX9_reckonLetter_77 ?_
      refine lv_iload_n hx hb dX9_reckonLetter_78 rfl (lv_at hl 2 rfl) ?_
      refine lv_iadd hx hb dX9_reckonLetter_79 ?_
      refine lv_dup2_11 hx hb dX9_reckonLetter_80 rfl rfl ?_
      obtain ⟨n9, hf⟩ := nk hf
      refine va_iald (f := w_alike) hx hb hG.1 hP 3 0 ce_w_3 rfl n9 dX9_reckonLetter_81 ?_
      refine lv_iconst (v := (1 : Int32)) hx hb dX9_reckonLetter_82 (by decide) ?_
      refine lv_iload_n hx hb dX9_reckonLetter_83 rfl (lv_at hl 1 rfl) ?_
      refine lv_ishl hx hb dX9_reckonLetter_84 ?_
      refine lv_ior hx hb dX9_reckonLetter_85 ?_
      obtain ⟨n10, hf⟩ := nk hf
      refine va_iast (f := w_alike) hx hb hG.1 hP hD hS 3 0 ce_w_3 rfl n10 dX9_reckonLetter_86 (fun H locs hP _ hS => ?_)
      have hP : va_P D vwCl (wd_w a_w a_w_codes a_w_masks a_w_alike a_w_havers cI cB cT w_size w_codes w_masks (upd w_alike (((x5 * (10 : Int32)) + x2)).toNatClampNeg ((w_alike (((x5 * (10 : Int32)) + x2)).toNatClampNeg) ||| ((1 : Int32) <<< (x1 &&& 31)))) w_havers) H := va_P_eq se_w_w_alike hP
      have hD : va_D A (wd_w a_w a_w_codes a_w_masks a_w_alike a_w_havers cI cB cT w_size w_codes w_masks (upd w_alike (((x5 * (10 : Int32)) + x2)).toNatClampNeg ((w_alike (((x5 * (10 : Int32)) + x2)).toNatClampNeg) ||| ((1 : Int32) <<< (x1 &&& 31)))) w_havers) := va_D_fst fs_w hD
      refine lv_iload hx hb dX9_reckonLetter_87 (lv_at hl 4 rfl) ?_
      refine lv_iconst (v := (1 : Int32)) hx hb dX9_reckonLetter_89 (by decide) ?_
      refine lv_iload hx hb dX9_reckonLetter_90 (lv_at hl 5 rfl) ?_
      refine lv_ishl hx hb dX9_reckonLetter_92 ?_
      refine lv_ior hx hb dX9_reckonLetter_93 ?_
      refine lv_istore (lv' := [(4, .int (x4 ||| ((1 : Int32) <<< (x5 &&& 31)))), (0, .ref a_w), (1, .int x1), (2, .int x2), (3, .int x3), (5, .int x5)]) hx hb dX9_reckonLetter_94 hl (by decide) rfl (fun ls hl => ?_)
      refine lv_iinc (v := (x5 + (1 : Int32))) (lv' := [(5, .int (x5 + (1 : Int32))), (4, .int (x4 ||| ((1 : Int32) <<< (x5 &&& 31)))), (0, .ref a_w), (1, .int x1), (2, .int x2), (3, .int x3)]) hx hb dX9_reckonLetter_96 hl (k := 5) rfl (iinc_eq (by decide)) (by decide) rfl (fun ls hl => ?_)
      refine lv_goto (tgt := 47) hx hb dX9_reckonLetter_99 (by decide) ?_
      exact hk _ _ _ _ (Option.some.inj hf).symm hP hD hS (lv_sub hl [2, 3, 4, 5, 1, 0] rfl)
set_option maxHeartbeats 4000000 in
set_option maxRecDepth 100000 in
theorem L_X9_reckonLetter_47_W {w_size : Int32} {w_codes : (Nat → Int32)} {w_masks : (Nat → Int32)} {w_havers : (Nat → Int32)} {x1 : Int32} {x2 : Int32} {x3 : Int32} (CF : CallFix p m c cX9_reckonLetter 6 s args wsAll RX9) (hG : Gd D cI cB cT s) (hA : ∀ q : Nat, s.heap.size ≤ q → A q) {o : Int32 × (Nat → Int32)} (hx0 : ∀ (H : Heap) (locs : List Loc) (ls : Array Slot), va_P D vwCl (wd_w a_w a_w_codes a_w_masks a_w_alike a_w_havers cI cB cT w_size w_codes w_masks o.2 w_havers) H → va_D A (wd_w a_w a_w_codes a_w_masks a_w_alike a_w_havers cI cB cT w_size w_codes w_masks o.2 w_havers) → va_S A s.heap H locs → lv_has ls 6 [(0, .ref a_w), (1, .int x1), (2, .int x2), (4, .int o.1)] → W p l e rm_X9_reckonLetter s m args below meth c H locs 0 0 Q (F0 m 102 ls [])) : ∀ (n : Nat) (x4 : Int32) (x5 : Int32) (w_alike : (Nat → Int32)) (H : Heap) (locs : List Loc) (ls : Array Slot), va_P D vwCl (wd_w a_w a_w_codes a_w_masks a_w_alike a_w_havers cI cB cT w_size w_codes w_masks w_alike w_havers) H → va_D A (wd_w a_w a_w_codes a_w_masks a_w_alike a_w_havers cI cB cT w_size w_codes w_masks w_alike w_havers) → va_S A s.heap H locs → lv_has ls 6 [(0, .ref a_w), (1, .int x1), (2, .int x2), (3, .int x3), (4, .int x4), (5, .int x5)] → lp (fun v => B_X9_reckonLetter_47 w_masks x1 x2 x3 v.1 v.2.1 v.2.2) n (x4, x5, w_alike) = some o → W p l e rm_X9_reckonLetter s m args below meth c H locs 0 0 Q (F0 m 47 ls []) := by
  intro n
  induction n with
  | zero =>
    intro x4 x5 w_alike H locs ls hP hD hS hl hf
    exact (lp_zero hf).elim
  | succ n ih =>
    intro x4 x5 w_alike H locs ls hP hD hS hl hf
    obtain ⟨z, hz, hf⟩ := lp_succ hf
    refine B_X9_reckonLetter_47_W CF hG hA ?_ ?_ hP hD hS hl hz
    · intro v' H locs ls ez hP hD hS hl
      rcases hf with ⟨v2, ev, hf⟩ | ev
      · cases Sum.inl.inj (ez.symm.trans ev)
        exact ih v'.1 v'.2.1 v'.2.2 H locs ls hP hD hS hl hf
      · exact (lp_lr (ez.symm.trans ev)).elim
    · intro o' H locs ls ez hP hD hS hl
      rcases hf with ⟨v2, ev, hf⟩ | ev
      · exact (lp_lr (ev.symm.trans ez)).elim
      · cases Sum.inr.inj (ez.symm.trans ev)
        exact hx0 H locs ls hP hD hS hl
set_option maxHeartbeats 4000000 in
set_option maxRecDepth 100000 in
theorem J_X9_reckonLetter_39_W {w_size : Int32} {w_codes : (Nat → Int32)} {w_masks : (Nat → Int32)} {w_alike : (Nat → Int32)} {w_havers : (Nat → Int32)} {x1 : Int32} {x2 : Int32} {x3 : Int32} (CF : CallFix p m c cX9_reckonLetter 6 s args wsAll RX9) (hG : Gd D cI cB cT s) (hA : ∀ q : Nat, s.heap.size ≤ q → A q) {z : (Nat → Int32) × (Nat → Int32) × (Nat → Int32)} {H : Heap} {locs : List Loc} (hr : meth.sig.returnType = none) (hlk : meth.locks = false) {ls : Array Slot} (hP : va_P D vwCl (wd_w a_w a_w_codes a_w_masks a_w_alike a_w_havers cI cB cT w_size w_codes w_masks w_alike w_havers) H) (hD : va_D A (wd_w a_w a_w_codes a_w_masks a_w_alike a_w_havers cI cB cT w_size w_codes w_masks w_alike w_havers)) (hS : va_S A s.heap H locs) (hl : lv_has ls 6 [(0, .ref a_w), (1, .int x1), (2, .int x2), (3, .int x3)]) (hf : J_X9_reckonLetter_39 w_masks w_alike w_havers x1 x2 x3 = some z) : W p l e rm_X9_reckonLetter s m args below meth c H locs 0 0 (MQ below (Qw none D (wd_w a_w a_w_codes a_w_masks a_w_alike a_w_havers cI cB cT w_size w_codes z.1 z.2.1 z.2.2) A) args s 0 0 A) (F0 m 39 ls []) := by
  obtain ⟨hx, hb, hml, hown, hts⟩ := id CF
  unfold J_X9_reckonLetter_39 at hf
  refine lv_iconst (v := (1 : Int32)) hx hb dX9_reckonLetter_39 (by decide) ?_
  refine lv_iload_n hx hb dX9_reckonLetter_40 rfl (lv_at hl 1 rfl) ?_
  refine lv_ishl hx hb dX9_reckonLetter_41 ?_
  refine lv_istore (lv' := [(4, .int ((1 : Int32) <<< (x1 &&& 31))), (0, .ref a_w), (1, .int x1), (2, .int x2), (3, .int x3)]) hx hb dX9_reckonLetter_42 hl (by decide) rfl (fun ls hl => ?_)
  refine lv_iconst (v := (0 : Int32)) hx hb dX9_reckonLetter_44 (by decide) ?_
  refine lv_istore (lv' := [(5, .int (0 : Int32)), (4, .int ((1 : Int32) <<< (x1 &&& 31))), (0, .ref a_w), (1, .int x1), (2, .int x2), (3, .int x3)]) hx hb dX9_reckonLetter_45 hl (by decide) rfl (fun ls hl => ?_)
  obtain ⟨o11, e12, hf⟩ := lp_bind hf
  refine L_X9_reckonLetter_47_W CF hG hA ?_ KN _ _ _ _ _ _ hP hD hS (lv_sub hl [2, 3, 4, 5, 1, 0] rfl) e12
  intro H locs ls hP hD hS hl
  refine lv_aload_n hx hb dX9_reckonLetter_102 rfl (lv_at hl 0 rfl) ?_
  refine va_get (D := D) (ci := 7) (v := .ref a_w_alike) (C := RX9) (T := TX9) (N := 5) hx hb hts fin_X9 hown hG.1 hP 0 ce_w_0 vq_7 3 (by decide) (hts _ wm_129) (fun _ h9 => h9) rfl dX9_reckonLetter_103 ?_
  refine lv_iload_n hx hb dX9_reckonLetter_106 rfl (lv_at hl 1 rfl) ?_
  refine lv_bipush (v := (10 : Int32)) hx hb dX9_reckonLetter_107 (by decide) ?_
  refine lv_imul hx hb dX9_reckonLetter_109 ?_
  refine lv_iload_n hx hb dX9_reckonLetter_110 rfl (lv_at hl 2 rfl) ?_
  refine lv_iadd hx hb dX9_reckonLetter_111 ?_
  refine lv_iload hx hb dX9_reckonLetter_112 (lv_at hl 3 rfl) ?_
  obtain ⟨n13, hf⟩ := nk hf
  refine va_iast (f := o11.2) hx hb hG.1 hP hD hS 3 0 ce_w_3 rfl n13 dX9_reckonLetter_114 (fun H locs hP _ hS => ?_)
  have hP : va_P D vwCl (wd_w a_w a_w_codes a_w_masks a_w_alike a_w_havers cI cB cT w_size w_codes w_masks (upd o11.2 (((x1 * (10 : Int32)) + x2)).toNatClampNeg o11.1) w_havers) H := va_P_eq se_w_w_alike hP
  have hD : va_D A (wd_w a_w a_w_codes a_w_masks a_w_alike a_w_havers cI cB cT w_size w_codes w_masks (upd o11.2 (((x1 * (10 : Int32)) + x2)).toNatClampNeg o11.1) w_havers) := va_D_fst fs_w hD
  obtain rfl := Option.some.inj hf
  exact wr_vret CF hr hlk hP hS dX9_reckonLetter_115
set_option maxHeartbeats 4000000 in
set_option maxRecDepth 100000 in
theorem c_X9_reckonLetter (l : Launch) (D : va_G) (cI cB cT : ClassId) (sz : Nat) (a_w a_w_codes a_w_masks a_w_alike a_w_havers : Nat) (w_size : Int32) (w_codes : (Nat → Int32)) (w_masks : (Nat → Int32)) (w_alike : (Nat → Int32)) (w_havers : (Nat → Int32)) (p1 : Int32) (p2 : Int32) {z : (Nat → Int32) × (Nat → Int32) × (Nat → Int32)} (hf : f_X9_reckonLetter w_codes w_masks w_alike w_havers p1 p2 = some z) :
    Met l yX9_reckonLetter (Cond.code yX9_reckonLetter cX9_reckonLetter 6 none :: wsAll) rm_X9_reckonLetter (Pwr [.ref a_w, .int p1, .int p2] D cI cB cT (wd_w a_w a_w_codes a_w_masks a_w_alike a_w_havers cI cB cT w_size w_codes w_masks w_alike w_havers) sz) (Qw none D (wd_w a_w a_w_codes a_w_masks a_w_alike a_w_havers cI cB cT w_size w_codes z.1 z.2.1 z.2.2) (va_A (wd_w a_w a_w_codes a_w_masks a_w_alike a_w_havers cI cB cT w_size w_codes w_masks w_alike w_havers) sz)) 0 0 (va_A (wd_w a_w a_w_codes a_w_masks a_w_alike a_w_havers cI cB cT w_size w_codes w_masks w_alike w_havers) sz) := by
  refine wr_intro RX9 (by decide +kernel) rfl (Nat.le_of_ble_eq_true rfl) ?_
  intro p e s m below meth c ls A H locs CF hr hlk hG hP hD hS hA hl
  have hl : lv_has ls 6 [(0, .ref a_w), (1, .int p1), (2, .int p2)] := hl
  obtain ⟨hx, hb, hml, hown, hts⟩ := id CF
  unfold f_X9_reckonLetter at hf
  refine lv_aload_n hx hb dX9_reckonLetter_0 rfl (lv_at hl 0 rfl) ?_
  refine va_get (D := D) (ci := 7) (v := .ref a_w_codes) (C := RX9) (T := TX9) (N := 5) hx hb hts fin_X9 hown hG.1 hP 0 ce_w_0 vq_7 1 (by decide) (hts _ wm_127) (fun _ h9 => h9) rfl dX9_reckonLetter_1 ?_
  refine lv_iload_n hx hb dX9_reckonLetter_4 rfl (lv_at hl 1 rfl) ?_
  obtain ⟨n1, hf⟩ := nk hf
  refine va_iald (f := w_codes) hx hb hG.1 hP 1 0 ce_w_1 rfl n1 dX9_reckonLetter_5 ?_
  refine lv_iload_n hx hb dX9_reckonLetter_6 rfl (lv_at hl 2 rfl) ?_
  obtain ⟨o2, e3, hf⟩ := lp_bind hf
  refine ro_Si (x := o2) (As := [.int (w_codes (p1).toNatClampNeg), .int p2]) (rest := []) CF (c_X9_reckonMask l D cI cB cT (w_codes (p1).toNatClampNeg) p2 e3) ok_X9_reckonMask wm_381 ⟨rfl, rfl, Nat.le_of_ble_eq_true rfl, Nat.le_of_ble_eq_true rfl⟩ hG wd_E_P rfl hl.1 rfl (Nat.le_of_ble_eq_true rfl) ⟨Nat.zero_le _, Nat.zero_le _⟩ dX9_reckonLetter_7 ?_
  refine lv_istore_n (lv' := [(3, .int o2), (0, .ref a_w), (1, .int p1), (2, .int p2)]) hx hb dX9_reckonLetter_10 rfl hl (by decide) rfl (fun ls hl => ?_)
  refine lv_aload_n hx hb dX9_reckonLetter_11 rfl (lv_at hl 1 rfl) ?_
  refine va_get (D := D) (ci := 7) (v := .ref a_w_masks) (C := RX9) (T := TX9) (N := 5) hx hb hts fin_X9 hown hG.1 hP 0 ce_w_0 vq_7 2 (by decide) (hts _ wm_128) (fun _ h9 => h9) rfl dX9_reckonLetter_12 ?_
  refine lv_iload_n hx hb dX9_reckonLetter_15 rfl (lv_at hl 2 rfl) ?_
  refine lv_bipush (v := (10 : Int32)) hx hb dX9_reckonLetter_16 (by decide) ?_
  refine lv_imul hx hb dX9_reckonLetter_18 ?_
  refine lv_iload_n hx hb dX9_reckonLetter_19 rfl (lv_at hl 3 rfl) ?_
  refine lv_iadd hx hb dX9_reckonLetter_20 ?_
  refine lv_iload_n hx hb dX9_reckonLetter_21 rfl (lv_at hl 0 rfl) ?_
  obtain ⟨n4, hf⟩ := nk hf
  refine va_iast (f := w_masks) hx hb hG.1 hP hD hS 2 0 ce_w_2 rfl n4 dX9_reckonLetter_22 (fun H locs hP _ hS => ?_)
  have hP : va_P D vwCl (wd_w a_w a_w_codes a_w_masks a_w_alike a_w_havers cI cB cT w_size w_codes (upd w_masks (((p1 * (10 : Int32)) + p2)).toNatClampNeg o2) w_alike w_havers) H := va_P_eq se_w_w_masks hP
  have hD : va_D A (wd_w a_w a_w_codes a_w_masks a_w_alike a_w_havers cI cB cT w_size w_codes (upd w_masks (((p1 * (10 : Int32)) + p2)).toNatClampNeg o2) w_alike w_havers) := va_D_fst fs_w hD
  refine lv_iload_n hx hb dX9_reckonLetter_23 rfl (lv_at hl 0 rfl) ?_
  refine lv_if_eq (tgt := 39) hx hb dX9_reckonLetter_24 (by decide) (fun c5 => ?_) (fun c5 => ?_)
  · have hf := tk c5 hf
    exact J_X9_reckonLetter_39_W CF hG hA hr hlk hP hD hS (lv_sub hl [1, 2, 3, 0] rfl) hf
  · have hf := fk c5 hf
    refine lv_aload_n hx hb dX9_reckonLetter_27 rfl (lv_at hl 1 rfl) ?_
    refine va_get (D := D) (ci := 7) (v := .ref a_w_havers) (C := RX9) (T := TX9) (N := 5) hx hb hts fin_X9 hown hG.1 hP 0 ce_w_0 vq_7 4 (by decide) (hts _ wm_130) (fun _ h9 => h9) rfl dX9_reckonLetter_28 ?_
    refine lv_iload_n hx hb dX9_reckonLetter_31 rfl (lv_at hl 3 rfl) ?_
    refine lv_dup2_11 hx hb dX9_reckonLetter_32 rfl rfl ?_
    obtain ⟨n14, hf⟩ := nk hf
    refine va_iald (f := w_havers) hx hb hG.1 hP 4 0 ce_w_4 rfl n14 dX9_reckonLetter_33 ?_
    refine lv_iconst (v := (1 : Int32)) hx hb dX9_reckonLetter_34 (by decide) ?_
    refine lv_iload_n hx hb dX9_reckonLetter_35 rfl (lv_at hl 2 rfl) ?_
    refine lv_ishl hx hb dX9_reckonLetter_36 ?_
    refine lv_ior hx hb dX9_reckonLetter_37 ?_
    obtain ⟨n15, hf⟩ := nk hf
    refine va_iast (f := w_havers) hx hb hG.1 hP hD hS 4 0 ce_w_4 rfl n15 dX9_reckonLetter_38 (fun H locs hP _ hS => ?_)
    have hP : va_P D vwCl (wd_w a_w a_w_codes a_w_masks a_w_alike a_w_havers cI cB cT w_size w_codes (upd w_masks (((p1 * (10 : Int32)) + p2)).toNatClampNeg o2) w_alike (upd w_havers (p2).toNatClampNeg ((w_havers (p2).toNatClampNeg) ||| ((1 : Int32) <<< (p1 &&& 31))))) H := va_P_eq se_w_w_havers hP
    have hD : va_D A (wd_w a_w a_w_codes a_w_masks a_w_alike a_w_havers cI cB cT w_size w_codes (upd w_masks (((p1 * (10 : Int32)) + p2)).toNatClampNeg o2) w_alike (upd w_havers (p2).toNatClampNeg ((w_havers (p2).toNatClampNeg) ||| ((1 : Int32) <<< (p1 &&& 31))))) := va_D_fst fs_w hD
    exact J_X9_reckonLetter_39_W CF hG hA hr hlk hP hD hS (lv_sub hl [1, 2, 3, 0] rfl) hf
end M_X9_reckonLetter
section M_X9_add
variable {p : Program} {l : Launch} {e : Env} {s : State} {m : MethodId} {args : Array Value} {below : List Frame} {meth : Method} {c : Code} {Q : State → Prop} {A : Nat → Prop} {D : va_G} {cI cB cT : ClassId}
variable {a_w a_w_codes a_w_masks a_w_alike a_w_havers : Nat}
def rm_X9_add : Room := { frames := 2, cells := 0, slots := 0, locals := 49 }
def B_X9_add_31 (w_size : Int32) (w_codes : (Nat → Int32)) (x2 : Int32) (w_masks : (Nat → Int32)) (w_alike : (Nat → Int32)) (w_havers : (Nat → Int32)) : Option ((Int32 × (Nat → Int32) × (Nat → Int32) × (Nat → Int32)) ⊕ ((Nat → Int32) × (Nat → Int32) × (Nat → Int32))) := (if (10 : Int32) ≤ x2 then some (Sum.inr (w_masks, w_alike, w_havers)) else ((f_X9_reckonLetter w_codes w_masks w_alike w_havers (w_size - (1 : Int32)) x2).bind fun o4 => some (Sum.inl ((x2 + (1 : Int32)), o4.1, o4.2.1, o4.2.2))))
def f_X9_add (w_size : Int32) (w_codes : (Nat → Int32)) (w_masks : (Nat → Int32)) (w_alike : (Nat → Int32)) (w_havers : (Nat → Int32)) (p1 : Int32) : Option (Int32 × (Nat → Int32) × (Nat → Int32) × (Nat → Int32) × (Nat → Int32)) := (if (8 : Int32) ≤ w_size then some (w_size, w_codes, w_masks, w_alike, w_havers) else (if oob w_size 8 then none else ((lp (fun v => B_X9_add_31 (w_size + (1 : Int32)) (upd w_codes (w_size).toNatClampNeg p1) v.1 v.2.1 v.2.2.1 v.2.2.2) KN ((0 : Int32), w_masks, w_alike, w_havers)).bind fun o6 => some ((w_size + (1 : Int32)), (upd w_codes (w_size).toNatClampNeg p1), o6.1, o6.2.1, o6.2.2))))
set_option maxHeartbeats 4000000 in
set_option maxRecDepth 100000 in
theorem B_X9_add_31_W {w_size : Int32} {w_codes : (Nat → Int32)} {w_masks : (Nat → Int32)} {w_alike : (Nat → Int32)} {w_havers : (Nat → Int32)} {x2 : Int32} (CF : CallFix p m c cX9_add 3 s args wsAll RX9) (hG : Gd D cI cB cT s) (hA : ∀ q : Nat, s.heap.size ≤ q → A q) {z : (Int32 × (Nat → Int32) × (Nat → Int32) × (Nat → Int32)) ⊕ ((Nat → Int32) × (Nat → Int32) × (Nat → Int32))} {H : Heap} {locs : List Loc} (hk : ∀ (v' : Int32 × (Nat → Int32) × (Nat → Int32) × (Nat → Int32)) (H : Heap) (locs : List Loc) (ls : Array Slot), z = Sum.inl v' → va_P D vwCl (wd_w a_w a_w_codes a_w_masks a_w_alike a_w_havers cI cB cT w_size w_codes (v'.2.1) (v'.2.2.1) (v'.2.2.2)) H → va_D A (wd_w a_w a_w_codes a_w_masks a_w_alike a_w_havers cI cB cT w_size w_codes (v'.2.1) (v'.2.2.1) (v'.2.2.2)) → va_S A s.heap H locs → lv_has ls 3 [(0, .ref a_w), (2, .int (v'.1))] → W p l e rm_X9_add s m args below meth c H locs 0 0 Q (F0 m 31 ls [])) (hx0 : ∀ (o' : (Nat → Int32) × (Nat → Int32) × (Nat → Int32)) (H : Heap) (locs : List Loc) (ls : Array Slot), z = Sum.inr o' → va_P D vwCl (wd_w a_w a_w_codes a_w_masks a_w_alike a_w_havers cI cB cT w_size w_codes (o'.1) (o'.2.1) (o'.2.2)) H → va_D A (wd_w a_w a_w_codes a_w_masks a_w_alike a_w_havers cI cB cT w_size w_codes (o'.1) (o'.2.1) (o'.2.2)) → va_S A s.heap H locs → lv_has ls 3 [] → W p l e rm_X9_add s m args below meth c H locs 0 0 Q (F0 m 54 ls [])) {ls : Array Slot} (hP : va_P D vwCl (wd_w a_w a_w_codes a_w_masks a_w_alike a_w_havers cI cB cT w_size w_codes w_masks w_alike w_havers) H) (hD : va_D A (wd_w a_w a_w_codes a_w_masks a_w_alike a_w_havers cI cB cT w_size w_codes w_masks w_alike w_havers)) (hS : va_S A s.heap H locs) (hl : lv_has ls 3 [(0, .ref a_w), (2, .int x2)]) (hf : B_X9_add_31 w_size w_codes x2 w_masks w_alike w_havers = some z) : W p l e rm_X9_add s m args below meth c H locs 0 0 Q (F0 m 31 ls []) := by
  obtain ⟨hx, hb, hml, hown, hts⟩ := id CF
  unfold B_X9_add_31 at hf
  refine lv_iload_n hx hb dX9_add_31 rfl (lv_at hl 1 rfl) ?_
  refine lv_bipush (v := (10 : Int32)) hx hb dX9_add_32 (by decide) ?_
  refine lv_icmp_ge (tgt := 54) hx hb dX9_add_34 (by decide) (fun c3 => ?_) (fun c3 => ?_)
  · have hf := tk c3 hf
    exact hx0 _ _ _ _ (Option.some.inj hf).symm hP hD hS (lv_sub hl [] rfl)
  · have hf := fk c3 hf
    refine lv_aload_n hx hb dX9_add_37 rfl (lv_at hl 0 rfl) ?_
    refine lv_aload_n hx hb dX9_add_38 rfl (lv_at hl 0 rfl) ?_
    refine va_get (D := D) (ci := 7) (v := .int w_size) (C := RX9) (T := TX9) (N := 5) hx hb hts fin_X9 hown hG.1 hP 0 ce_w_0 vq_7 0 (by decide) (hts _ wm_123) (fun _ h9 => h9) rfl dX9_add_39 ?_
    refine lv_iconst (v := (1 : Int32)) hx hb dX9_add_42 (by decide) ?_
    refine lv_isub hx hb dX9_add_43 ?_
    refine lv_iload_n hx hb dX9_add_44 rfl (lv_at hl 1 rfl) ?_
    obtain ⟨o4, e5, hf⟩ := lp_bind hf
    refine wr_Wv (ws' := (wd_w a_w a_w_codes a_w_masks a_w_alike a_w_havers cI cB cT w_size w_codes o4.1 o4.2.1 o4.2.2)) (As := [.int (w_size - (1 : Int32)), .int x2]) (rest := []) CF (c_X9_reckonLetter l D cI cB cT H.size a_w a_w_codes a_w_masks a_w_alike a_w_havers w_size w_codes w_masks w_alike w_havers (w_size - (1 : Int32)) x2 e5) ok_X9_reckonLetter wm_377 ⟨rfl, rfl, Nat.le_of_ble_eq_true rfl, Nat.le_of_ble_eq_true rfl⟩ hG hP hD hS hA fs_w 0 7 vq_7 rfl ce_w_0 rfl hl.1 rfl (Nat.le_of_ble_eq_true rfl) ⟨Nat.zero_le _, Nat.zero_le _⟩ dX9_add_45 (fun H locs hP hD hS => ?_)
    refine lv_iinc (v := (x2 + (1 : Int32))) (lv' := [(2, .int (x2 + (1 : Int32))), (0, .ref a_w)]) hx hb dX9_add_48 hl (k := 1) rfl (iinc_eq (by decide)) (by decide) rfl (fun ls hl => ?_)
    refine lv_goto (tgt := 31) hx hb dX9_add_51 (by decide) ?_
    exact hk _ _ _ _ (Option.some.inj hf).symm hP hD hS (lv_sub hl [1, 0] rfl)
set_option maxHeartbeats 4000000 in
set_option maxRecDepth 100000 in
theorem L_X9_add_31_W {w_size : Int32} {w_codes : (Nat → Int32)} (CF : CallFix p m c cX9_add 3 s args wsAll RX9) (hG : Gd D cI cB cT s) (hA : ∀ q : Nat, s.heap.size ≤ q → A q) {o : (Nat → Int32) × (Nat → Int32) × (Nat → Int32)} (hx0 : ∀ (H : Heap) (locs : List Loc) (ls : Array Slot), va_P D vwCl (wd_w a_w a_w_codes a_w_masks a_w_alike a_w_havers cI cB cT w_size w_codes o.1 o.2.1 o.2.2) H → va_D A (wd_w a_w a_w_codes a_w_masks a_w_alike a_w_havers cI cB cT w_size w_codes o.1 o.2.1 o.2.2) → va_S A s.heap H locs → lv_has ls 3 [] → W p l e rm_X9_add s m args below meth c H locs 0 0 Q (F0 m 54 ls [])) : ∀ (n : Nat) (x2 : Int32) (w_masks : (Nat → Int32)) (w_alike : (Nat → Int32)) (w_havers : (Nat → Int32)) (H : Heap) (locs : List Loc) (ls : Array Slot), va_P D vwCl (wd_w a_w a_w_codes a_w_masks a_w_alike a_w_havers cI cB cT w_size w_codes w_masks w_alike w_havers) H → va_D A (wd_w a_w a_w_codes a_w_masks a_w_alike a_w_havers cI cB cT w_size w_codes w_masks w_alike w_havers) → va_S A s.heap H locs → lv_has ls 3 [(0, .ref a_w), (2, .int x2)] → lp (fun v => B_X9_add_31 w_size w_codes v.1 v.2.1 v.2.2.1 v.2.2.2) n (x2, w_masks, w_alike, w_havers) = some o → W p l e rm_X9_add s m args below meth c H locs 0 0 Q (F0 m 31 ls []) := by
  intro n
  induction n with
  | zero =>
    intro x2 w_masks w_alike w_havers H locs ls hP hD hS hl hf
    exact (lp_zero hf).elim
  | succ n ih =>
    intro x2 w_masks w_alike w_havers H locs ls hP hD hS hl hf
    obtain ⟨z, hz, hf⟩ := lp_succ hf
    refine B_X9_add_31_W CF hG hA ?_ ?_ hP hD hS hl hz
    · intro v' H locs ls ez hP hD hS hl
      rcases hf with ⟨v2, ev, hf⟩ | ev
      · cases Sum.inl.inj (ez.symm.trans ev)
        exact ih v'.1 v'.2.1 v'.2.2.1 v'.2.2.2 H locs ls hP hD hS hl hf
      · exact (lp_lr (ez.symm.trans ev)).elim
    · intro o' H locs ls ez hP hD hS hl
      rcases hf with ⟨v2, ev, hf⟩ | ev
      · exact (lp_lr (ev.symm.trans ez)).elim
      · cases Sum.inr.inj (ez.symm.trans ev)
        exact hx0 H locs ls hP hD hS hl
set_option maxHeartbeats 4000000 in
set_option maxRecDepth 100000 in
theorem c_X9_add (l : Launch) (D : va_G) (cI cB cT : ClassId) (sz : Nat) (a_w a_w_codes a_w_masks a_w_alike a_w_havers : Nat) (w_size : Int32) (w_codes : (Nat → Int32)) (w_masks : (Nat → Int32)) (w_alike : (Nat → Int32)) (w_havers : (Nat → Int32)) (p1 : Int32) {z : Int32 × (Nat → Int32) × (Nat → Int32) × (Nat → Int32) × (Nat → Int32)} (hf : f_X9_add w_size w_codes w_masks w_alike w_havers p1 = some z) :
    Met l yX9_add (Cond.code yX9_add cX9_add 3 none :: wsAll) rm_X9_add (Pwr [.ref a_w, .int p1] D cI cB cT (wd_w a_w a_w_codes a_w_masks a_w_alike a_w_havers cI cB cT w_size w_codes w_masks w_alike w_havers) sz) (Qw none D (wd_w a_w a_w_codes a_w_masks a_w_alike a_w_havers cI cB cT z.1 z.2.1 z.2.2.1 z.2.2.2.1 z.2.2.2.2) (va_A (wd_w a_w a_w_codes a_w_masks a_w_alike a_w_havers cI cB cT w_size w_codes w_masks w_alike w_havers) sz)) 0 0 (va_A (wd_w a_w a_w_codes a_w_masks a_w_alike a_w_havers cI cB cT w_size w_codes w_masks w_alike w_havers) sz) := by
  refine wr_intro RX9 (by decide +kernel) rfl (Nat.le_of_ble_eq_true rfl) ?_
  intro p e s m below meth c ls A H locs CF hr hlk hG hP hD hS hA hl
  have hl : lv_has ls 3 [(0, .ref a_w), (1, .int p1)] := hl
  obtain ⟨hx, hb, hml, hown, hts⟩ := id CF
  unfold f_X9_add at hf
  refine lv_aload_n hx hb dX9_add_0 rfl (lv_at hl 0 rfl) ?_
  refine va_get (D := D) (ci := 7) (v := .int w_size) (C := RX9) (T := TX9) (N := 5) hx hb hts fin_X9 hown hG.1 hP 0 ce_w_0 vq_7 0 (by decide) (hts _ wm_123) (fun _ h9 => h9) rfl dX9_add_1 ?_
  refine lv_bipush (v := (8 : Int32)) hx hb dX9_add_4 (by decide) ?_
  refine lv_icmp_ge (tgt := 54) hx hb dX9_add_6 (by decide) (fun c1 => ?_) (fun c1 => ?_)
  · have hf := tk c1 hf
    obtain rfl := Option.some.inj hf
    exact wr_vret CF hr hlk hP hS dX9_add_54
  · have hf := fk c1 hf
    refine lv_aload_n hx hb dX9_add_9 rfl (lv_at hl 0 rfl) ?_
    refine va_get (D := D) (ci := 7) (v := .ref a_w_codes) (C := RX9) (T := TX9) (N := 5) hx hb hts fin_X9 hown hG.1 hP 0 ce_w_0 vq_7 1 (by decide) (hts _ wm_127) (fun _ h9 => h9) rfl dX9_add_10 ?_
    refine lv_aload_n hx hb dX9_add_13 rfl (lv_at hl 0 rfl) ?_
    refine va_get (D := D) (ci := 7) (v := .int w_size) (C := RX9) (T := TX9) (N := 5) hx hb hts fin_X9 hown hG.1 hP 0 ce_w_0 vq_7 0 (by decide) (hts _ wm_123) (fun _ h9 => h9) rfl dX9_add_14 ?_
    refine lv_iload_n hx hb dX9_add_17 rfl (lv_at hl 1 rfl) ?_
    obtain ⟨n2, hf⟩ := nk hf
    refine va_iast (f := w_codes) hx hb hG.1 hP hD hS 1 0 ce_w_1 rfl n2 dX9_add_18 (fun H locs hP _ hS => ?_)
    have hP : va_P D vwCl (wd_w a_w a_w_codes a_w_masks a_w_alike a_w_havers cI cB cT w_size (upd w_codes (w_size).toNatClampNeg p1) w_masks w_alike w_havers) H := va_P_eq se_w_w_codes hP
    have hD : va_D A (wd_w a_w a_w_codes a_w_masks a_w_alike a_w_havers cI cB cT w_size (upd w_codes (w_size).toNatClampNeg p1) w_masks w_alike w_havers) := va_D_fst fs_w hD
    refine lv_aload_n hx hb dX9_add_19 rfl (lv_at hl 0 rfl) ?_
    refine lv_dup hx hb dX9_add_20 rfl ?_
    refine va_get (D := D) (ci := 7) (v := .int w_size) (C := RX9) (T := TX9) (N := 5) hx hb hts fin_X9 hown hG.1 hP 0 ce_w_0 vq_7 0 (by decide) (hts _ wm_123) (fun _ h9 => h9) rfl dX9_add_21 ?_
    refine lv_iconst (v := (1 : Int32)) hx hb dX9_add_24 (by decide) ?_
    refine lv_iadd hx hb dX9_add_25 ?_
    refine va_put (D := D) (ci := 7) (v := .int (w_size + (1 : Int32))) (ty := .int) (C := RX9) (T := TX9) (N := 5) hx hb hts fin_X9 tyX9 tyX9_ok nmX9 hown hG.1 hP hD hS 0 ce_w_0 vq_7 0 (by decide) (hts _ wm_123) (fun _ h9 => h9) rfl (tyX9_ok 0 (by decide)) rfl rfl (Nat.le_of_ble_eq_true rfl) dX9_add_26 (fun H locs hP _ hS => ?_)
    have hP : va_P D vwCl (wd_w a_w a_w_codes a_w_masks a_w_alike a_w_havers cI cB cT (w_size + (1 : Int32)) (upd w_codes (w_size).toNatClampNeg p1) w_masks w_alike w_havers) H := va_P_eq se_w_w_size hP
    have hD : va_D A (wd_w a_w a_w_codes a_w_masks a_w_alike a_w_havers cI cB cT (w_size + (1 : Int32)) (upd w_codes (w_size).toNatClampNeg p1) w_masks w_alike w_havers) := va_D_fst fs_w hD
    refine lv_iconst (v := (0 : Int32)) hx hb dX9_add_29 (by decide) ?_
    refine lv_istore_n (lv' := [(2, .int (0 : Int32)), (0, .ref a_w), (1, .int p1)]) hx hb dX9_add_30 rfl hl (by decide) rfl (fun ls hl => ?_)
    obtain ⟨o6, e7, hf⟩ := lp_bind hf
    refine L_X9_add_31_W CF hG hA ?_ KN _ _ _ _ _ _ _ hP hD hS (lv_sub hl [1, 0] rfl) e7
    intro H locs ls hP hD hS hl
    obtain rfl := Option.some.inj hf
    exact wr_vret CF hr hlk hP hS dX9_add_54
end M_X9_add
section M_X9_all
variable {p : Program} {l : Launch} {e : Env} {s : State} {m : MethodId} {args : Array Value} {below : List Frame} {meth : Method} {c : Code} {Q : State → Prop} {A : Nat → Prop} {D : va_G} {cI cB cT : ClassId}
variable {a_w a_w_codes a_w_masks a_w_alike a_w_havers : Nat}
def rm_X9_all : Room := { frames := 0, cells := 0, slots := 0, locals := 0 }
def f_X9_all (w_size : Int32) : Option (Int32) := some (((1 : Int32) <<< (w_size &&& 31)) - (1 : Int32))
set_option maxHeartbeats 4000000 in
set_option maxRecDepth 100000 in
theorem c_X9_all (l : Launch) (D : va_G) (cI cB cT : ClassId) (a_w a_w_codes a_w_masks a_w_alike a_w_havers : Nat) (w_size : Int32) (w_codes : (Nat → Int32)) (w_masks : (Nat → Int32)) (w_alike : (Nat → Int32)) (w_havers : (Nat → Int32)) {z : Int32} (hf : f_X9_all w_size = some z) :
    Met l yX9_all (Cond.code yX9_all cX9_all 1 (some .int) :: wsAll) rm_X9_all (Pro [.ref a_w] D cI cB cT (wd_w a_w a_w_codes a_w_masks a_w_alike a_w_havers cI cB cT w_size w_codes w_masks w_alike w_havers)) (Qr (some (.int z))) 0 0 (fun _ => False) := by
  refine ro_intro RX9 (by decide +kernel) rfl (Nat.le_of_ble_eq_true rfl) ?_
  intro p e s m below meth c ls CF hr hlk hG hP hl
  have hl : lv_has ls 1 [(0, .ref a_w)] := hl
  obtain ⟨hx, hb, hml, hown, hts⟩ := id CF
  unfold f_X9_all at hf
  refine lv_iconst (v := (1 : Int32)) hx hb dX9_all_0 (by decide) ?_
  refine lv_aload_n hx hb dX9_all_1 rfl (lv_at hl 0 rfl) ?_
  refine va_get (D := D) (ci := 7) (v := .int w_size) (C := RX9) (T := TX9) (N := 5) hx hb hts fin_X9 hown hG.1 hP 0 ce_w_0 vq_7 0 (by decide) (hts _ wm_123) (fun _ h9 => h9) rfl dX9_all_2 ?_
  refine lv_ishl hx hb dX9_all_5 ?_
  refine lv_iconst (v := (1 : Int32)) hx hb dX9_all_6 (by decide) ?_
  refine lv_isub hx hb dX9_all_7 ?_
  obtain rfl := Option.some.inj hf
  exact ro_iret CF hr hlk dX9_all_8
end M_X9_all
section M_X9_maskOf
variable {p : Program} {l : Launch} {e : Env} {s : State} {m : MethodId} {args : Array Value} {below : List Frame} {meth : Method} {c : Code} {Q : State → Prop} {A : Nat → Prop} {D : va_G} {cI cB cT : ClassId}
variable {a_w a_w_codes a_w_masks a_w_alike a_w_havers : Nat}
def rm_X9_maskOf : Room := { frames := 0, cells := 0, slots := 0, locals := 0 }
def f_X9_maskOf (w_size : Int32) (w_masks : (Nat → Int32)) (p1 : Int32) (p2 : Int32) : Option (Int32) := (if p1 < 0 then some (0 : Int32) else (if w_size ≤ p1 then some (0 : Int32) else (if p2 < 0 then some (0 : Int32) else (if (10 : Int32) ≤ p2 then some (0 : Int32) else (if oob ((p1 * (10 : Int32)) + p2) 80 then none else some (w_masks (((p1 * (10 : Int32)) + p2)).toNatClampNeg))))))
set_option maxHeartbeats 4000000 in
set_option maxRecDepth 100000 in
theorem c_X9_maskOf (l : Launch) (D : va_G) (cI cB cT : ClassId) (a_w a_w_codes a_w_masks a_w_alike a_w_havers : Nat) (w_size : Int32) (w_codes : (Nat → Int32)) (w_masks : (Nat → Int32)) (w_alike : (Nat → Int32)) (w_havers : (Nat → Int32)) (p1 : Int32) (p2 : Int32) {z : Int32} (hf : f_X9_maskOf w_size w_masks p1 p2 = some z) :
    Met l yX9_maskOf (Cond.code yX9_maskOf cX9_maskOf 3 (some .int) :: wsAll) rm_X9_maskOf (Pro [.ref a_w, .int p1, .int p2] D cI cB cT (wd_w a_w a_w_codes a_w_masks a_w_alike a_w_havers cI cB cT w_size w_codes w_masks w_alike w_havers)) (Qr (some (.int z))) 0 0 (fun _ => False) := by
  refine ro_intro RX9 (by decide +kernel) rfl (Nat.le_of_ble_eq_true rfl) ?_
  intro p e s m below meth c ls CF hr hlk hG hP hl
  have hl : lv_has ls 3 [(0, .ref a_w), (1, .int p1), (2, .int p2)] := hl
  obtain ⟨hx, hb, hml, hown, hts⟩ := id CF
  unfold f_X9_maskOf at hf
  refine lv_iload_n hx hb dX9_maskOf_0 rfl (lv_at hl 1 rfl) ?_
  refine lv_if_lt (tgt := 36) hx hb dX9_maskOf_1 (by decide) (fun c1 => ?_) (fun c1 => ?_)
  · have hf := tk c1 hf
    refine lv_iconst (v := (0 : Int32)) hx hb dX9_maskOf_36 (by decide) ?_
    obtain rfl := Option.some.inj hf
    exact ro_iret CF hr hlk dX9_maskOf_37
  · have hf := fk c1 hf
    refine lv_iload_n hx hb dX9_maskOf_4 rfl (lv_at hl 1 rfl) ?_
    refine lv_aload_n hx hb dX9_maskOf_5 rfl (lv_at hl 0 rfl) ?_
    refine va_get (D := D) (ci := 7) (v := .int w_size) (C := RX9) (T := TX9) (N := 5) hx hb hts fin_X9 hown hG.1 hP 0 ce_w_0 vq_7 0 (by decide) (hts _ wm_123) (fun _ h9 => h9) rfl dX9_maskOf_6 ?_
    refine lv_icmp_ge (tgt := 36) hx hb dX9_maskOf_9 (by decide) (fun c2 => ?_) (fun c2 => ?_)
    · have hf := tk c2 hf
      refine lv_iconst (v := (0 : Int32)) hx hb dX9_maskOf_36 (by decide) ?_
      obtain rfl := Option.some.inj hf
      exact ro_iret CF hr hlk dX9_maskOf_37
    · have hf := fk c2 hf
      refine lv_iload_n hx hb dX9_maskOf_12 rfl (lv_at hl 2 rfl) ?_
      refine lv_if_lt (tgt := 36) hx hb dX9_maskOf_13 (by decide) (fun c3 => ?_) (fun c3 => ?_)
      · have hf := tk c3 hf
        refine lv_iconst (v := (0 : Int32)) hx hb dX9_maskOf_36 (by decide) ?_
        obtain rfl := Option.some.inj hf
        exact ro_iret CF hr hlk dX9_maskOf_37
      · have hf := fk c3 hf
        refine lv_iload_n hx hb dX9_maskOf_16 rfl (lv_at hl 2 rfl) ?_
        refine lv_bipush (v := (10 : Int32)) hx hb dX9_maskOf_17 (by decide) ?_
        refine lv_icmp_ge (tgt := 36) hx hb dX9_maskOf_19 (by decide) (fun c4 => ?_) (fun c4 => ?_)
        · have hf := tk c4 hf
          refine lv_iconst (v := (0 : Int32)) hx hb dX9_maskOf_36 (by decide) ?_
          obtain rfl := Option.some.inj hf
          exact ro_iret CF hr hlk dX9_maskOf_37
        · have hf := fk c4 hf
          refine lv_aload_n hx hb dX9_maskOf_22 rfl (lv_at hl 0 rfl) ?_
          refine va_get (D := D) (ci := 7) (v := .ref a_w_masks) (C := RX9) (T := TX9) (N := 5) hx hb hts fin_X9 hown hG.1 hP 0 ce_w_0 vq_7 2 (by decide) (hts _ wm_128) (fun _ h9 => h9) rfl dX9_maskOf_23 ?_
          refine lv_iload_n hx hb dX9_maskOf_26 rfl (lv_at hl 1 rfl) ?_
          refine lv_bipush (v := (10 : Int32)) hx hb dX9_maskOf_27 (by decide) ?_
          refine lv_imul hx hb dX9_maskOf_29 ?_
          refine lv_iload_n hx hb dX9_maskOf_30 rfl (lv_at hl 2 rfl) ?_
          refine lv_iadd hx hb dX9_maskOf_31 ?_
          obtain ⟨n5, hf⟩ := nk hf
          refine va_iald (f := w_masks) hx hb hG.1 hP 2 0 ce_w_2 rfl n5 dX9_maskOf_32 ?_
          refine lv_goto (tgt := 37) hx hb dX9_maskOf_33 (by decide) ?_
          obtain rfl := Option.some.inj hf
          exact ro_iret CF hr hlk dX9_maskOf_37
end M_X9_maskOf
section M_X9_alikeTo
variable {p : Program} {l : Launch} {e : Env} {s : State} {m : MethodId} {args : Array Value} {below : List Frame} {meth : Method} {c : Code} {Q : State → Prop} {A : Nat → Prop} {D : va_G} {cI cB cT : ClassId}
variable {a_w a_w_codes a_w_masks a_w_alike a_w_havers : Nat}
def rm_X9_alikeTo : Room := { frames := 0, cells := 0, slots := 0, locals := 0 }
def f_X9_alikeTo (w_size : Int32) (w_alike : (Nat → Int32)) (p1 : Int32) (p2 : Int32) : Option (Int32) := (if p1 < 0 then some (0 : Int32) else (if w_size ≤ p1 then some (0 : Int32) else (if p2 < 0 then some (0 : Int32) else (if (10 : Int32) ≤ p2 then some (0 : Int32) else (if oob ((p1 * (10 : Int32)) + p2) 80 then none else some (w_alike (((p1 * (10 : Int32)) + p2)).toNatClampNeg))))))
set_option maxHeartbeats 4000000 in
set_option maxRecDepth 100000 in
theorem c_X9_alikeTo (l : Launch) (D : va_G) (cI cB cT : ClassId) (a_w a_w_codes a_w_masks a_w_alike a_w_havers : Nat) (w_size : Int32) (w_codes : (Nat → Int32)) (w_masks : (Nat → Int32)) (w_alike : (Nat → Int32)) (w_havers : (Nat → Int32)) (p1 : Int32) (p2 : Int32) {z : Int32} (hf : f_X9_alikeTo w_size w_alike p1 p2 = some z) :
    Met l yX9_alikeTo (Cond.code yX9_alikeTo cX9_alikeTo 3 (some .int) :: wsAll) rm_X9_alikeTo (Pro [.ref a_w, .int p1, .int p2] D cI cB cT (wd_w a_w a_w_codes a_w_masks a_w_alike a_w_havers cI cB cT w_size w_codes w_masks w_alike w_havers)) (Qr (some (.int z))) 0 0 (fun _ => False) := by
  refine ro_intro RX9 (by decide +kernel) rfl (Nat.le_of_ble_eq_true rfl) ?_
  intro p e s m below meth c ls CF hr hlk hG hP hl
  have hl : lv_has ls 3 [(0, .ref a_w), (1, .int p1), (2, .int p2)] := hl
  obtain ⟨hx, hb, hml, hown, hts⟩ := id CF
  unfold f_X9_alikeTo at hf
  refine lv_iload_n hx hb dX9_alikeTo_0 rfl (lv_at hl 1 rfl) ?_
  refine lv_if_lt (tgt := 36) hx hb dX9_alikeTo_1 (by decide) (fun c1 => ?_) (fun c1 => ?_)
  · have hf := tk c1 hf
    refine lv_iconst (v := (0 : Int32)) hx hb dX9_alikeTo_36 (by decide) ?_
    obtain rfl := Option.some.inj hf
    exact ro_iret CF hr hlk dX9_alikeTo_37
  · have hf := fk c1 hf
    refine lv_iload_n hx hb dX9_alikeTo_4 rfl (lv_at hl 1 rfl) ?_
    refine lv_aload_n hx hb dX9_alikeTo_5 rfl (lv_at hl 0 rfl) ?_
    refine va_get (D := D) (ci := 7) (v := .int w_size) (C := RX9) (T := TX9) (N := 5) hx hb hts fin_X9 hown hG.1 hP 0 ce_w_0 vq_7 0 (by decide) (hts _ wm_123) (fun _ h9 => h9) rfl dX9_alikeTo_6 ?_
    refine lv_icmp_ge (tgt := 36) hx hb dX9_alikeTo_9 (by decide) (fun c2 => ?_) (fun c2 => ?_)
    · have hf := tk c2 hf
      refine lv_iconst (v := (0 : Int32)) hx hb dX9_alikeTo_36 (by decide) ?_
      obtain rfl := Option.some.inj hf
      exact ro_iret CF hr hlk dX9_alikeTo_37
    · have hf := fk c2 hf
      refine lv_iload_n hx hb dX9_alikeTo_12 rfl (lv_at hl 2 rfl) ?_
      refine lv_if_lt (tgt := 36) hx hb dX9_alikeTo_13 (by decide) (fun c3 => ?_) (fun c3 => ?_)
      · have hf := tk c3 hf
        refine lv_iconst (v := (0 : Int32)) hx hb dX9_alikeTo_36 (by decide) ?_
        obtain rfl := Option.some.inj hf
        exact ro_iret CF hr hlk dX9_alikeTo_37
      · have hf := fk c3 hf
        refine lv_iload_n hx hb dX9_alikeTo_16 rfl (lv_at hl 2 rfl) ?_
        refine lv_bipush (v := (10 : Int32)) hx hb dX9_alikeTo_17 (by decide) ?_
        refine lv_icmp_ge (tgt := 36) hx hb dX9_alikeTo_19 (by decide) (fun c4 => ?_) (fun c4 => ?_)
        · have hf := tk c4 hf
          refine lv_iconst (v := (0 : Int32)) hx hb dX9_alikeTo_36 (by decide) ?_
          obtain rfl := Option.some.inj hf
          exact ro_iret CF hr hlk dX9_alikeTo_37
        · have hf := fk c4 hf
          refine lv_aload_n hx hb dX9_alikeTo_22 rfl (lv_at hl 0 rfl) ?_
          refine va_get (D := D) (ci := 7) (v := .ref a_w_alike) (C := RX9) (T := TX9) (N := 5) hx hb hts fin_X9 hown hG.1 hP 0 ce_w_0 vq_7 3 (by decide) (hts _ wm_129) (fun _ h9 => h9) rfl dX9_alikeTo_23 ?_
          refine lv_iload_n hx hb dX9_alikeTo_26 rfl (lv_at hl 1 rfl) ?_
          refine lv_bipush (v := (10 : Int32)) hx hb dX9_alikeTo_27 (by decide) ?_
          refine lv_imul hx hb dX9_alikeTo_29 ?_
          refine lv_iload_n hx hb dX9_alikeTo_30 rfl (lv_at hl 2 rfl) ?_
          refine lv_iadd hx hb dX9_alikeTo_31 ?_
          obtain ⟨n5, hf⟩ := nk hf
          refine va_iald (f := w_alike) hx hb hG.1 hP 3 0 ce_w_3 rfl n5 dX9_alikeTo_32 ?_
          refine lv_goto (tgt := 37) hx hb dX9_alikeTo_33 (by decide) ?_
          obtain rfl := Option.some.inj hf
          exact ro_iret CF hr hlk dX9_alikeTo_37
end M_X9_alikeTo
section M_J6_bitCount_0f7a4
variable {p : Program} {l : Launch} {e : Env} {s : State} {m : MethodId} {args : Array Value} {below : List Frame} {meth : Method} {c : Code} {Q : State → Prop} {A : Nat → Prop} {D : va_G} {cI cB cT : ClassId}
def rm_J6_bitCount_0f7a4 : Room := { frames := 0, cells := 0, slots := 0, locals := 0 }
def f_J6_bitCount_0f7a4 (p1 : Int32) : Option (Int32) := ((some ((p1 - (((p1).toUInt32 >>> (((1 : Int32)).toUInt32 &&& Int32.toUInt32 31)).toInt32 &&& (1431655765 : Int32))) : Int32)).bind fun o1 => ((some (((o1 &&& (858993459 : Int32)) + (((o1).toUInt32 >>> (((2 : Int32)).toUInt32 &&& Int32.toUInt32 31)).toInt32 &&& (858993459 : Int32))) : Int32)).bind fun o4 => ((some (((o4 + ((o4).toUInt32 >>> (((4 : Int32)).toUInt32 &&& Int32.toUInt32 31)).toInt32) &&& (252645135 : Int32)) : Int32)).bind fun o7 => ((some ((o7 + ((o7).toUInt32 >>> (((8 : Int32)).toUInt32 &&& Int32.toUInt32 31)).toInt32) : Int32)).bind fun o10 => ((some ((o10 + ((o10).toUInt32 >>> (((16 : Int32)).toUInt32 &&& Int32.toUInt32 31)).toInt32) : Int32)).bind fun o13 => some (o13 &&& (63 : Int32)))))))
set_option maxHeartbeats 4000000 in
set_option maxRecDepth 100000 in
theorem c_J6_bitCount_0f7a4 (l : Launch) (D : va_G) (cI cB cT : ClassId) (p1 : Int32) {z : Int32} (hf : f_J6_bitCount_0f7a4 p1 = some z) :
    Met l yJ6_bitCount_0f7a4 (Cond.code yJ6_bitCount_0f7a4 cJ6_bitCount_0f7a4 1 (some .int) :: wsAll) rm_J6_bitCount_0f7a4 (Pro [.int p1] D cI cB cT wd_E) (Qr (some (.int z))) 0 0 (fun _ => False) := by
  refine ro_intro RJ6 (by decide +kernel) rfl (Nat.le_of_ble_eq_true rfl) ?_
  intro p e s m below meth c ls CF hr hlk hG hP hl
  have hl : lv_has ls 1 [(0, .int p1)] := hl
  obtain ⟨hx, hb, hml, hown, hts⟩ := id CF
  unfold f_J6_bitCount_0f7a4 at hf
  refine lv_iload_n hx hb dJ6_bitCount_0f7a4_0 rfl (lv_at hl 0 rfl) ?_
  refine lv_iload_n hx hb dJ6_bitCount_0f7a4_1 rfl (lv_at hl 0 rfl) ?_
  refine lv_iconst (v := (1 : Int32)) hx hb dJ6_bitCount_0f7a4_2 (by decide) ?_
  refine lv_iushr hx hb dJ6_bitCount_0f7a4_3 rfl ?_
  refine lv_ldcw (v := (1431655765 : Int32)) hx hb hown (hts _ wm_526) dJ6_bitCount_0f7a4_4 ?_
  refine lv_iand hx hb dJ6_bitCount_0f7a4_7 ?_
  refine lv_isub hx hb dJ6_bitCount_0f7a4_8 ?_
  obtain ⟨o1, e2, hf⟩ := lp_bind hf
  refine lv_topi (fun y3 ey3 => ?_)
  obtain rfl : o1 = y3 := (Option.some.inj e2).symm.trans ey3.symm
  refine lv_istore_n (lv' := [(0, .int o1)]) hx hb dJ6_bitCount_0f7a4_9 rfl hl (by decide) rfl (fun ls hl => ?_)
  refine lv_iload_n hx hb dJ6_bitCount_0f7a4_10 rfl (lv_at hl 0 rfl) ?_
  refine lv_ldcw (v := (858993459 : Int32)) hx hb hown (hts _ wm_527) dJ6_bitCount_0f7a4_11 ?_
  refine lv_iand hx hb dJ6_bitCount_0f7a4_14 ?_
  refine lv_iload_n hx hb dJ6_bitCount_0f7a4_15 rfl (lv_at hl 0 rfl) ?_
  refine lv_iconst (v := (2 : Int32)) hx hb dJ6_bitCount_0f7a4_16 (by decide) ?_
  refine lv_iushr hx hb dJ6_bitCount_0f7a4_17 rfl ?_
  refine lv_ldcw (v := (858993459 : Int32)) hx hb hown (hts _ wm_527) dJ6_bitCount_0f7a4_18 ?_
  refine lv_iand hx hb dJ6_bitCount_0f7a4_21 ?_
  refine lv_iadd hx hb dJ6_bitCount_0f7a4_22 ?_
  obtain ⟨o4, e5, hf⟩ := lp_bind hf
  refine lv_topi (fun y6 ey6 => ?_)
  obtain rfl : o4 = y6 := (Option.some.inj e5).symm.trans ey6.symm
  refine lv_istore_n (lv' := [(0, .int o4)]) hx hb dJ6_bitCount_0f7a4_23 rfl hl (by decide) rfl (fun ls hl => ?_)
  refine lv_iload_n hx hb dJ6_bitCount_0f7a4_24 rfl (lv_at hl 0 rfl) ?_
  refine lv_iload_n hx hb dJ6_bitCount_0f7a4_25 rfl (lv_at hl 0 rfl) ?_
  refine lv_iconst (v := (4 : Int32)) hx hb dJ6_bitCount_0f7a4_26 (by decide) ?_
  refine lv_iushr hx hb dJ6_bitCount_0f7a4_27 rfl ?_
  refine lv_iadd hx hb dJ6_bitCount_0f7a4_28 ?_
  refine lv_ldcw (v := (252645135 : Int32)) hx hb hown (hts _ wm_528) dJ6_bitCount_0f7a4_29 ?_
  refine lv_iand hx hb dJ6_bitCount_0f7a4_32 ?_
  obtain ⟨o7, e8, hf⟩ := lp_bind hf
  refine lv_topi (fun y9 ey9 => ?_)
  obtain rfl : o7 = y9 := (Option.some.inj e8).symm.trans ey9.symm
  refine lv_istore_n (lv' := [(0, .int o7)]) hx hb dJ6_bitCount_0f7a4_33 rfl hl (by decide) rfl (fun ls hl => ?_)
  refine lv_iload_n hx hb dJ6_bitCount_0f7a4_34 rfl (lv_at hl 0 rfl) ?_
  refine lv_iload_n hx hb dJ6_bitCount_0f7a4_35 rfl (lv_at hl 0 rfl) ?_
  refine lv_bipush (v := (8 : Int32)) hx hb dJ6_bitCount_0f7a4_36 (by decide) ?_
  refine lv_iushr hx hb dJ6_bitCount_0f7a4_38 rfl ?_
  refine lv_iadd hx hb dJ6_bitCount_0f7a4_39 ?_
  obtain ⟨o10, e11, hf⟩ := lp_bind hf
  refine lv_topi (fun y12 ey12 => ?_)
  obtain rfl : o10 = y12 := (Option.some.inj e11).symm.trans ey12.symm
  refine lv_istore_n (lv' := [(0, .int o10)]) hx hb dJ6_bitCount_0f7a4_40 rfl hl (by decide) rfl (fun ls hl => ?_)
  refine lv_iload_n hx hb dJ6_bitCount_0f7a4_41 rfl (lv_at hl 0 rfl) ?_
  refine lv_iload_n hx hb dJ6_bitCount_0f7a4_42 rfl (lv_at hl 0 rfl) ?_
  refine lv_bipush (v := (16 : Int32)) hx hb dJ6_bitCount_0f7a4_43 (by decide) ?_
  refine lv_iushr hx hb dJ6_bitCount_0f7a4_45 rfl ?_
  refine lv_iadd hx hb dJ6_bitCount_0f7a4_46 ?_
  obtain ⟨o13, e14, hf⟩ := lp_bind hf
  refine lv_topi (fun y15 ey15 => ?_)
  obtain rfl : o13 = y15 := (Option.some.inj e14).symm.trans ey15.symm
  refine lv_istore_n (lv' := [(0, .int o13)]) hx hb dJ6_bitCount_0f7a4_47 rfl hl (by decide) rfl (fun ls hl => ?_)
  refine lv_iload_n hx hb dJ6_bitCount_0f7a4_48 rfl (lv_at hl 0 rfl) ?_
  refine lv_bipush (v := (63 : Int32)) hx hb dJ6_bitCount_0f7a4_49 (by decide) ?_
  refine lv_iand hx hb dJ6_bitCount_0f7a4_51 ?_
  obtain rfl := Option.some.inj hf
  exact ro_iret CF hr hlk dJ6_bitCount_0f7a4_52
end M_J6_bitCount_0f7a4
section M_X9_commonestMask
variable {p : Program} {l : Launch} {e : Env} {s : State} {m : MethodId} {args : Array Value} {below : List Frame} {meth : Method} {c : Code} {Q : State → Prop} {A : Nat → Prop} {D : va_G} {cI cB cT : ClassId}
variable {a_w a_w_codes a_w_masks a_w_alike a_w_havers : Nat}
def rm_X9_commonestMask : Room := { frames := 1, cells := 0, slots := 0, locals := 22 }
def B_X9_commonestMask_8 (w_size : Int32) (w_masks : (Nat → Int32)) (w_alike : (Nat → Int32)) (x1 : Int32) (x2 : Int32) (x3 : Int32) (x4 : Int32) (x5 : Int32) : Option ((Int32 × Int32 × Int32) ⊕ (Int32)) := (if w_size ≤ x5 then some (Sum.inr x3) else (if ((x1 >>> (x5 &&& 31)) &&& (1 : Int32)) = 0 then some (Sum.inl (x3, x4, (x5 + (1 : Int32)))) else ((f_X9_maskOf w_size w_masks x5 x2).bind fun o3 => ((f_X9_alikeTo w_size w_alike x5 x2).bind fun o5 => ((f_J6_bitCount_0f7a4 (o5 &&& x1)).bind fun o7 => (if x4 < o7 then some (Sum.inl (o3, o7, (x5 + (1 : Int32)))) else (if o7 = x4 then (if x3 ≤ o3 then some (Sum.inl (x3, x4, (x5 + (1 : Int32)))) else some (Sum.inl (o3, o7, (x5 + (1 : Int32))))) else some (Sum.inl (x3, x4, (x5 + (1 : Int32)))))))))))
def f_X9_commonestMask (w_size : Int32) (w_masks : (Nat → Int32)) (w_alike : (Nat → Int32)) (p1 : Int32) (p2 : Int32) : Option (Int32) := ((lp (fun v => B_X9_commonestMask_8 w_size w_masks w_alike p1 p2 v.1 v.2.1 v.2.2) KN ((0 : Int32), (0 : Int32), (0 : Int32))).bind fun o12 => some o12)
set_option maxHeartbeats 4000000 in
set_option maxRecDepth 100000 in
theorem B_X9_commonestMask_8_W {w_size : Int32} {w_codes : (Nat → Int32)} {w_masks : (Nat → Int32)} {w_alike : (Nat → Int32)} {w_havers : (Nat → Int32)} {x1 : Int32} {x2 : Int32} {x3 : Int32} {x4 : Int32} {x5 : Int32} (CF : CallFix p m c cX9_commonestMask 8 s args wsAll RX9) (hG : Gd D cI cB cT s) {z : (Int32 × Int32 × Int32) ⊕ (Int32)} (hk : ∀ (v' : Int32 × Int32 × Int32) (ls : Array Slot), z = Sum.inl v' → lv_has ls 8 [(0, .ref a_w), (1, .int x1), (2, .int x2), (3, .int (v'.1)), (4, .int (v'.2.1)), (5, .int (v'.2.2))] → W p l e rm_X9_commonestMask s m args below meth c s.heap [] 0 0 Q (F0 m 8 ls [])) (hx0 : ∀ (o' : Int32) (ls : Array Slot), z = Sum.inr o' → lv_has ls 8 [(3, .int (o'))] → W p l e rm_X9_commonestMask s m args below meth c s.heap [] 0 0 Q (F0 m 82 ls [])) {ls : Array Slot} (hP : va_P D vwCl (wd_w a_w a_w_codes a_w_masks a_w_alike a_w_havers cI cB cT w_size w_codes w_masks w_alike w_havers) s.heap) (hl : lv_has ls 8 [(0, .ref a_w), (1, .int x1), (2, .int x2), (3, .int x3), (4, .int x4), (5, .int x5)]) (hf : B_X9_commonestMask_8 w_size w_masks w_alike x1 x2 x3 x4 x5 = some z) : W p l e rm_X9_commonestMask s m args below meth c s.heap [] 0 0 Q (F0 m 8 ls []) := by
  obtain ⟨hx, hb, hml, hown, hts⟩ := id CF
  unfold B_X9_commonestMask_8 at hf
  refine lv_iload hx hb dX9_commonestMask_8 (lv_at hl 5 rfl) ?_
  refine lv_aload_n hx hb dX9_commonestMask_10 rfl (lv_at hl 0 rfl) ?_
  refine va_get (D := D) (ci := 7) (v := .int w_size) (C := RX9) (T := TX9) (N := 5) hx hb hts fin_X9 hown hG.1 hP 0 ce_w_0 vq_7 0 (by decide) (hts _ wm_123) (fun _ h9 => h9) rfl dX9_commonestMask_11 ?_
  refine lv_icmp_ge (tgt := 82) hx hb dX9_commonestMask_14 (by decide) (fun c1 => ?_) (fun c1 => ?_)
  · have hf := tk c1 hf
    exact hx0 _ _ (Option.some.inj hf).symm (lv_sub hl [3] rfl)
  · have hf := fk c1 hf
    refine lv_iload_n hx hb dX9_commonestMask_17 rfl (lv_at hl 1 rfl) ?_
    refine lv_iload hx hb dX9_commonestMask_18 (lv_at hl 5 rfl) ?_
    refine lv_ishr hx hb dX9_commonestMask_20 ?_
    refine lv_iconst (v := (1 : Int32)) hx hb dX9_commonestMask_21 (by decide) ?_
    refine lv_iand hx hb dX9_commonestMask_22 ?_
    refine lv_if_eq (tgt := 76) hx hb dX9_commonestMask_23 (by decide) (fun c2 => ?_) (fun c2 => ?_)
    · have hf := tk c2 hf
      refine lv_iinc (v := (x5 + (1 : Int32))) (lv' := [(5, .int (x5 + (1 : Int32))), (0, .ref a_w), (1, .int x1), (2, .int x2), (3, .int x3), (4, .int x4)]) hx hb dX9_commonestMask_76 hl (k := 5) rfl (iinc_eq (by decide)) (by decide) rfl (fun ls hl => ?_)
      refine lv_goto (tgt := 8) hx hb dX9_commonestMask_79 (by decide) ?_
      exact hk _ _ (Option.some.inj hf).symm (lv_sub hl [1, 2, 3, 4, 5, 0] rfl)
    · have hf := fk c2 hf
      refine lv_aload_n hx hb dX9_commonestMask_26 rfl (lv_at hl 0 rfl) ?_
      refine lv_iload hx hb dX9_commonestMask_27 (lv_at hl 5 rfl) ?_
      refine lv_iload_n hx hb dX9_commonestMask_29 rfl (lv_at hl 2 rfl) ?_
      obtain ⟨o3, e4, hf⟩ := lp_bind hf
      refine ro_Vi (x := o3) (As := [.int x5, .int x2]) (rest := []) CF (c_X9_maskOf l D cI cB cT a_w a_w_codes a_w_masks a_w_alike a_w_havers w_size w_codes w_masks w_alike w_havers x5 x2 e4) ok_X9_maskOf wm_545 ⟨rfl, rfl, Nat.le_of_ble_eq_true rfl, Nat.le_of_ble_eq_true rfl⟩ hG hP 0 7 vq_7 rfl ce_w_0 rfl hl.1 rfl (Nat.le_of_ble_eq_true rfl) ⟨Nat.zero_le _, Nat.zero_le _⟩ dX9_commonestMask_30 ?_
      refine lv_istore (lv' := [(6, .int o3), (0, .ref a_w), (1, .int x1), (2, .int x2), (3, .int x3), (4, .int x4), (5, .int x5)]) hx hb dX9_commonestMask_33 hl (by decide) rfl (fun ls hl => ?_)
      refine lv_aload_n hx hb dX9_commonestMask_35 rfl (lv_at hl 1 rfl) ?_
      refine lv_iload hx hb dX9_commonestMask_36 (lv_at hl 6 rfl) ?_
      refine lv_iload_n hx hb dX9_commonestMask_38 rfl (lv_at hl 3 rfl) ?_
      obtain ⟨o5, e6, hf⟩ := lp_bind hf
      refine ro_Vi (x := o5) (As := [.int x5, .int x2]) (rest := []) CF (c_X9_alikeTo l D cI cB cT a_w a_w_codes a_w_masks a_w_alike a_w_havers w_size w_codes w_masks w_alike w_havers x5 x2 e6) ok_X9_alikeTo wm_549 ⟨rfl, rfl, Nat.le_of_ble_eq_true rfl, Nat.le_of_ble_eq_true rfl⟩ hG hP 0 7 vq_7 rfl ce_w_0 rfl hl.1 rfl (Nat.le_of_ble_eq_true rfl) ⟨Nat.zero_le _, Nat.zero_le _⟩ dX9_commonestMask_39 ?_
      refine lv_iload_n hx hb dX9_commonestMask_42 rfl (lv_at hl 2 rfl) ?_
      refine lv_iand hx hb dX9_commonestMask_43 ?_
      obtain ⟨o7, e8, hf⟩ := lp_bind hf
      refine ro_Si (x := o7) (As := [.int (o5 &&& x1)]) (rest := []) CF (c_J6_bitCount_0f7a4 l D cI cB cT (o5 &&& x1) e8) ok_J6_bitCount_0f7a4 wm_553 ⟨rfl, rfl, Nat.le_of_ble_eq_true rfl, Nat.le_of_ble_eq_true rfl⟩ hG wd_E_P rfl hl.1 rfl (Nat.le_of_ble_eq_true rfl) ⟨Nat.zero_le _, Nat.zero_le _⟩ dX9_commonestMask_44 ?_
      refine lv_istore (lv' := [(7, .int o7), (6, .int o3), (0, .ref a_w), (1, .int x1), (2, .int x2), (3, .int x3), (4, .int x4), (5, .int x5)]) hx hb dX9_commonestMask_47 hl (by decide) rfl (fun ls hl => ?_)
      refine lv_iload hx hb dX9_commonestMask_49 (lv_at hl 0 rfl) ?_
      refine lv_iload hx hb dX9_commonestMask_51 (lv_at hl 6 rfl) ?_
      refine lv_icmp_gt (tgt := 69) hx hb dX9_commonestMask_53 (by decide) (fun c9 => ?_) (fun c9 => ?_)
      · have hf := tk c9 hf
        refine lv_iload hx hb dX9_commonestMask_69 (lv_at hl 1 rfl) ?_
        refine lv_istore_n (lv' := [(3, .int o3), (7, .int o7), (6, .int o3), (0, .ref a_w), (1, .int x1), (2, .int x2), (4, .int x4), (5, .int x5)]) hx hb dX9_commonestMask_71 rfl hl (by decide) rfl (fun ls hl => ?_)
        refine lv_iload hx hb dX9_commonestMask_72 (lv_at hl 1 rfl) ?_
        refine lv_istore (lv' := [(4, .int o7), (3, .int o3), (7, .int o7), (6, .int o3), (0, .ref a_w), (1, .int x1), (2, .int x2), (5, .int x5)]) hx hb dX9_commonestMask_74 hl (by decide) rfl (fun ls hl => ?_)
        refine lv_iinc (v := (x5 + (1 : Int32))) (lv' := [(5, .int (x5 + (1 : Int32))), (4, .int o7), (3, .int o3), (7, .int o7), (6, .int o3), (0, .ref a_w), (1, .int x1), (2, .int x2)]) hx hb dX9_commonestMask_76 hl (k := 7) rfl (iinc_eq (by decide)) (by decide) rfl (fun ls hl => ?_)
        refine lv_goto (tgt := 8) hx hb dX9_commonestMask_79 (by decide) ?_
        exact hk _ _ (Option.some.inj hf).symm (lv_sub hl [5, 6, 7, 2, 1, 0] rfl)
      · have hf := fk c9 hf
        refine lv_iload hx hb dX9_commonestMask_56 (lv_at hl 0 rfl) ?_
        refine lv_iload hx hb dX9_commonestMask_58 (lv_at hl 6 rfl) ?_
        refine lv_icmp_ne (tgt := 76) hx hb dX9_commonestMask_60 (by decide) (fun c10 => ?_) (fun c10 => ?_)
        · have hf := fk c10 hf
          refine lv_iinc (v := (x5 + (1 : Int32))) (lv' := [(5, .int (x5 + (1 : Int32))), (7, .int o7), (6, .int o3), (0, .ref a_w), (1, .int x1), (2, .int x2), (3, .int x3), (4, .int x4)]) hx hb dX9_commonestMask_76 hl (k := 7) rfl (iinc_eq (by decide)) (by decide) rfl (fun ls hl => ?_)
          refine lv_goto (tgt := 8) hx hb dX9_commonestMask_79 (by decide) ?_
          exact hk _ _ (Option.some.inj hf).symm (lv_sub hl [3, 4, 5, 6, 7, 0] rfl)
        · have hf := tk c10 hf
          refine lv_iload hx hb dX9_commonestMask_63 (lv_at hl 1 rfl) ?_
          refine lv_iload_n hx hb dX9_commonestMask_65 rfl (lv_at hl 5 rfl) ?_
          refine lv_icmp_ge (tgt := 76) hx hb dX9_commonestMask_66 (by decide) (fun c11 => ?_) (fun c11 => ?_)
          · have hf := tk c11 hf
            refine lv_iinc (v := (x5 + (1 : Int32))) (lv' := [(5, .int (x5 + (1 : Int32))), (7, .int o7), (6, .int o3), (0, .ref a_w), (1, .int x1), (2, .int x2), (3, .int x3), (4, .int x4)]) hx hb dX9_commonestMask_76 hl (k := 7) rfl (iinc_eq (by decide)) (by decide) rfl (fun ls hl => ?_)
            refine lv_goto (tgt := 8) hx hb dX9_commonestMask_79 (by decide) ?_
            exact hk _ _ (Option.some.inj hf).symm (lv_sub hl [3, 4, 5, 6, 7, 0] rfl)
          · have hf := fk c11 hf
            refine lv_iload hx hb dX9_commonestMask_69 (lv_at hl 1 rfl) ?_
            refine lv_istore_n (lv' := [(3, .int o3), (7, .int o7), (6, .int o3), (0, .ref a_w), (1, .int x1), (2, .int x2), (4, .int x4), (5, .int x5)]) hx hb dX9_commonestMask_71 rfl hl (by decide) rfl (fun ls hl => ?_)
            refine lv_iload hx hb dX9_commonestMask_72 (lv_at hl 1 rfl) ?_
            refine lv_istore (lv' := [(4, .int o7), (3, .int o3), (7, .int o7), (6, .int o3), (0, .ref a_w), (1, .int x1), (2, .int x2), (5, .int x5)]) hx hb dX9_commonestMask_74 hl (by decide) rfl (fun ls hl => ?_)
            refine lv_iinc (v := (x5 + (1 : Int32))) (lv' := [(5, .int (x5 + (1 : Int32))), (4, .int o7), (3, .int o3), (7, .int o7), (6, .int o3), (0, .ref a_w), (1, .int x1), (2, .int x2)]) hx hb dX9_commonestMask_76 hl (k := 7) rfl (iinc_eq (by decide)) (by decide) rfl (fun ls hl => ?_)
            refine lv_goto (tgt := 8) hx hb dX9_commonestMask_79 (by decide) ?_
            exact hk _ _ (Option.some.inj hf).symm (lv_sub hl [5, 6, 7, 2, 1, 0] rfl)
set_option maxHeartbeats 4000000 in
set_option maxRecDepth 100000 in
theorem L_X9_commonestMask_8_W {w_size : Int32} {w_codes : (Nat → Int32)} {w_masks : (Nat → Int32)} {w_alike : (Nat → Int32)} {w_havers : (Nat → Int32)} {x1 : Int32} {x2 : Int32} (CF : CallFix p m c cX9_commonestMask 8 s args wsAll RX9) (hG : Gd D cI cB cT s) {o : Int32} (hx0 : ∀ (ls : Array Slot), lv_has ls 8 [(3, .int o)] → W p l e rm_X9_commonestMask s m args below meth c s.heap [] 0 0 Q (F0 m 82 ls [])) : ∀ (n : Nat) (x3 : Int32) (x4 : Int32) (x5 : Int32) (ls : Array Slot), va_P D vwCl (wd_w a_w a_w_codes a_w_masks a_w_alike a_w_havers cI cB cT w_size w_codes w_masks w_alike w_havers) s.heap → lv_has ls 8 [(0, .ref a_w), (1, .int x1), (2, .int x2), (3, .int x3), (4, .int x4), (5, .int x5)] → lp (fun v => B_X9_commonestMask_8 w_size w_masks w_alike x1 x2 v.1 v.2.1 v.2.2) n (x3, x4, x5) = some o → W p l e rm_X9_commonestMask s m args below meth c s.heap [] 0 0 Q (F0 m 8 ls []) := by
  intro n
  induction n with
  | zero =>
    intro x3 x4 x5 ls hP hl hf
    exact (lp_zero hf).elim
  | succ n ih =>
    intro x3 x4 x5 ls hP hl hf
    obtain ⟨z, hz, hf⟩ := lp_succ hf
    refine B_X9_commonestMask_8_W CF hG ?_ ?_ hP hl hz
    · intro v' ls ez hl
      rcases hf with ⟨v2, ev, hf⟩ | ev
      · cases Sum.inl.inj (ez.symm.trans ev)
        exact ih v'.1 v'.2.1 v'.2.2 ls hP hl hf
      · exact (lp_lr (ez.symm.trans ev)).elim
    · intro o' ls ez hl
      rcases hf with ⟨v2, ev, hf⟩ | ev
      · exact (lp_lr (ev.symm.trans ez)).elim
      · cases Sum.inr.inj (ez.symm.trans ev)
        exact hx0 ls  hl
set_option maxHeartbeats 4000000 in
set_option maxRecDepth 100000 in
theorem c_X9_commonestMask (l : Launch) (D : va_G) (cI cB cT : ClassId) (a_w a_w_codes a_w_masks a_w_alike a_w_havers : Nat) (w_size : Int32) (w_codes : (Nat → Int32)) (w_masks : (Nat → Int32)) (w_alike : (Nat → Int32)) (w_havers : (Nat → Int32)) (p1 : Int32) (p2 : Int32) {z : Int32} (hf : f_X9_commonestMask w_size w_masks w_alike p1 p2 = some z) :
    Met l yX9_commonestMask (Cond.code yX9_commonestMask cX9_commonestMask 8 (some .int) :: wsAll) rm_X9_commonestMask (Pro [.ref a_w, .int p1, .int p2] D cI cB cT (wd_w a_w a_w_codes a_w_masks a_w_alike a_w_havers cI cB cT w_size w_codes w_masks w_alike w_havers)) (Qr (some (.int z))) 0 0 (fun _ => False) := by
  refine ro_intro RX9 (by decide +kernel) rfl (Nat.le_of_ble_eq_true rfl) ?_
  intro p e s m below meth c ls CF hr hlk hG hP hl
  have hl : lv_has ls 8 [(0, .ref a_w), (1, .int p1), (2, .int p2)] := hl
  obtain ⟨hx, hb, hml, hown, hts⟩ := id CF
  unfold f_X9_commonestMask at hf
  refine lv_iconst (v := (0 : Int32)) hx hb dX9_commonestMask_0 (by decide) ?_
  refine lv_istore_n (lv' := [(3, .int (0 : Int32)), (0, .ref a_w), (1, .int p1), (2, .int p2)]) hx hb dX9_commonestMask_1 rfl hl (by decide) rfl (fun ls hl => ?_)
  refine lv_iconst (v := (0 : Int32)) hx hb dX9_commonestMask_2 (by decide) ?_
  refine lv_istore (lv' := [(4, .int (0 : Int32)), (3, .int (0 : Int32)), (0, .ref a_w), (1, .int p1), (2, .int p2)]) hx hb dX9_commonestMask_3 hl (by decide) rfl (fun ls hl => ?_)
  refine lv_iconst (v := (0 : Int32)) hx hb dX9_commonestMask_5 (by decide) ?_
  refine lv_istore (lv' := [(5, .int (0 : Int32)), (4, .int (0 : Int32)), (3, .int (0 : Int32)), (0, .ref a_w), (1, .int p1), (2, .int p2)]) hx hb dX9_commonestMask_6 hl (by decide) rfl (fun ls hl => ?_)
  obtain ⟨o12, e13, hf⟩ := lp_bind hf
  refine L_X9_commonestMask_8_W CF hG ?_ KN _ _ _ _ hP (lv_sub hl [3, 4, 5, 2, 1, 0] rfl) e13
  intro ls hl
  refine lv_iload_n hx hb dX9_commonestMask_82 rfl (lv_at hl 0 rfl) ?_
  obtain rfl := Option.some.inj hf
  exact ro_iret CF hr hlk dX9_commonestMask_83
end M_X9_commonestMask
section M_X9_having
variable {p : Program} {l : Launch} {e : Env} {s : State} {m : MethodId} {args : Array Value} {below : List Frame} {meth : Method} {c : Code} {Q : State → Prop} {A : Nat → Prop} {D : va_G} {cI cB cT : ClassId}
variable {a_w a_w_codes a_w_masks a_w_alike a_w_havers : Nat}
def rm_X9_having : Room := { frames := 0, cells := 0, slots := 0, locals := 0 }
def f_X9_having (w_havers : (Nat → Int32)) (p1 : Int32) : Option (Int32) := (if p1 < 0 then some (0 : Int32) else (if (10 : Int32) ≤ p1 then some (0 : Int32) else (if oob p1 10 then none else some (w_havers (p1).toNatClampNeg))))
set_option maxHeartbeats 4000000 in
set_option maxRecDepth 100000 in
theorem c_X9_having (l : Launch) (D : va_G) (cI cB cT : ClassId) (a_w a_w_codes a_w_masks a_w_alike a_w_havers : Nat) (w_size : Int32) (w_codes : (Nat → Int32)) (w_masks : (Nat → Int32)) (w_alike : (Nat → Int32)) (w_havers : (Nat → Int32)) (p1 : Int32) {z : Int32} (hf : f_X9_having w_havers p1 = some z) :
    Met l yX9_having (Cond.code yX9_having cX9_having 2 (some .int) :: wsAll) rm_X9_having (Pro [.ref a_w, .int p1] D cI cB cT (wd_w a_w a_w_codes a_w_masks a_w_alike a_w_havers cI cB cT w_size w_codes w_masks w_alike w_havers)) (Qr (some (.int z))) 0 0 (fun _ => False) := by
  refine ro_intro RX9 (by decide +kernel) rfl (Nat.le_of_ble_eq_true rfl) ?_
  intro p e s m below meth c ls CF hr hlk hG hP hl
  have hl : lv_has ls 2 [(0, .ref a_w), (1, .int p1)] := hl
  obtain ⟨hx, hb, hml, hown, hts⟩ := id CF
  unfold f_X9_having at hf
  refine lv_iload_n hx hb dX9_having_0 rfl (lv_at hl 1 rfl) ?_
  refine lv_if_lt (tgt := 19) hx hb dX9_having_1 (by decide) (fun c1 => ?_) (fun c1 => ?_)
  · have hf := tk c1 hf
    refine lv_iconst (v := (0 : Int32)) hx hb dX9_having_19 (by decide) ?_
    obtain rfl := Option.some.inj hf
    exact ro_iret CF hr hlk dX9_having_20
  · have hf := fk c1 hf
    refine lv_iload_n hx hb dX9_having_4 rfl (lv_at hl 1 rfl) ?_
    refine lv_bipush (v := (10 : Int32)) hx hb dX9_having_5 (by decide) ?_
    refine lv_icmp_ge (tgt := 19) hx hb dX9_having_7 (by decide) (fun c2 => ?_) (fun c2 => ?_)
    · have hf := tk c2 hf
      refine lv_iconst (v := (0 : Int32)) hx hb dX9_having_19 (by decide) ?_
      obtain rfl := Option.some.inj hf
      exact ro_iret CF hr hlk dX9_having_20
    · have hf := fk c2 hf
      refine lv_aload_n hx hb dX9_having_10 rfl (lv_at hl 0 rfl) ?_
      refine va_get (D := D) (ci := 7) (v := .ref a_w_havers) (C := RX9) (T := TX9) (N := 5) hx hb hts fin_X9 hown hG.1 hP 0 ce_w_0 vq_7 4 (by decide) (hts _ wm_130) (fun _ h9 => h9) rfl dX9_having_11 ?_
      refine lv_iload_n hx hb dX9_having_14 rfl (lv_at hl 1 rfl) ?_
      obtain ⟨n3, hf⟩ := nk hf
      refine va_iald (f := w_havers) hx hb hG.1 hP 4 0 ce_w_4 rfl n3 dX9_having_15 ?_
      refine lv_goto (tgt := 20) hx hb dX9_having_16 (by decide) ?_
      obtain rfl := Option.some.inj hf
      exact ro_iret CF hr hlk dX9_having_20
end M_X9_having
section M_X9_isLacking
variable {p : Program} {l : Launch} {e : Env} {s : State} {m : MethodId} {args : Array Value} {below : List Frame} {meth : Method} {c : Code} {Q : State → Prop} {A : Nat → Prop} {D : va_G} {cI cB cT : ClassId}
variable {a_w a_w_codes a_w_masks a_w_alike a_w_havers : Nat}
def rm_X9_isLacking : Room := { frames := 1, cells := 0, slots := 0, locals := 21 }
def f_X9_isLacking (w_havers : (Nat → Int32)) (p1 : Int32) (p2 : Int32) : Option (Int32) := ((f_X9_having w_havers p2).bind fun o1 => (if (p1 &&& (o1 ^^^ (-1 : Int32))) = 0 then some (0 : Int32) else some (1 : Int32)))
set_option maxHeartbeats 4000000 in
set_option maxRecDepth 100000 in
theorem c_X9_isLacking (l : Launch) (D : va_G) (cI cB cT : ClassId) (a_w a_w_codes a_w_masks a_w_alike a_w_havers : Nat) (w_size : Int32) (w_codes : (Nat → Int32)) (w_masks : (Nat → Int32)) (w_alike : (Nat → Int32)) (w_havers : (Nat → Int32)) (p1 : Int32) (p2 : Int32) {z : Int32} (hf : f_X9_isLacking w_havers p1 p2 = some z) :
    Met l yX9_isLacking (Cond.code yX9_isLacking cX9_isLacking 3 (some .boolean) :: wsAll) rm_X9_isLacking (Pro [.ref a_w, .int p1, .int p2] D cI cB cT (wd_w a_w a_w_codes a_w_masks a_w_alike a_w_havers cI cB cT w_size w_codes w_masks w_alike w_havers)) (Qr (some (.int z))) 0 0 (fun _ => False) := by
  refine ro_intro RX9 (by decide +kernel) rfl (Nat.le_of_ble_eq_true rfl) ?_
  intro p e s m below meth c ls CF hr hlk hG hP hl
  have hl : lv_has ls 3 [(0, .ref a_w), (1, .int p1), (2, .int p2)] := hl
  obtain ⟨hx, hb, hml, hown, hts⟩ := id CF
  unfold f_X9_isLacking at hf
  refine lv_iload_n hx hb dX9_isLacking_0 rfl (lv_at hl 1 rfl) ?_
  refine lv_aload_n hx hb dX9_isLacking_1 rfl (lv_at hl 0 rfl) ?_
  refine lv_iload_n hx hb dX9_isLacking_2 rfl (lv_at hl 2 rfl) ?_
  obtain ⟨o1, e2, hf⟩ := lp_bind hf
  refine ro_Vi (x := o1) (As := [.int p2]) (rest := [.int p1]) CF (c_X9_having l D cI cB cT a_w a_w_codes a_w_masks a_w_alike a_w_havers w_size w_codes w_masks w_alike w_havers p2 e2) ok_X9_having wm_558 ⟨rfl, rfl, Nat.le_of_ble_eq_true rfl, Nat.le_of_ble_eq_true rfl⟩ hG hP 0 7 vq_7 rfl ce_w_0 rfl hl.1 rfl (Nat.le_of_ble_eq_true rfl) ⟨Nat.zero_le _, Nat.zero_le _⟩ dX9_isLacking_3 ?_
  refine lv_iconst (v := (-1 : Int32)) hx hb dX9_isLacking_6 (by decide) ?_
  refine lv_ixor hx hb dX9_isLacking_7 ?_
  refine lv_iand hx hb dX9_isLacking_8 ?_
  refine lv_if_eq (tgt := 16) hx hb dX9_isLacking_9 (by decide) (fun c3 => ?_) (fun c3 => ?_)
  · have hf := tk c3 hf
    refine lv_iconst (v := (0 : Int32)) hx hb dX9_isLacking_16 (by decide) ?_
    obtain rfl := Option.some.inj hf
    exact ro_zret CF hr hlk (Or.inl rfl) dX9_isLacking_17
  · have hf := fk c3 hf
    refine lv_iconst (v := (1 : Int32)) hx hb dX9_isLacking_12 (by decide) ?_
    refine lv_goto (tgt := 17) hx hb dX9_isLacking_13 (by decide) ?_
    obtain rfl := Option.some.inj hf
    exact ro_zret CF hr hlk (Or.inr rfl) dX9_isLacking_17
end M_X9_isLacking
section M_X9_fullestMask
variable {p : Program} {l : Launch} {e : Env} {s : State} {m : MethodId} {args : Array Value} {below : List Frame} {meth : Method} {c : Code} {Q : State → Prop} {A : Nat → Prop} {D : va_G} {cI cB cT : ClassId}
variable {a_w a_w_codes a_w_masks a_w_alike a_w_havers : Nat}
def rm_X9_fullestMask : Room := { frames := 1, cells := 0, slots := 0, locals := 22 }
def B_X9_fullestMask_5 (w_size : Int32) (w_masks : (Nat → Int32)) (x1 : Int32) (x2 : Int32) (x3 : Int32) (x4 : Int32) : Option ((Int32 × Int32) ⊕ (Int32)) := (if w_size ≤ x4 then some (Sum.inr x3) else ((f_X9_maskOf w_size w_masks x4 x2).bind fun o2 => ((f_J6_bitCount_0f7a4 o2).bind fun o4 => ((f_J6_bitCount_0f7a4 x3).bind fun o6 => (if ((x1 >>> (x4 &&& 31)) &&& (1 : Int32)) = 0 then some (Sum.inl (x3, (x4 + (1 : Int32)))) else (if 0 < (o4 - o6) then some (Sum.inl (o2, (x4 + (1 : Int32)))) else (if (o4 - o6) = 0 then (if o2 ≤ x3 then some (Sum.inl (x3, (x4 + (1 : Int32)))) else some (Sum.inl (o2, (x4 + (1 : Int32))))) else some (Sum.inl (x3, (x4 + (1 : Int32)))))))))))
def f_X9_fullestMask (w_size : Int32) (w_masks : (Nat → Int32)) (p1 : Int32) (p2 : Int32) : Option (Int32) := ((lp (fun v => B_X9_fullestMask_5 w_size w_masks p1 p2 v.1 v.2) KN ((0 : Int32), (0 : Int32))).bind fun o12 => some o12)
set_option maxHeartbeats 4000000 in
set_option maxRecDepth 100000 in
theorem B_X9_fullestMask_5_W {w_size : Int32} {w_codes : (Nat → Int32)} {w_masks : (Nat → Int32)} {w_alike : (Nat → Int32)} {w_havers : (Nat → Int32)} {x1 : Int32} {x2 : Int32} {x3 : Int32} {x4 : Int32} (CF : CallFix p m c cX9_fullestMask 7 s args wsAll RX9) (hG : Gd D cI cB cT s) {z : (Int32 × Int32) ⊕ (Int32)} (hk : ∀ (v' : Int32 × Int32) (ls : Array Slot), z = Sum.inl v' → lv_has ls 7 [(0, .ref a_w), (1, .int x1), (2, .int x2), (3, .int (v'.1)), (4, .int (v'.2))] → W p l e rm_X9_fullestMask s m args below meth c s.heap [] 0 0 Q (F0 m 5 ls [])) (hx0 : ∀ (o' : Int32) (ls : Array Slot), z = Sum.inr o' → lv_has ls 7 [(3, .int (o'))] → W p l e rm_X9_fullestMask s m args below meth c s.heap [] 0 0 Q (F0 m 69 ls [])) {ls : Array Slot} (hP : va_P D vwCl (wd_w a_w a_w_codes a_w_masks a_w_alike a_w_havers cI cB cT w_size w_codes w_masks w_alike w_havers) s.heap) (hl : lv_has ls 7 [(0, .ref a_w), (1, .int x1), (2, .int x2), (3, .int x3), (4, .int x4)]) (hf : B_X9_fullestMask_5 w_size w_masks x1 x2 x3 x4 = some z) : W p l e rm_X9_fullestMask s m args below meth c s.heap [] 0 0 Q (F0 m 5 ls []) := by
  obtain ⟨hx, hb, hml, hown, hts⟩ := id CF
  unfold B_X9_fullestMask_5 at hf
  refine lv_iload hx hb dX9_fullestMask_5 (lv_at hl 4 rfl) ?_
  refine lv_aload_n hx hb dX9_fullestMask_7 rfl (lv_at hl 0 rfl) ?_
  refine va_get (D := D) (ci := 7) (v := .int w_size) (C := RX9) (T := TX9) (N := 5) hx hb hts fin_X9 hown hG.1 hP 0 ce_w_0 vq_7 0 (by decide) (hts _ wm_123) (fun _ h9 => h9) rfl dX9_fullestMask_8 ?_
  refine lv_icmp_ge (tgt := 69) hx hb dX9_fullestMask_11 (by decide) (fun c1 => ?_) (fun c1 => ?_)
  · have hf := tk c1 hf
    exact hx0 _ _ (Option.some.inj hf).symm (lv_sub hl [3] rfl)
  · have hf := fk c1 hf
    refine lv_aload_n hx hb dX9_fullestMask_14 rfl (lv_at hl 0 rfl) ?_
    refine lv_iload hx hb dX9_fullestMask_15 (lv_at hl 4 rfl) ?_
    refine lv_iload_n hx hb dX9_fullestMask_17 rfl (lv_at hl 2 rfl) ?_
    obtain ⟨o2, e3, hf⟩ := lp_bind hf
    refine ro_Vi (x := o2) (As := [.int x4, .int x2]) (rest := []) CF (c_X9_maskOf l D cI cB cT a_w a_w_codes a_w_masks a_w_alike a_w_havers w_size w_codes w_masks w_alike w_havers x4 x2 e3) ok_X9_maskOf wm_545 ⟨rfl, rfl, Nat.le_of_ble_eq_true rfl, Nat.le_of_ble_eq_true rfl⟩ hG hP 0 7 vq_7 rfl ce_w_0 rfl hl.1 rfl (Nat.le_of_ble_eq_true rfl) ⟨Nat.zero_le _, Nat.zero_le _⟩ dX9_fullestMask_18 ?_
    refine lv_istore (lv' := [(5, .int o2), (0, .ref a_w), (1, .int x1), (2, .int x2), (3, .int x3), (4, .int x4)]) hx hb dX9_fullestMask_21 hl (by decide) rfl (fun ls hl => ?_)
    refine lv_iload hx hb dX9_fullestMask_23 (lv_at hl 0 rfl) ?_
    obtain ⟨o4, e5, hf⟩ := lp_bind hf
    refine ro_Si (x := o4) (As := [.int o2]) (rest := []) CF (c_J6_bitCount_0f7a4 l D cI cB cT o2 e5) ok_J6_bitCount_0f7a4 wm_553 ⟨rfl, rfl, Nat.le_of_ble_eq_true rfl, Nat.le_of_ble_eq_true rfl⟩ hG wd_E_P rfl hl.1 rfl (Nat.le_of_ble_eq_true rfl) ⟨Nat.zero_le _, Nat.zero_le _⟩ dX9_fullestMask_25 ?_
    refine lv_iload_n hx hb dX9_fullestMask_28 rfl (lv_at hl 4 rfl) ?_
    obtain ⟨o6, e7, hf⟩ := lp_bind hf
    refine ro_Si (x := o6) (As := [.int x3]) (rest := [.int o4]) CF (c_J6_bitCount_0f7a4 l D cI cB cT x3 e7) ok_J6_bitCount_0f7a4 wm_553 ⟨rfl, rfl, Nat.le_of_ble_eq_true rfl, Nat.le_of_ble_eq_true rfl⟩ hG wd_E_P rfl hl.1 rfl (Nat.le_of_ble_eq_true rfl) ⟨Nat.zero_le _, Nat.zero_le _⟩ dX9_fullestMask_29 ?_
    refine lv_isub hx hb dX9_fullestMask_32 ?_
    refine lv_istore (lv' := [(6, .int (o4 - o6)), (5, .int o2), (0, .ref a_w), (1, .int x1), (2, .int x2), (3, .int x3), (4, .int x4)]) hx hb dX9_fullestMask_33 hl (by decide) rfl (fun ls hl => ?_)
    refine lv_iload_n hx hb dX9_fullestMask_35 rfl (lv_at hl 3 rfl) ?_
    refine lv_iload hx hb dX9_fullestMask_36 (lv_at hl 6 rfl) ?_
    refine lv_ishr hx hb dX9_fullestMask_38 ?_
    refine lv_iconst (v := (1 : Int32)) hx hb dX9_fullestMask_39 (by decide) ?_
    refine lv_iand hx hb dX9_fullestMask_40 ?_
    refine lv_if_eq (tgt := 63) hx hb dX9_fullestMask_41 (by decide) (fun c8 => ?_) (fun c8 => ?_)
    · have hf := tk c8 hf
      refine lv_iinc (v := (x4 + (1 : Int32))) (lv' := [(4, .int (x4 + (1 : Int32))), (6, .int (o4 - o6)), (5, .int o2), (0, .ref a_w), (1, .int x1), (2, .int x2), (3, .int x3)]) hx hb dX9_fullestMask_63 hl (k := 6) rfl (iinc_eq (by decide)) (by decide) rfl (fun ls hl => ?_)
      refine lv_goto (tgt := 5) hx hb dX9_fullestMask_66 (by decide) ?_
      exact hk _ _ (Option.some.inj hf).symm (lv_sub hl [3, 4, 5, 6, 0] rfl)
    · have hf := fk c8 hf
      refine lv_iload hx hb dX9_fullestMask_44 (lv_at hl 0 rfl) ?_
      refine lv_if_gt (tgt := 60) hx hb dX9_fullestMask_46 (by decide) (fun c9 => ?_) (fun c9 => ?_)
      · have hf := tk c9 hf
        refine lv_iload hx hb dX9_fullestMask_60 (lv_at hl 1 rfl) ?_
        refine lv_istore_n (lv' := [(3, .int o2), (6, .int (o4 - o6)), (5, .int o2), (0, .ref a_w), (1, .int x1), (2, .int x2), (4, .int x4)]) hx hb dX9_fullestMask_62 rfl hl (by decide) rfl (fun ls hl => ?_)
        refine lv_iinc (v := (x4 + (1 : Int32))) (lv' := [(4, .int (x4 + (1 : Int32))), (3, .int o2), (6, .int (o4 - o6)), (5, .int o2), (0, .ref a_w), (1, .int x1), (2, .int x2)]) hx hb dX9_fullestMask_63 hl (k := 6) rfl (iinc_eq (by decide)) (by decide) rfl (fun ls hl => ?_)
        refine lv_goto (tgt := 5) hx hb dX9_fullestMask_66 (by decide) ?_
        exact hk _ _ (Option.some.inj hf).symm (lv_sub hl [4, 5, 6, 1, 0] rfl)
      · have hf := fk c9 hf
        refine lv_iload hx hb dX9_fullestMask_49 (lv_at hl 0 rfl) ?_
        refine lv_if_ne (tgt := 63) hx hb dX9_fullestMask_51 (by decide) (fun c10 => ?_) (fun c10 => ?_)
        · have hf := fk c10 hf
          refine lv_iinc (v := (x4 + (1 : Int32))) (lv' := [(4, .int (x4 + (1 : Int32))), (6, .int (o4 - o6)), (5, .int o2), (0, .ref a_w), (1, .int x1), (2, .int x2), (3, .int x3)]) hx hb dX9_fullestMask_63 hl (k := 6) rfl (iinc_eq (by decide)) (by decide) rfl (fun ls hl => ?_)
          refine lv_goto (tgt := 5) hx hb dX9_fullestMask_66 (by decide) ?_
          exact hk _ _ (Option.some.inj hf).symm (lv_sub hl [3, 4, 5, 6, 0] rfl)
        · have hf := tk c10 hf
          refine lv_iload hx hb dX9_fullestMask_54 (lv_at hl 1 rfl) ?_
          refine lv_iload_n hx hb dX9_fullestMask_56 rfl (lv_at hl 5 rfl) ?_
          refine lv_icmp_le (tgt := 63) hx hb dX9_fullestMask_57 (by decide) (fun c11 => ?_) (fun c11 => ?_)
          · have hf := tk c11 hf
            refine lv_iinc (v := (x4 + (1 : Int32))) (lv' := [(4, .int (x4 + (1 : Int32))), (6, .int (o4 - o6)), (5, .int o2), (0, .ref a_w), (1, .int x1), (2, .int x2), (3, .int x3)]) hx hb dX9_fullestMask_63 hl (k := 6) rfl (iinc_eq (by decide)) (by decide) rfl (fun ls hl => ?_)
            refine lv_goto (tgt := 5) hx hb dX9_fullestMask_66 (by decide) ?_
            exact hk _ _ (Option.some.inj hf).symm (lv_sub hl [3, 4, 5, 6, 0] rfl)
          · have hf := fk c11 hf
            refine lv_iload hx hb dX9_fullestMask_60 (lv_at hl 1 rfl) ?_
            refine lv_istore_n (lv' := [(3, .int o2), (6, .int (o4 - o6)), (5, .int o2), (0, .ref a_w), (1, .int x1), (2, .int x2), (4, .int x4)]) hx hb dX9_fullestMask_62 rfl hl (by decide) rfl (fun ls hl => ?_)
            refine lv_iinc (v := (x4 + (1 : Int32))) (lv' := [(4, .int (x4 + (1 : Int32))), (3, .int o2), (6, .int (o4 - o6)), (5, .int o2), (0, .ref a_w), (1, .int x1), (2, .int x2)]) hx hb dX9_fullestMask_63 hl (k := 6) rfl (iinc_eq (by decide)) (by decide) rfl (fun ls hl => ?_)
            refine lv_goto (tgt := 5) hx hb dX9_fullestMask_66 (by decide) ?_
            exact hk _ _ (Option.some.inj hf).symm (lv_sub hl [4, 5, 6, 1, 0] rfl)
set_option maxHeartbeats 4000000 in
set_option maxRecDepth 100000 in
theorem L_X9_fullestMask_5_W {w_size : Int32} {w_codes : (Nat → Int32)} {w_masks : (Nat → Int32)} {w_alike : (Nat → Int32)} {w_havers : (Nat → Int32)} {x1 : Int32} {x2 : Int32} (CF : CallFix p m c cX9_fullestMask 7 s args wsAll RX9) (hG : Gd D cI cB cT s) {o : Int32} (hx0 : ∀ (ls : Array Slot), lv_has ls 7 [(3, .int o)] → W p l e rm_X9_fullestMask s m args below meth c s.heap [] 0 0 Q (F0 m 69 ls [])) : ∀ (n : Nat) (x3 : Int32) (x4 : Int32) (ls : Array Slot), va_P D vwCl (wd_w a_w a_w_codes a_w_masks a_w_alike a_w_havers cI cB cT w_size w_codes w_masks w_alike w_havers) s.heap → lv_has ls 7 [(0, .ref a_w), (1, .int x1), (2, .int x2), (3, .int x3), (4, .int x4)] → lp (fun v => B_X9_fullestMask_5 w_size w_masks x1 x2 v.1 v.2) n (x3, x4) = some o → W p l e rm_X9_fullestMask s m args below meth c s.heap [] 0 0 Q (F0 m 5 ls []) := by
  intro n
  induction n with
  | zero =>
    intro x3 x4 ls hP hl hf
    exact (lp_zero hf).elim
  | succ n ih =>
    intro x3 x4 ls hP hl hf
    obtain ⟨z, hz, hf⟩ := lp_succ hf
    refine B_X9_fullestMask_5_W CF hG ?_ ?_ hP hl hz
    · intro v' ls ez hl
      rcases hf with ⟨v2, ev, hf⟩ | ev
      · cases Sum.inl.inj (ez.symm.trans ev)
        exact ih v'.1 v'.2 ls hP hl hf
      · exact (lp_lr (ez.symm.trans ev)).elim
    · intro o' ls ez hl
      rcases hf with ⟨v2, ev, hf⟩ | ev
      · exact (lp_lr (ev.symm.trans ez)).elim
      · cases Sum.inr.inj (ez.symm.trans ev)
        exact hx0 ls  hl
set_option maxHeartbeats 4000000 in
set_option maxRecDepth 100000 in
theorem c_X9_fullestMask (l : Launch) (D : va_G) (cI cB cT : ClassId) (a_w a_w_codes a_w_masks a_w_alike a_w_havers : Nat) (w_size : Int32) (w_codes : (Nat → Int32)) (w_masks : (Nat → Int32)) (w_alike : (Nat → Int32)) (w_havers : (Nat → Int32)) (p1 : Int32) (p2 : Int32) {z : Int32} (hf : f_X9_fullestMask w_size w_masks p1 p2 = some z) :
    Met l yX9_fullestMask (Cond.code yX9_fullestMask cX9_fullestMask 7 (some .int) :: wsAll) rm_X9_fullestMask (Pro [.ref a_w, .int p1, .int p2] D cI cB cT (wd_w a_w a_w_codes a_w_masks a_w_alike a_w_havers cI cB cT w_size w_codes w_masks w_alike w_havers)) (Qr (some (.int z))) 0 0 (fun _ => False) := by
  refine ro_intro RX9 (by decide +kernel) rfl (Nat.le_of_ble_eq_true rfl) ?_
  intro p e s m below meth c ls CF hr hlk hG hP hl
  have hl : lv_has ls 7 [(0, .ref a_w), (1, .int p1), (2, .int p2)] := hl
  obtain ⟨hx, hb, hml, hown, hts⟩ := id CF
  unfold f_X9_fullestMask at hf
  refine lv_iconst (v := (0 : Int32)) hx hb dX9_fullestMask_0 (by decide) ?_
  refine lv_istore_n (lv' := [(3, .int (0 : Int32)), (0, .ref a_w), (1, .int p1), (2, .int p2)]) hx hb dX9_fullestMask_1 rfl hl (by decide) rfl (fun ls hl => ?_)
  refine lv_iconst (v := (0 : Int32)) hx hb dX9_fullestMask_2 (by decide) ?_
  refine lv_istore (lv' := [(4, .int (0 : Int32)), (3, .int (0 : Int32)), (0, .ref a_w), (1, .int p1), (2, .int p2)]) hx hb dX9_fullestMask_3 hl (by decide) rfl (fun ls hl => ?_)
  obtain ⟨o12, e13, hf⟩ := lp_bind hf
  refine L_X9_fullestMask_5_W CF hG ?_ KN _ _ _ hP (lv_sub hl [2, 3, 4, 1, 0] rfl) e13
  intro ls hl
  refine lv_iload_n hx hb dX9_fullestMask_69 rfl (lv_at hl 0 rfl) ?_
  obtain rfl := Option.some.inj hf
  exact ro_iret CF hr hlk dX9_fullestMask_70
end M_X9_fullestMask
