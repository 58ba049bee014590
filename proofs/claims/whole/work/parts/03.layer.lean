/-! the layer: contracts that name their answer -/
abbrev tyL (cI cB cT : ClassId) : List (ClassId × FieldType) := [(cI, .int), (cB, .byte), (cT, .object RX7)]
def nestT : List (String × Nat × MethodName × String) := [(RX10, 9, yX7_init, RX10), (RX7, 11, yX9_init, RX10), (RX7, 20, yX1_init, RX10), (RX10, 22, yX4_init, RX10), (RX4, 11, yX8_init, RX10), (RX4, 20, yX7_init, RX10), (RX10, 29, yX0_init, RX10), (RX10, 36, yX6_init, RX10), (RX10, 43, yX1_init, RX10), (RX3, 44, yX10_leastOf, RX10), (RX5, 23, yX10_isBelow, RX10), (RX6, 39, yX10_leastOf, RX10), (RX6, 60, yX10_isBelow, RX10), (RX2, 50, yX10_leastOf, RX10)]
def Gd (D : va_G) (cI cB cT : ClassId) (U : State) : Prop := va_K D vwCl (tyL cI cB cT) U ∧ (∀ t ∈ nestT, va_Nw (.methodLinkNest t.1 t.2.1 t.2.2.1 t.2.2.2) U) ∧ va_AO RX7 U
theorem Gd.warm {D : va_G} {cI cB cT : ClassId} {s U : State} (hW : s.WarmedH U.vm) (h : Gd D cI cB cT s) : Gd D cI cB cT U := ⟨va_K.moved hW.alike h.1, fun t ht => va_Nw.warmM hW (h.2.1 t ht), va_AO.moved hW.alike h.2.2⟩
theorem Gd.calling {D : va_G} {cI cB cT : ClassId} {U : State} {g : JFrame} {mk : MethodId} {a : Array Value} (h : Gd D cI cB cT U) : Gd D cI cB cT (U.calling g mk a) := ⟨va_K.moved (u := U) (U := U.calling g mk a) (Vm.Alike.refl U.vm) h.1, fun t ht => va_Nw.same rfl rfl (h.2.1 t ht), va_AO.moved (u := U) (U := U.calling g mk a) (Vm.Alike.refl U.vm) h.2.2⟩
def Qr (r : Option Value) : Array Value → State → Outcome → State → Prop := fun _ st oc t => oc = .returned r ∧ t.heap = st.heap
def Qw (r : Option Value) (D : va_G) (w : va_W) (A : Nat → Prop) : Array Value → State → Outcome → State → Prop := fun _ st oc t => oc = .returned r ∧ va_P D vwCl w t.heap ∧ va_F A st t
abbrev Pro (av : List Value) (D : va_G) (cI cB cT : ClassId) (w : va_W) : Array Value → State → Prop := va_Pc av (fun U => Gd D cI cB cT U ∧ va_P D vwCl w U.heap)
abbrev Pwr (av : List Value) (D : va_G) (cI cB cT : ClassId) (w : va_W) (sz : Nat) : Array Value → State → Prop := va_Pc av (fun U => U.heap.size = sz ∧ Gd D cI cB cT U ∧ va_P D vwCl w U.heap ∧ va_D (fun _ => True) w)
theorem Pro_blind {av : List Value} {D : va_G} {cI cB cT : ClassId} {w : va_W} : FrameBlind (Pro av D cI cB cT w) := fun _ _ _ _ q => ⟨q.1, q.2.1.calling, q.2.2⟩
theorem Pwr_blind {av : List Value} {D : va_G} {cI cB cT : ClassId} {w : va_W} {sz : Nat} : FrameBlind (Pwr av D cI cB cT w sz) := fun _ _ _ _ q => ⟨q.1, q.2.1, q.2.2.1.calling, q.2.2.2⟩
theorem ro_intro {l : Launch} {y : MethodName} {cc : ByteArray} {maxL : Nat} {ret : Option FieldType} {rm : Room} {D : va_G} {cI cB cT : ClassId} {w : va_W} {av : List Value} {r : Option Value} (own : String) (hy : plainName y.cls = true) (hoc : y.cls = own) (hn : (lg_sl av).length ≤ maxL)
    (body : ∀ (p : Program) (e : Env) (s : State) (m : MethodId) (below : List Frame) (meth : Method) (c : Code) (ls : Array Slot), CallFix p m c cc maxL s av.toArray wsAll own → meth.sig.returnType = ret → meth.locks = false → Gd D cI cB cT s → va_P D vwCl w s.heap → lv_has ls maxL (lv_args 0 av) → W p l e rm s m av.toArray below meth c s.heap [] 0 0 (MQ below (Qr r) av.toArray s 0 0 (fun _ => False)) (F0 m 0 ls [])) :
    Met l y (Cond.code y cc maxL ret :: wsAll) rm (Pro av D cI cB cT w) (Qr r) 0 0 (fun _ => False) := by
  refine Met.ofW (cc := cc) (maxL := maxL) (ret := ret) hy rfl ?_
  intro p e s m args below meth c s₁ B hml hv
  obtain ⟨rfl, hG, hP⟩ := hv
  have hts0 := atoms_spec (ws := Cond.code y cc maxL ret :: wsAll) B.pre
  have hts : ∀ w ∈ wsAll, w.before av.toArray s = true := fun w h => hts0 w (List.mem_cons_of_mem _ h)
  have hown : s.vm.findClass own = some m.cls := hoc ▸ findClass_of_methodNamed B.named
  rw [lg_entry_eq]
  exact body p e s m below meth c _ ⟨B.exec, B.bytes, hml, hown, hts⟩ B.returns B.notSynchronized hG hP (lv_entry av hn)
theorem wr_intro {l : Launch} {y : MethodName} {cc : ByteArray} {maxL : Nat} {ret : Option FieldType} {rm : Room} {D : va_G} {cI cB cT : ClassId} {w w' : va_W} {av : List Value} {r : Option Value} {sz : Nat} (own : String) (hy : plainName y.cls = true) (hoc : y.cls = own) (hn : (lg_sl av).length ≤ maxL)
    (body : ∀ (p : Program) (e : Env) (s : State) (m : MethodId) (below : List Frame) (meth : Method) (c : Code) (ls : Array Slot) (A : Nat → Prop) (H : Heap) (locs : List Loc), CallFix p m c cc maxL s av.toArray wsAll own → meth.sig.returnType = ret → meth.locks = false → Gd D cI cB cT s → va_P D vwCl w H → va_D A w → va_S A s.heap H locs → (∀ q : Nat, s.heap.size ≤ q → A q) → lv_has ls maxL (lv_args 0 av) → W p l e rm s m av.toArray below meth c H locs 0 0 (MQ below (Qw r D w' A) av.toArray s 0 0 A) (F0 m 0 ls [])) :
    Met l y (Cond.code y cc maxL ret :: wsAll) rm (Pwr av D cI cB cT w sz) (Qw r D w' (va_A w sz)) 0 0 (va_A w sz) := by
  refine Met.ofW (cc := cc) (maxL := maxL) (ret := ret) hy rfl ?_
  intro p e s m args below meth c s₁ B hml hv
  obtain ⟨rfl, hsz, hG, hP, hD0⟩ := hv
  subst hsz
  have hts0 := atoms_spec (ws := Cond.code y cc maxL ret :: wsAll) B.pre
  have hts : ∀ w ∈ wsAll, w.before av.toArray s = true := fun w h => hts0 w (List.mem_cons_of_mem _ h)
  have hown : s.vm.findClass own = some m.cls := hoc ▸ findClass_of_methodNamed B.named
  rw [lg_entry_eq]
  exact body p e s m below meth c _ (va_A w s.heap.size) s.heap [] ⟨B.exec, B.bytes, hml, hown, hts⟩ B.returns B.notSynchronized hG hP hD0.self va_S.rf (fun q h => Or.inr h) (lv_entry av hn)
theorem narrow_z {v : Int32} (h : v = 0 ∨ v = 1) : narrow .boolean (.int v) = .int v := by
  rcases h with rfl | rfl <;> rfl
def pb : va_W → List Nat → va_W → va_W
  | ws, i :: is, c :: cs => pb (ws.set i c) is cs
  | ws, [], _ => ws
  | ws, _ :: _, [] => ws
theorem pb_get : ∀ (is : List Nat) (cs ws : va_W) (k : Nat) (q : Nat × va_E), is.length = cs.length → (pb ws is cs)[k]? = some q → (ws[k]? = some q ∧ k ∉ is) ∨ ∃ j : Nat, cs[j]? = some q
  | [], cs, ws, k, q, _, h => Or.inl ⟨by simpa [pb] using h, List.not_mem_nil⟩
  | i :: is, [], ws, k, q, hl, h => by simp at hl
  | i :: is, c :: cs, ws, k, q, hl, h => by
    have hl' : is.length = cs.length := by simpa using hl
    rcases pb_get is cs (ws.set i c) k q hl' h with ⟨h1, h2⟩ | ⟨j, hj⟩
    · by_cases hik : i = k
      · subst hik
        rw [List.getElem?_set] at h1
        simp only [if_true] at h1
        by_cases hlt : i < ws.length
        · rw [if_pos hlt] at h1
          exact Or.inr ⟨0, by rw [← h1]; rfl⟩
        · rw [if_neg hlt] at h1
          cases h1
      · rw [List.getElem?_set_ne hik] at h1
        refine Or.inl ⟨h1, fun hm => ?_⟩
        rcases List.mem_cons.mp hm with e | e
        · exact hik e.symm
        · exact h2 e
    · exact Or.inr ⟨j + 1, by simpa using hj⟩
theorem va_D_fst {A : Nat → Prop} {ws ws' : va_W} (h : ws'.map Prod.fst = ws.map Prod.fst) (hD : va_D A ws) : va_D A ws' := by
  have key : ∀ (k : Nat) (q : Nat × va_E), ws'[k]? = some q → ∃ q0, ws[k]? = some q0 ∧ q0.1 = q.1 := by
    intro k q hk
    have h1 : (ws'.map Prod.fst)[k]? = some q.1 := by rw [List.getElem?_map, hk]; rfl
    rw [h, List.getElem?_map] at h1
    cases hw : ws[k]? with
    | none => rw [hw] at h1; cases h1
    | some q0 => rw [hw] at h1; exact ⟨q0, rfl, Option.some.inj h1⟩
  refine ⟨fun i j x y hx hy hxy => ?_, fun k q hk => ?_⟩
  · obtain ⟨x0, hx0, ex⟩ := key i x hx
    obtain ⟨y0, hy0, ey⟩ := key j y hy
    exact hD.1 i j x0 y0 hx0 hy0 (by rw [ex, ey, hxy])
  · obtain ⟨q0, hq0, eq⟩ := key k q hk
    rw [← eq]
    exact hD.2 k q0 hq0
theorem lp_bind {α β : Type} {a : Option α} {f : α → Option β} {b : β} (h : a.bind f = some b) : ∃ x, a = some x ∧ f x = some b := Option.bind_eq_some_iff.mp h
def lp {V O : Type} (B : V → Option (V ⊕ O)) : Nat → V → Option O
  | 0, _ => none
  | n + 1, v => (B v).bind (fun x => match x with
    | .inl v' => lp B n v'
    | .inr o => some o)
theorem lp_succ {V O : Type} {B : V → Option (V ⊕ O)} {n : Nat} {v : V} {o : O} (h : lp B (n + 1) v = some o) : ∃ x, B v = some x ∧ ((∃ v', x = .inl v' ∧ lp B n v' = some o) ∨ x = .inr o) := by
  obtain ⟨x, hx, h2⟩ := lp_bind h
  refine ⟨x, hx, ?_⟩
  cases x with
  | inl v' => exact Or.inl ⟨v', rfl, h2⟩
  | inr o' => exact Or.inr (congrArg Sum.inr (Option.some.inj h2))
def KN : Nat := 2000
def okV (C : String) (y : MethodName) (bytes : ByteArray) (maxL : Nat) (ret : Option FieldType) (n : Nat) : Prop := Cond.code y bytes maxL ret ∈ wsAll ∧ Cond.initialized y.cls ∈ wsAll ∧ (y.cls ≠ "java/lang/invoke/MethodHandle" ∧ y.cls ≠ "java/lang/invoke/VarHandle" ∧ (parseMethodDescriptor y.desc).map (fun d => d.parameters.length) = some n) ∧ Cond.instanceMethod y ∈ wsAll ∧ Cond.selects C y y ∈ wsAll
def okS (y : MethodName) (bytes : ByteArray) (maxL : Nat) (ret : Option FieldType) (n : Nat) : Prop := Cond.code y bytes maxL ret ∈ wsAll ∧ Cond.initialized y.cls ∈ wsAll ∧ (y.cls ≠ "java/lang/invoke/MethodHandle" ∧ y.cls ≠ "java/lang/invoke/VarHandle" ∧ (parseMethodDescriptor y.desc).map (fun d => d.parameters.length) = some n) ∧ Cond.static y ∈ wsAll
abbrev rmOk (rm R : Room) (maxL : Nat) : Prop := rm.cells = 0 ∧ rm.slots = 0 ∧ rm.frames + 1 ≤ R.frames ∧ 8 + (maxL + 11) + rm.locals ≤ R.locals
section LY
variable {p : Program} {l : Launch} {e : Env} {R : Room} {s : State} {m : MethodId} {args : Array Value} {below : List Frame} {meth : Method} {c : Code} {H : Heap} {locs : List Loc} {cells slots : Nat} {Q : State → Prop}
variable {pc : Nat} {ls : Array Slot} {rest st0 : List Value} {a : Array Value} {cc : ByteArray} {nL : Nat} {own : String} {D : va_G} {cI cB cT : ClassId}
theorem ro_iret {v : Int32} (CF : CallFix p m c cc nL s args wsAll own) (hr : meth.sig.returnType = some .int) (hlk : meth.locks = false) (hdg : decode cc pc = .ok (.ireturn, 1)) : W p l e R s m args below meth c s.heap [] cells slots (MQ below (Qr (some (.int v))) args s cells slots (fun _ => False)) (F0 m pc ls [.int v]) :=
  W.iret CF.1 CF.2.1 hr (fun t ht _ => ⟨rfl, ht⟩) (fun _ h => by cases h) hdg hlk
theorem ro_zret {v : Int32} (CF : CallFix p m c cc nL s args wsAll own) (hr : meth.sig.returnType = some .boolean) (hlk : meth.locks = false) (hv : v = 0 ∨ v = 1) (hdg : decode cc pc = .ok (.ireturn, 1)) : W p l e R s m args below meth c s.heap [] cells slots (MQ below (Qr (some (.int v))) args s cells slots (fun _ => False)) (F0 m pc ls [.int v]) :=
  W.zret CF.1 CF.2.1 hr (narrow_z hv) (fun t ht _ => ⟨rfl, ht⟩) (fun _ h => by cases h) hdg hlk
theorem ro_lret {v : Int64} (CF : CallFix p m c cc nL s args wsAll own) (hr : meth.sig.returnType = some .long) (hlk : meth.locks = false) (hdg : decode cc pc = .ok (.lreturn, 1)) : W p l e R s m args below meth c s.heap [] cells slots (MQ below (Qr (some (.long v))) args s cells slots (fun _ => False)) (F0 m pc ls [.long v]) :=
  W.lret CF.1 CF.2.1 hr (fun t ht _ => ⟨rfl, ht⟩) (fun _ h => by cases h) hdg hlk
theorem wr_iret {v : Int32} {w : va_W} {A : Nat → Prop} (CF : CallFix p m c cc nL s args wsAll own) (hr : meth.sig.returnType = some .int) (hlk : meth.locks = false) (hP : va_P D vwCl w H) (hS : va_S A s.heap H locs) (hdg : decode cc pc = .ok (.ireturn, 1)) : W p l e R s m args below meth c H locs cells slots (MQ below (Qw (some (.int v)) D w A) args s cells slots A) (F0 m pc ls [.int v]) :=
  W.iret CF.1 CF.2.1 hr (fun t ht _ => ⟨rfl, by rw [ht]; exact hP, hS.F ht⟩) hS.2.2 hdg hlk
theorem wr_zret {v : Int32} {w : va_W} {A : Nat → Prop} (CF : CallFix p m c cc nL s args wsAll own) (hr : meth.sig.returnType = some .boolean) (hlk : meth.locks = false) (hv : v = 0 ∨ v = 1) (hP : va_P D vwCl w H) (hS : va_S A s.heap H locs) (hdg : decode cc pc = .ok (.ireturn, 1)) : W p l e R s m args below meth c H locs cells slots (MQ below (Qw (some (.int v)) D w A) args s cells slots A) (F0 m pc ls [.int v]) :=
  W.zret CF.1 CF.2.1 hr (narrow_z hv) (fun t ht _ => ⟨rfl, by rw [ht]; exact hP, hS.F ht⟩) hS.2.2 hdg hlk
theorem wr_lret {v : Int64} {w : va_W} {A : Nat → Prop} (CF : CallFix p m c cc nL s args wsAll own) (hr : meth.sig.returnType = some .long) (hlk : meth.locks = false) (hP : va_P D vwCl w H) (hS : va_S A s.heap H locs) (hdg : decode cc pc = .ok (.lreturn, 1)) : W p l e R s m args below meth c H locs cells slots (MQ below (Qw (some (.long v)) D w A) args s cells slots A) (F0 m pc ls [.long v]) :=
  W.lret CF.1 CF.2.1 hr (fun t ht _ => ⟨rfl, by rw [ht]; exact hP, hS.F ht⟩) hS.2.2 hdg hlk
theorem wr_vret {w : va_W} {A : Nat → Prop} (CF : CallFix p m c cc nL s args wsAll own) (hr : meth.sig.returnType = none) (hlk : meth.locks = false) (hP : va_P D vwCl w H) (hS : va_S A s.heap H locs) (hdg : decode cc pc = .ok (.return_, 1)) : W p l e R s m args below meth c H locs cells slots (MQ below (Qw none D w A) args s cells slots A) (F0 m pc ls []) :=
  W.vret CF.1 CF.2.1 hr (fun t ht _ => ⟨rfl, by rw [ht]; exact hP, hS.F ht⟩) hS.2.2 hdg hlk
theorem ro_core {r : Option Value} (hr : va_Run p l e R s m args below meth c H locs cells slots 0 0 (F0 m pc ls st0) rest (Qr r a) (fun _ => False))
    (kk : W p l e R s m args below meth c H locs cells slots Q (F0 m (pc + 3) ls (r.toList ++ rest))) : W p l e R s m args below meth c H locs cells slots Q (F0 m pc ls st0) := by
  intro T hT X
  obtain ⟨v, st₀, t, T', L, h0, X', hL, e1, e2, ⟨hv, hh⟩, st⟩ := hr T hT X
  cases hv
  have hL0 : L = [] := by
    cases L with
    | nil => rfl
    | cons q L => exact (hL q List.mem_cons_self).elim
  subst hL0
  rw [List.append_nil] at X'
  obtain ⟨t2, a1, b1⟩ := kk T' (by rw [e1, hh, h0]) X'
  exact ⟨t2, st t2 a1, b1⟩
theorem wr_core {r : Option Value} {ws wc wc' ws' : va_W} {A : Nat → Prop} (hr : va_Run p l e R s m args below meth c H locs cells slots 0 0 (F0 m pc ls st0) rest (Qw r D wc' (va_A wc H.size) a) (va_A wc H.size)) (hP : va_P D vwCl ws H) (hD : va_D A ws) (hS : va_S A s.heap H locs) (hA : ∀ q : Nat, s.heap.size ≤ q → A q) (isC : List Nat) (hC : isC.map (fun i => ws[i]?) = wc.map some) (hlen : isC.length = wc'.length) (hpb : ws' = pb ws isC wc') (hfst : ws'.map Prod.fst = ws.map Prod.fst)
    (kk : ∀ (H1 : Heap) (locs1 : List Loc), va_P D vwCl ws' H1 → va_D A ws' → va_S A s.heap H1 locs1 → W p l e R s m args below meth c H1 locs1 cells slots Q (F0 m (pc + 3) ls (r.toList ++ rest))) : W p l e R s m args below meth c H locs cells slots Q (F0 m pc ls st0) := by
  intro T hT X
  obtain ⟨v, st₀, t, T', L, h0, X', hL, e1, e2, ⟨hv, hP1, hz, hk⟩, st⟩ := hr T hT X
  cases hv
  rw [h0] at hz hk
  have hF := va_free (wc := wc) hD hS hA isC hC
  have hPn : va_P D vwCl ws' T'.heap := by
    intro k q hq
    rw [hpb] at hq
    rcases pb_get isC wc' ws k q hlen hq with ⟨h1, h2⟩ | ⟨j, hj⟩
    · have hlt := (hP k q h1).lt
      refine (hP k q h1).kept ?_
      rw [e1]
      refine hk q.1 hlt (fun hin => ?_)
      rcases hin with ⟨k2, ee, hk2⟩ | hin
      · have h3 : (isC.map (fun i => ws[i]?))[k2]? = some (some (q.1, ee)) := by rw [hC, List.getElem?_map, hk2]; rfl
        rw [List.getElem?_map] at h3
        cases hi : isC[k2]? with
        | none => rw [hi] at h3; cases h3
        | some i =>
          rw [hi] at h3
          have h4 : ws[i]? = some (q.1, ee) := Option.some.inj h3
          have h5 := hD.1 k i q (q.1, ee) h1 h4 rfl
          subst h5
          exact h2 (List.mem_of_getElem? hi)
      · omega
    · rw [e1]
      exact hP1 j q hj
  obtain ⟨t2, a1, b1⟩ := kk T'.heap (locs ++ L) hPn (va_D_fst hfst hD)
    ⟨Nat.le_trans hS.1 (by rw [e1]; exact hz), fun q h1 h2 => by rw [e1, hk q (Nat.lt_of_lt_of_le h1 hS.1) (fun z => h2 (hF q z))]; exact hS.2.1 q h1 h2, fun q hq => by
      rcases List.mem_append.mp hq with h | h
      · exact hS.2.2 q h
      · exact hF _ (hL q h)⟩ T' rfl X'
  exact ⟨t2, st t2 a1, b1⟩
variable {y : MethodName} {bytes : ByteArray} {maxL n index : Nat} {ret : Option FieldType} {rm : Room} {C : String} {b : Nat} {As : List Value} {wc wc' : va_W} {r : Option Value}
theorem mkB (CF : CallFix p m c cc nL s args wsAll own) (hc : Cond.code y bytes maxL ret ∈ wsAll) (hi : Cond.initialized y.cls ∈ wsAll) (hd : y.cls ≠ "java/lang/invoke/MethodHandle" ∧ y.cls ≠ "java/lang/invoke/VarHandle" ∧ (parseMethodDescriptor y.desc).map (fun d => d.parameters.length) = some n) (lk : Cond.methodLink own index y ∈ wsAll) (hrm : rmOk rm R maxL) : CallB R s args own index y bytes maxL ret (Cond.code y bytes maxL ret :: wsAll) rm 0 0 n :=
  callB_of n CF.2.2.2.2 (wsAll_good hc) rfl hrm.1 hrm.2.1 (CF.2.2.2.2 _ hi) (CF.2.2.2.2 _ lk) hd hrm.2.2
theorem mkN {host : String} (CF : CallFix p m c cc nL s args wsAll own) (hc : Cond.code y bytes maxL ret ∈ wsAll) (hi : Cond.initialized y.cls ∈ wsAll) (hd : y.cls ≠ "java/lang/invoke/MethodHandle" ∧ y.cls ≠ "java/lang/invoke/VarHandle" ∧ (parseMethodDescriptor y.desc).map (fun d => d.parameters.length) = some n) (hG : Gd D cI cB cT s) (lk : (own, index, y, host) ∈ nestT) (hrm : rmOk rm R maxL) : va_CN R s args own index y host bytes maxL ret (Cond.code y bytes maxL ret :: wsAll) rm 0 0 n :=
  va_cnB n CF.2.2.2.2 (wsAll_good hc) rfl hrm.1 hrm.2.1 (hG.2.1 _ lk) (CF.2.2.2.2 _ hi) hd hrm.2.2
theorem ro_V (CF : CallFix p m c cc nL s args wsAll own) (hM : Met l y (Cond.code y bytes maxL ret :: wsAll) rm (Pro (.ref b :: As) D cI cB cT wc) (Qr r) 0 0 (fun _ => False)) (ok : okV C y bytes maxL ret n) (lk : Cond.methodLink own index y ∈ wsAll) (hrm : rmOk rm R maxL) (hG : Gd D cI cB cT s) (hPc : va_P D vwCl wc H) (q0 ci : Nat) {q : vw_C} {fs : List Value} (hq : vwCl[ci]? = some q) (hqC : q.1 = C) (he : wc[q0]? = some (b, .inr (ci, fs))) (hn : As.length = n) (hl : ls.size = nL) (hst : st0 = As.reverse ++ .ref b :: rest) (hrest : (rest.map fun v => v.category).sum ≤ 8) (hcs : cells ≤ R.cells ∧ slots ≤ R.slots) (hdg : decode cc pc = .ok (.invokevirtual index, 3))
    (kk : W p l e R s m args below meth c H locs cells slots Q (F0 m (pc + 3) ls (r.toList ++ rest))) : W p l e R s m args below meth c H locs cells slots Q (F0 m pc ls st0) :=
  ro_core (va_runV CF hM ⟨mkB CF ok.1 ok.2.1 ok.2.2.1 lk hrm, CF.2.2.2.2 _ ok.2.2.2.1, CF.2.2.2.2 _ ok.2.2.2.2⟩ ⟨Pro_blind, hqC ▸ va_recv hG.1 hPc hq he, fun U hU hW => ⟨rfl, hG.warm hW, by rw [hU]; exact hPc⟩⟩ rfl hn hl hst (lv_room hrest) hdg hcs) kk
theorem ro_S (CF : CallFix p m c cc nL s args wsAll own) (hM : Met l y (Cond.code y bytes maxL ret :: wsAll) rm (Pro As D cI cB cT wc) (Qr r) 0 0 (fun _ => False)) (ok : okS y bytes maxL ret n) (lk : Cond.methodLink own index y ∈ wsAll) (hrm : rmOk rm R maxL) (hG : Gd D cI cB cT s) (hPc : va_P D vwCl wc H) (hn : As.length = n) (hl : ls.size = nL) (hst : st0 = As.reverse ++ rest) (hrest : (rest.map fun v => v.category).sum ≤ 8) (hcs : cells ≤ R.cells ∧ slots ≤ R.slots) (hdg : decode cc pc = .ok (.invokestatic index, 3))
    (kk : W p l e R s m args below meth c H locs cells slots Q (F0 m (pc + 3) ls (r.toList ++ rest))) : W p l e R s m args below meth c H locs cells slots Q (F0 m pc ls st0) :=
  ro_core (va_runS CF hM ⟨mkB CF ok.1 ok.2.1 ok.2.2.1 lk hrm, CF.2.2.2.2 _ ok.2.2.2⟩ ⟨Pro_blind, fun U hU hW => ⟨rfl, hG.warm hW, by rw [hU]; exact hPc⟩⟩ rfl hn hl hst (lv_room hrest) hdg hcs) kk
theorem ro_SN {host : String} (CF : CallFix p m c cc nL s args wsAll own) (hM : Met l y (Cond.code y bytes maxL ret :: wsAll) rm (Pro As D cI cB cT wc) (Qr r) 0 0 (fun _ => False)) (ok : okS y bytes maxL ret n) (lk : (own, index, y, host) ∈ nestT) (hrm : rmOk rm R maxL) (hG : Gd D cI cB cT s) (hPc : va_P D vwCl wc H) (hn : As.length = n) (hl : ls.size = nL) (hst : st0 = As.reverse ++ rest) (hrest : (rest.map fun v => v.category).sum ≤ 8) (hcs : cells ≤ R.cells ∧ slots ≤ R.slots) (hdg : decode cc pc = .ok (.invokestatic index, 3))
    (kk : W p l e R s m args below meth c H locs cells slots Q (F0 m (pc + 3) ls (r.toList ++ rest))) : W p l e R s m args below meth c H locs cells slots Q (F0 m pc ls st0) :=
  ro_core (va_runSN CF hM ⟨mkN CF ok.1 ok.2.1 ok.2.2.1 hG lk hrm, CF.2.2.2.2 _ ok.2.2.2, trivial⟩ ⟨Pro_blind, fun U hU hW => ⟨rfl, hG.warm hW, by rw [hU]; exact hPc⟩⟩ rfl hn hl hst (lv_room hrest) hdg hcs) kk
theorem wr_V {ws ws' : va_W} {A : Nat → Prop} (CF : CallFix p m c cc nL s args wsAll own) (hM : Met l y (Cond.code y bytes maxL ret :: wsAll) rm (Pwr (.ref b :: As) D cI cB cT wc H.size) (Qw r D wc' (va_A wc H.size)) 0 0 (va_A wc H.size)) (ok : okV C y bytes maxL ret n) (lk : Cond.methodLink own index y ∈ wsAll) (hrm : rmOk rm R maxL) (hG : Gd D cI cB cT s) (hP : va_P D vwCl ws H) (hD : va_D A ws) (hS : va_S A s.heap H locs) (hA : ∀ q : Nat, s.heap.size ≤ q → A q) (isC : List Nat) (hPc : va_P D vwCl wc H) (hnd : va_nd isC = true) (hC : isC.map (fun i => ws[i]?) = wc.map some) (hlen : isC.length = wc'.length) (hpb : ws' = pb ws isC wc') (hfst : ws'.map Prod.fst = ws.map Prod.fst) (q0 ci : Nat) {q : vw_C} {fs : List Value} (hq : vwCl[ci]? = some q) (hqC : q.1 = C) (he : wc[q0]? = some (b, .inr (ci, fs))) (hn : As.length = n) (hl : ls.size = nL) (hst : st0 = As.reverse ++ .ref b :: rest) (hrest : (rest.map fun v => v.category).sum ≤ 8) (hcs : cells ≤ R.cells ∧ slots ≤ R.slots) (hdg : decode cc pc = .ok (.invokevirtual index, 3))
    (kk : ∀ (H1 : Heap) (locs1 : List Loc), va_P D vwCl ws' H1 → va_D A ws' → va_S A s.heap H1 locs1 → W p l e R s m args below meth c H1 locs1 cells slots Q (F0 m (pc + 3) ls (r.toList ++ rest))) : W p l e R s m args below meth c H locs cells slots Q (F0 m pc ls st0) :=
  wr_core (va_runV CF hM ⟨mkB CF ok.1 ok.2.1 ok.2.2.1 lk hrm, CF.2.2.2.2 _ ok.2.2.2.1, CF.2.2.2.2 _ ok.2.2.2.2⟩ ⟨Pwr_blind, hqC ▸ va_recv hG.1 hPc hq he, fun U hU hW => ⟨rfl, by rw [hU], hG.warm hW, by rw [hU]; exact hPc, (hD.sub isC hnd hC).weaken (fun _ _ _ _ => trivial)⟩⟩ rfl hn hl hst (lv_room hrest) hdg hcs) hP hD hS hA isC hC hlen hpb hfst kk
theorem wr_self {ws ws' : va_W} {A : Nat → Prop} (hr : va_Run p l e R s m args below meth c H locs cells slots 0 0 (F0 m pc ls st0) rest (Qw r D ws' (va_A ws H.size) a) (va_A ws H.size)) (hD : va_D A ws) (hS : va_S A s.heap H locs) (hA : ∀ q : Nat, s.heap.size ≤ q → A q) (hfst : ws'.map Prod.fst = ws.map Prod.fst)
    (kk : ∀ (H1 : Heap) (locs1 : List Loc), va_P D vwCl ws' H1 → va_D A ws' → va_S A s.heap H1 locs1 → W p l e R s m args below meth c H1 locs1 cells slots Q (F0 m (pc + 3) ls (r.toList ++ rest))) : W p l e R s m args below meth c H locs cells slots Q (F0 m pc ls st0) := by
  intro T hT X
  obtain ⟨v, st₀, t, T', L, h0, X', hL, e1, e2, ⟨hv, hP1, hz, hk⟩, st⟩ := hr T hT X
  cases hv
  rw [h0] at hz hk
  have hF : ∀ q : Nat, va_A ws H.size q → A q := by
    intro q hq
    rcases hq with ⟨k, ee, hk2⟩ | hq
    · exact hD.2 k (q, ee) hk2
    · exact hA q (Nat.le_trans hS.1 hq)
  obtain ⟨t2, a1, b1⟩ := kk T'.heap (locs ++ L) (by rw [e1]; exact hP1) (va_D_fst hfst hD)
    ⟨Nat.le_trans hS.1 (by rw [e1]; exact hz), fun q h1 h2 => by rw [e1, hk q (Nat.lt_of_lt_of_le h1 hS.1) (fun z => h2 (hF q z))]; exact hS.2.1 q h1 h2, fun q hq => by
      rcases List.mem_append.mp hq with h | h
      · exact hS.2.2 q h
      · exact hF _ (hL q h)⟩ T' rfl X'
  exact ⟨t2, st t2 a1, b1⟩
theorem wr_W {ws ws' : va_W} {A : Nat → Prop} (CF : CallFix p m c cc nL s args wsAll own) (hM : Met l y (Cond.code y bytes maxL ret :: wsAll) rm (Pwr (.ref b :: As) D cI cB cT ws H.size) (Qw r D ws' (va_A ws H.size)) 0 0 (va_A ws H.size)) (ok : okV C y bytes maxL ret n) (lk : Cond.methodLink own index y ∈ wsAll) (hrm : rmOk rm R maxL) (hG : Gd D cI cB cT s) (hP : va_P D vwCl ws H) (hD : va_D A ws) (hS : va_S A s.heap H locs) (hA : ∀ q : Nat, s.heap.size ≤ q → A q) (hfst : ws'.map Prod.fst = ws.map Prod.fst) (q0 ci : Nat) {q : vw_C} {fs : List Value} (hq : vwCl[ci]? = some q) (hqC : q.1 = C) (he : ws[q0]? = some (b, .inr (ci, fs))) (hn : As.length = n) (hl : ls.size = nL) (hst : st0 = As.reverse ++ .ref b :: rest) (hrest : (rest.map fun v => v.category).sum ≤ 8) (hcs : cells ≤ R.cells ∧ slots ≤ R.slots) (hdg : decode cc pc = .ok (.invokevirtual index, 3))
    (kk : ∀ (H1 : Heap) (locs1 : List Loc), va_P D vwCl ws' H1 → va_D A ws' → va_S A s.heap H1 locs1 → W p l e R s m args below meth c H1 locs1 cells slots Q (F0 m (pc + 3) ls (r.toList ++ rest))) : W p l e R s m args below meth c H locs cells slots Q (F0 m pc ls st0) :=
  wr_self (va_runV CF hM ⟨mkB CF ok.1 ok.2.1 ok.2.2.1 lk hrm, CF.2.2.2.2 _ ok.2.2.2.1, CF.2.2.2.2 _ ok.2.2.2.2⟩ ⟨Pwr_blind, hqC ▸ va_recv hG.1 hP hq he, fun U hU hW => ⟨rfl, by rw [hU], hG.warm hW, by rw [hU]; exact hP, hD.weaken (fun _ _ _ _ => trivial)⟩⟩ rfl hn hl hst (lv_room hrest) hdg hcs) hD hS hA hfst kk
end LY
/-- no value of a switch's row -/
theorem sw_out {x : Int32} {lo hi : Int} (h : ∀ z : Int, lo ≤ z → z ≤ hi → ¬ x.toInt = z) : x.toInt < lo ∨ hi < x.toInt := by
  rcases Int.lt_or_le x.toInt lo with q | q
  · exact Or.inl q
  · rcases Int.lt_or_le hi x.toInt with q2 | q2
    · exact Or.inr q2
    · exact absurd rfl (h x.toInt q q2)
def wd_E : va_W := []
theorem wd_E_P {D : va_G} {H : Heap} : va_P D vwCl wd_E H := fun k q h => by simp [wd_E] at h
theorem vq_0 : vwCl[0]? = some (RX0, TX0, 2) := rfl
theorem vq_1 : vwCl[1]? = some (RX1, TX1, 3) := rfl
theorem vq_2 : vwCl[2]? = some (RX4, TX4, 2) := rfl
theorem vq_3 : vwCl[3]? = some (RX5, TX5, 2) := rfl
theorem vq_4 : vwCl[4]? = some (RX6, TX6, 1) := rfl
theorem vq_5 : vwCl[5]? = some (RX7, TX7, 7) := rfl
theorem vq_6 : vwCl[6]? = some (RX8, TX8, 6) := rfl
theorem vq_7 : vwCl[7]? = some (RX9, TX9, 5) := rfl
theorem vq_8 : vwCl[8]? = some (RX10, TX10, 11) := rfl
theorem vq_9 : vwCl[9]? = some (RX11, TX11, 29) := rfl
theorem nm_0 : (RX10, 9, yX7_init, RX10) ∈ nestT := List.mem_of_getElem? (i := 0) rfl
theorem nm_1 : (RX7, 11, yX9_init, RX10) ∈ nestT := List.mem_of_getElem? (i := 1) rfl
theorem nm_2 : (RX7, 20, yX1_init, RX10) ∈ nestT := List.mem_of_getElem? (i := 2) rfl
theorem nm_3 : (RX10, 22, yX4_init, RX10) ∈ nestT := List.mem_of_getElem? (i := 3) rfl
theorem nm_4 : (RX4, 11, yX8_init, RX10) ∈ nestT := List.mem_of_getElem? (i := 4) rfl
theorem nm_5 : (RX4, 20, yX7_init, RX10) ∈ nestT := List.mem_of_getElem? (i := 5) rfl
theorem nm_6 : (RX10, 29, yX0_init, RX10) ∈ nestT := List.mem_of_getElem? (i := 6) rfl
theorem nm_7 : (RX10, 36, yX6_init, RX10) ∈ nestT := List.mem_of_getElem? (i := 7) rfl
theorem nm_8 : (RX10, 43, yX1_init, RX10) ∈ nestT := List.mem_of_getElem? (i := 8) rfl
theorem nm_9 : (RX3, 44, yX10_leastOf, RX10) ∈ nestT := List.mem_of_getElem? (i := 9) rfl
theorem nm_10 : (RX5, 23, yX10_isBelow, RX10) ∈ nestT := List.mem_of_getElem? (i := 10) rfl
theorem nm_11 : (RX6, 39, yX10_leastOf, RX10) ∈ nestT := List.mem_of_getElem? (i := 11) rfl
theorem nm_12 : (RX6, 60, yX10_isBelow, RX10) ∈ nestT := List.mem_of_getElem? (i := 12) rfl
theorem nm_13 : (RX2, 50, yX10_leastOf, RX10) ∈ nestT := List.mem_of_getElem? (i := 13) rfl
theorem ok_J9_max_7cf53 : okS yJ9_max_7cf53 cJ9_max_7cf53 2 (some .int) 2 := ⟨wm_174, wm_89, ⟨by decide +kernel, by decide +kernel, by decide +kernel⟩, wm_173⟩
theorem ok_X10_game : okV RX10 yX10_game cX10_game 3 (some .int) 1 := ⟨wm_329, wm_84, ⟨by decide +kernel, by decide +kernel, by decide +kernel⟩, wm_327, wm_328⟩
theorem ok_X10_isBelow : okS yX10_isBelow cX10_isBelow 2 (some .boolean) 2 := ⟨wm_332, wm_84, ⟨by decide +kernel, by decide +kernel, by decide +kernel⟩, wm_331⟩
theorem ok_X10_refuseBad : okV RX10 yX10_refuseBad cX10_refuseBad 1 (some .int) 0 := ⟨wm_336, wm_84, ⟨by decide +kernel, by decide +kernel, by decide +kernel⟩, wm_335, wm_0⟩
theorem ok_X7_reset : okV RX7 yX7_reset cX7_reset 2 none 1 := ⟨wm_340, wm_85, ⟨by decide +kernel, by decide +kernel, by decide +kernel⟩, wm_338, wm_339⟩
theorem ok_X9_removeAll : okV RX9 yX9_removeAll cX9_removeAll 2 none 0 := ⟨wm_344, wm_86, ⟨by decide +kernel, by decide +kernel, by decide +kernel⟩, wm_342, wm_343⟩
theorem ok_X1_begin : okV RX1 yX1_begin cX1_begin 2 none 1 := ⟨wm_348, wm_87, ⟨by decide +kernel, by decide +kernel, by decide +kernel⟩, wm_346, wm_347⟩
theorem ok_X10_holder : okV RX10 yX10_holder cX10_holder 3 (some .int) 1 := ⟨wm_352, wm_84, ⟨by decide +kernel, by decide +kernel, by decide +kernel⟩, wm_350, wm_351⟩
theorem ok_X10_word : okV RX10 yX10_word cX10_word 2 (some .int) 1 := ⟨wm_356, wm_84, ⟨by decide +kernel, by decide +kernel, by decide +kernel⟩, wm_354, wm_355⟩
theorem ok_X9_numberOf : okV RX9 yX9_numberOf cX9_numberOf 3 (some .int) 1 := ⟨wm_360, wm_86, ⟨by decide +kernel, by decide +kernel, by decide +kernel⟩, wm_358, wm_359⟩
theorem ok_X10_refuseNo : okV RX10 yX10_refuseNo cX10_refuseNo 1 (some .int) 0 := ⟨wm_364, wm_84, ⟨by decide +kernel, by decide +kernel, by decide +kernel⟩, wm_363, wm_1⟩
theorem ok_X10_refuseFull : okV RX10 yX10_refuseFull cX10_refuseFull 1 (some .int) 0 := ⟨wm_368, wm_84, ⟨by decide +kernel, by decide +kernel, by decide +kernel⟩, wm_367, wm_2⟩
theorem ok_X7_addWord : okV RX7 yX7_addWord cX7_addWord 2 none 1 := ⟨wm_372, wm_85, ⟨by decide +kernel, by decide +kernel, by decide +kernel⟩, wm_370, wm_371⟩
theorem ok_X9_add : okV RX9 yX9_add cX9_add 3 none 1 := ⟨wm_376, wm_86, ⟨by decide +kernel, by decide +kernel, by decide +kernel⟩, wm_374, wm_375⟩
theorem ok_X9_reckonLetter : okV RX9 yX9_reckonLetter cX9_reckonLetter 6 none 2 := ⟨wm_380, wm_86, ⟨by decide +kernel, by decide +kernel, by decide +kernel⟩, wm_379, wm_3⟩
theorem ok_X9_reckonMask : okS yX9_reckonMask cX9_reckonMask 5 (some .int) 2 := ⟨wm_383, wm_86, ⟨by decide +kernel, by decide +kernel, by decide +kernel⟩, wm_382⟩
theorem ok_X9_all : okV RX9 yX9_all cX9_all 1 (some .int) 0 := ⟨wm_387, wm_86, ⟨by decide +kernel, by decide +kernel, by decide +kernel⟩, wm_385, wm_386⟩
theorem ok_X10_type : okV RX10 yX10_type cX10_type 2 (some .int) 1 := ⟨wm_391, wm_84, ⟨by decide +kernel, by decide +kernel, by decide +kernel⟩, wm_389, wm_390⟩
theorem ok_X8_add : okV RX8 yX8_add cX8_add 2 none 1 := ⟨wm_395, wm_91, ⟨by decide +kernel, by decide +kernel, by decide +kernel⟩, wm_393, wm_394⟩
theorem ok_X10_clear : okV RX10 yX10_clear cX10_clear 2 (some .int) 0 := ⟨wm_399, wm_84, ⟨by decide +kernel, by decide +kernel, by decide +kernel⟩, wm_397, wm_398⟩
theorem ok_X10_read : okV RX10 yX10_read cX10_read 2 (some .int) 0 := ⟨wm_403, wm_84, ⟨by decide +kernel, by decide +kernel, by decide +kernel⟩, wm_401, wm_402⟩
theorem ok_X4_readItems : okV RX4 yX4_readItems cX4_readItems 2 (some .int) 0 := ⟨wm_407, wm_90, ⟨by decide +kernel, by decide +kernel, by decide +kernel⟩, wm_405, wm_406⟩
theorem ok_X8_rewind : okV RX8 yX8_rewind cX8_rewind 1 none 0 := ⟨wm_411, wm_91, ⟨by decide +kernel, by decide +kernel, by decide +kernel⟩, wm_409, wm_410⟩
theorem ok_X8_step : okV RX8 yX8_step cX8_step 2 none 0 := ⟨wm_416, wm_91, ⟨by decide +kernel, by decide +kernel, by decide +kernel⟩, wm_414, wm_415⟩
theorem ok_X8_endOfRun : okV RX8 yX8_endOfRun cX8_endOfRun 5 (some .int) 3 := ⟨wm_420, wm_91, ⟨by decide +kernel, by decide +kernel, by decide +kernel⟩, wm_419, wm_4⟩
theorem ok_X8_takeNumber : okV RX8 yX8_takeNumber cX8_takeNumber 2 none 0 := ⟨wm_424, wm_91, ⟨by decide +kernel, by decide +kernel, by decide +kernel⟩, wm_423, wm_5⟩
theorem ok_X4_readItem : okV RX4 yX4_readItem cX4_readItem 2 (some .boolean) 1 := ⟨wm_428, wm_90, ⟨by decide +kernel, by decide +kernel, by decide +kernel⟩, wm_427, wm_6⟩
theorem ok_X8_spells : okV RX8 yX8_spells cX8_spells 3 (some .boolean) 1 := ⟨wm_433, wm_91, ⟨by decide +kernel, by decide +kernel, by decide +kernel⟩, wm_431, wm_432⟩
theorem ok_J0_length_8abf5 : okV RJ0 yJ0_length_8abf5 cJ0_length_8abf5 1 (some .int) 0 := ⟨wm_437, wm_95, ⟨by decide +kernel, by decide +kernel, by decide +kernel⟩, wm_435, wm_436⟩
theorem ok_J0_coder_7d493 : okV RJ0 yJ0_coder_7d493 cJ0_coder_7d493 1 (some .byte) 0 := ⟨wm_441, wm_95, ⟨by decide +kernel, by decide +kernel, by decide +kernel⟩, wm_439, wm_440⟩
theorem ok_J0_charAt_5068e : okV RJ0 yJ0_charAt_5068e cJ0_charAt_5068e 2 (some .char) 1 := ⟨wm_447, wm_95, ⟨by decide +kernel, by decide +kernel, by decide +kernel⟩, wm_445, wm_446⟩
theorem ok_J0_isLatin1_aae02 : okV RJ0 yJ0_isLatin1_aae02 cJ0_isLatin1_aae02 1 (some .boolean) 0 := ⟨wm_451, wm_95, ⟨by decide +kernel, by decide +kernel, by decide +kernel⟩, wm_449, wm_450⟩
theorem ok_J1_charAt_3b067 : okS yJ1_charAt_3b067 cJ1_charAt_3b067 2 (some .char) 2 := ⟨wm_454, wm_96, ⟨by decide +kernel, by decide +kernel, by decide +kernel⟩, wm_453⟩
theorem ok_J0_checkIndex_df160 : okS yJ0_checkIndex_df160 cJ0_checkIndex_df160 2 none 2 := ⟨wm_457, wm_95, ⟨by decide +kernel, by decide +kernel, by decide +kernel⟩, wm_456⟩
theorem ok_J3_checkIndex_8e157 : okS yJ3_checkIndex_8e157 cJ3_checkIndex_8e157 3 (some .int) 3 := ⟨wm_462, wm_97, ⟨by decide +kernel, by decide +kernel, by decide +kernel⟩, wm_461⟩
theorem ok_J2_charAt_3b067 : okS yJ2_charAt_3b067 cJ2_charAt_3b067 2 (some .char) 2 := ⟨wm_465, wm_98, ⟨by decide +kernel, by decide +kernel, by decide +kernel⟩, wm_464⟩
theorem ok_J2_checkIndex_2214a : okS yJ2_checkIndex_2214a cJ2_checkIndex_2214a 2 none 2 := ⟨wm_468, wm_98, ⟨by decide +kernel, by decide +kernel, by decide +kernel⟩, wm_467⟩
theorem ok_J2_length_9d52b : okS yJ2_length_9d52b cJ2_length_9d52b 1 (some .int) 1 := ⟨wm_471, wm_98, ⟨by decide +kernel, by decide +kernel, by decide +kernel⟩, wm_470⟩
theorem ok_J2_getChar_3b067 : okS yJ2_getChar_3b067 cJ2_getChar_3b067 2 (some .char) 2 := ⟨wm_475, wm_98, ⟨by decide +kernel, by decide +kernel, by decide +kernel⟩, wm_474⟩
theorem ok_X4_readKind : okV RX4 yX4_readKind cX4_readKind 1 (some .boolean) 0 := ⟨wm_485, wm_90, ⟨by decide +kernel, by decide +kernel, by decide +kernel⟩, wm_484, wm_7⟩
theorem ok_X4_stepToNumber : okV RX4 yX4_stepToNumber cX4_stepToNumber 2 (some .boolean) 1 := ⟨wm_489, wm_90, ⟨by decide +kernel, by decide +kernel, by decide +kernel⟩, wm_488, wm_8⟩
theorem ok_X4_stepToClose : okV RX4 yX4_stepToClose cX4_stepToClose 1 (some .boolean) 0 := ⟨wm_493, wm_90, ⟨by decide +kernel, by decide +kernel, by decide +kernel⟩, wm_492, wm_9⟩
theorem ok_X4_readWord : okV RX4 yX4_readWord cX4_readWord 3 (some .boolean) 0 := ⟨wm_498, wm_90, ⟨by decide +kernel, by decide +kernel, by decide +kernel⟩, wm_497, wm_10⟩
theorem ok_X4_readSecret : okV RX4 yX4_readSecret cX4_readSecret 1 (some .boolean) 0 := ⟨wm_505, wm_90, ⟨by decide +kernel, by decide +kernel, by decide +kernel⟩, wm_504, wm_11⟩
theorem ok_X4_readGuess : okV RX4 yX4_readGuess cX4_readGuess 1 (some .boolean) 0 := ⟨wm_510, wm_90, ⟨by decide +kernel, by decide +kernel, by decide +kernel⟩, wm_509, wm_12⟩
theorem ok_X1_isOpen : okV RX1 yX1_isOpen cX1_isOpen 2 (some .boolean) 1 := ⟨wm_514, wm_87, ⟨by decide +kernel, by decide +kernel, by decide +kernel⟩, wm_512, wm_513⟩
theorem ok_X7_takeGuess : okV RX7 yX7_takeGuess cX7_takeGuess 3 (some .int) 1 := ⟨wm_518, wm_85, ⟨by decide +kernel, by decide +kernel, by decide +kernel⟩, wm_516, wm_517⟩
theorem ok_X1_guesses : okV RX1 yX1_guesses cX1_guesses 1 (some .int) 0 := ⟨wm_522, wm_87, ⟨by decide +kernel, by decide +kernel, by decide +kernel⟩, wm_520, wm_521⟩
theorem ok_J6_bitCount_0f7a4 : okS yJ6_bitCount_0f7a4 cJ6_bitCount_0f7a4 1 (some .int) 1 := ⟨wm_525, wm_99, ⟨by decide +kernel, by decide +kernel, by decide +kernel⟩, wm_524⟩
theorem ok_X3_reply : okS yX3_reply cX3_reply 7 (some .int) 6 := ⟨wm_531, wm_100, ⟨by decide +kernel, by decide +kernel, by decide +kernel⟩, wm_530⟩
theorem ok_X3_keptOf : okS yX3_keptOf cX3_keptOf 2 (some .int) 2 := ⟨wm_534, wm_100, ⟨by decide +kernel, by decide +kernel, by decide +kernel⟩, wm_533⟩
theorem ok_X10_leastOf : okS yX10_leastOf cX10_leastOf 2 (some .int) 1 := ⟨wm_537, wm_84, ⟨by decide +kernel, by decide +kernel, by decide +kernel⟩, wm_536⟩
theorem ok_X3_moodOf : okS yX3_moodOf cX3_moodOf 2 (some .int) 2 := ⟨wm_540, wm_100, ⟨by decide +kernel, by decide +kernel, by decide +kernel⟩, wm_539⟩
theorem ok_X9_commonestMask : okV RX9 yX9_commonestMask cX9_commonestMask 8 (some .int) 2 := ⟨wm_544, wm_86, ⟨by decide +kernel, by decide +kernel, by decide +kernel⟩, wm_542, wm_543⟩
theorem ok_X9_maskOf : okV RX9 yX9_maskOf cX9_maskOf 3 (some .int) 2 := ⟨wm_548, wm_86, ⟨by decide +kernel, by decide +kernel, by decide +kernel⟩, wm_546, wm_547⟩
theorem ok_X9_alikeTo : okV RX9 yX9_alikeTo cX9_alikeTo 3 (some .int) 2 := ⟨wm_552, wm_86, ⟨by decide +kernel, by decide +kernel, by decide +kernel⟩, wm_550, wm_551⟩
theorem ok_X9_isLacking : okV RX9 yX9_isLacking cX9_isLacking 3 (some .boolean) 2 := ⟨wm_557, wm_86, ⟨by decide +kernel, by decide +kernel, by decide +kernel⟩, wm_555, wm_556⟩
theorem ok_X9_having : okV RX9 yX9_having cX9_having 2 (some .int) 1 := ⟨wm_561, wm_86, ⟨by decide +kernel, by decide +kernel, by decide +kernel⟩, wm_559, wm_560⟩
theorem ok_X9_fullestMask : okV RX9 yX9_fullestMask cX9_fullestMask 7 (some .int) 2 := ⟨wm_565, wm_86, ⟨by decide +kernel, by decide +kernel, by decide +kernel⟩, wm_563, wm_564⟩
theorem ok_X3_halfAreLike : okS yX3_halfAreLike cX3_halfAreLike 4 (some .boolean) 4 := ⟨wm_568, wm_100, ⟨by decide +kernel, by decide +kernel, by decide +kernel⟩, wm_567⟩
theorem ok_X1_put : okV RX1 yX1_put cX1_put 4 none 3 := ⟨wm_575, wm_87, ⟨by decide +kernel, by decide +kernel, by decide +kernel⟩, wm_573, wm_574⟩
theorem ok_X9_withMask : okV RX9 yX9_withMask cX9_withMask 6 (some .int) 3 := ⟨wm_579, wm_86, ⟨by decide +kernel, by decide +kernel, by decide +kernel⟩, wm_577, wm_578⟩
theorem ok_X7_copyFrom : okV RX7 yX7_copyFrom cX7_copyFrom 2 none 1 := ⟨wm_583, wm_85, ⟨by decide +kernel, by decide +kernel, by decide +kernel⟩, wm_581, wm_582⟩
theorem ok_X9_copyFrom : okV RX9 yX9_copyFrom cX9_copyFrom 2 none 1 := ⟨wm_587, wm_86, ⟨by decide +kernel, by decide +kernel, by decide +kernel⟩, wm_585, wm_586⟩
theorem ok_X1_copyFrom : okV RX1 yX1_copyFrom cX1_copyFrom 2 none 1 := ⟨wm_594, wm_87, ⟨by decide +kernel, by decide +kernel, by decide +kernel⟩, wm_592, wm_593⟩
theorem ok_X5_copyFrom : okV RX5 yX5_copyFrom cX5_copyFrom 2 none 1 := ⟨wm_598, wm_88, ⟨by decide +kernel, by decide +kernel, by decide +kernel⟩, wm_596, wm_597⟩
theorem ok_J9_min_7cf53 : okS yJ9_min_7cf53 cJ9_min_7cf53 2 (some .int) 2 := ⟨wm_601, wm_89, ⟨by decide +kernel, by decide +kernel, by decide +kernel⟩, wm_600⟩
theorem ok_X10_guess : okV RX10 yX10_guess cX10_guess 2 (some .int) 1 := ⟨wm_606, wm_84, ⟨by decide +kernel, by decide +kernel, by decide +kernel⟩, wm_604, wm_605⟩
theorem ok_X7_remember : okV RX7 yX7_remember cX7_remember 1 none 0 := ⟨wm_611, wm_85, ⟨by decide +kernel, by decide +kernel, by decide +kernel⟩, wm_609, wm_610⟩
theorem ok_X5_isFull : okV RX5 yX5_isFull cX5_isFull 1 (some .boolean) 0 := ⟨wm_615, wm_88, ⟨by decide +kernel, by decide +kernel, by decide +kernel⟩, wm_613, wm_614⟩
theorem ok_X5_dropFirst : okV RX5 yX5_dropFirst cX5_dropFirst 1 none 0 := ⟨wm_619, wm_88, ⟨by decide +kernel, by decide +kernel, by decide +kernel⟩, wm_617, wm_618⟩
theorem ok_X5_add : okV RX5 yX5_add cX5_add 6 none 4 := ⟨wm_623, wm_88, ⟨by decide +kernel, by decide +kernel, by decide +kernel⟩, wm_621, wm_622⟩
theorem ok_X10_secret : okV RX10 yX10_secret cX10_secret 3 (some .int) 1 := ⟨wm_629, wm_84, ⟨by decide +kernel, by decide +kernel, by decide +kernel⟩, wm_627, wm_628⟩
theorem ok_X10_anew : okV RX10 yX10_anew cX10_anew 2 (some .int) 0 := ⟨wm_633, wm_84, ⟨by decide +kernel, by decide +kernel, by decide +kernel⟩, wm_631, wm_632⟩
theorem ok_X10_undo : okV RX10 yX10_undo cX10_undo 1 (some .int) 0 := ⟨wm_639, wm_84, ⟨by decide +kernel, by decide +kernel, by decide +kernel⟩, wm_637, wm_638⟩
theorem ok_X7_goBack : okV RX7 yX7_goBack cX7_goBack 1 none 0 := ⟨wm_643, wm_85, ⟨by decide +kernel, by decide +kernel, by decide +kernel⟩, wm_641, wm_642⟩
theorem ok_X5_cell : okV RX5 yX5_cell cX5_cell 4 (some .int) 2 := ⟨wm_647, wm_88, ⟨by decide +kernel, by decide +kernel, by decide +kernel⟩, wm_645, wm_646⟩
theorem ok_X10_of : okV RX10 yX10_of cX10_of 3 (some .int) 2 := ⟨wm_652, wm_84, ⟨by decide +kernel, by decide +kernel, by decide +kernel⟩, wm_650, wm_651⟩
theorem ok_X9_codeOf : okV RX9 yX9_codeOf cX9_codeOf 2 (some .int) 1 := ⟨wm_656, wm_86, ⟨by decide +kernel, by decide +kernel, by decide +kernel⟩, wm_654, wm_655⟩
theorem ok_X10_mask : okV RX10 yX10_mask cX10_mask 3 (some .int) 2 := ⟨wm_660, wm_84, ⟨by decide +kernel, by decide +kernel, by decide +kernel⟩, wm_658, wm_659⟩
theorem ok_X10_answer : okV RX10 yX10_answer cX10_answer 2 (some .int) 1 := ⟨wm_665, wm_84, ⟨by decide +kernel, by decide +kernel, by decide +kernel⟩, wm_663, wm_664⟩
theorem ok_X10_replyNow : okV RX10 yX10_replyNow cX10_replyNow 3 (some .int) 2 := ⟨wm_669, wm_84, ⟨by decide +kernel, by decide +kernel, by decide +kernel⟩, wm_668, wm_13⟩
theorem ok_X10_parts : okV RX10 yX10_parts cX10_parts 4 (some .int) 2 := ⟨wm_675, wm_84, ⟨by decide +kernel, by decide +kernel, by decide +kernel⟩, wm_673, wm_674⟩
theorem ok_X9_unlikeMasks : okV RX9 yX9_unlikeMasks cX9_unlikeMasks 5 (some .int) 2 := ⟨wm_679, wm_86, ⟨by decide +kernel, by decide +kernel, by decide +kernel⟩, wm_677, wm_678⟩
theorem ok_X9_greatestPart : okV RX9 yX9_greatestPart cX9_greatestPart 5 (some .int) 2 := ⟨wm_683, wm_86, ⟨by decide +kernel, by decide +kernel, by decide +kernel⟩, wm_681, wm_682⟩
theorem ok_X10_best : okV RX10 yX10_best cX10_best 5 (some .int) 0 := ⟨wm_688, wm_84, ⟨by decide +kernel, by decide +kernel, by decide +kernel⟩, wm_686, wm_687⟩
theorem ok_X10_surely : okV RX10 yX10_surely cX10_surely 3 (some .int) 1 := ⟨wm_692, wm_84, ⟨by decide +kernel, by decide +kernel, by decide +kernel⟩, wm_690, wm_691⟩
theorem ok_X6_reckon : okV RX6 yX6_reckon cX6_reckon 4 none 2 := ⟨wm_696, wm_93, ⟨by decide +kernel, by decide +kernel, by decide +kernel⟩, wm_694, wm_695⟩
theorem ok_X6_reckonSet : okV RX6 yX6_reckonSet cX6_reckonSet 5 (some .int) 2 := ⟨wm_701, wm_93, ⟨by decide +kernel, by decide +kernel, by decide +kernel⟩, wm_700, wm_14⟩
theorem ok_X6_isParting : okS yX6_isParting cX6_isParting 3 (some .boolean) 3 := ⟨wm_704, wm_93, ⟨by decide +kernel, by decide +kernel, by decide +kernel⟩, wm_703⟩
theorem ok_X6_worstBy : okV RX6 yX6_worstBy cX6_worstBy 7 (some .int) 3 := ⟨wm_710, wm_93, ⟨by decide +kernel, by decide +kernel, by decide +kernel⟩, wm_709, wm_15⟩
theorem ok_X6_fewestOf : okV RX6 yX6_fewestOf cX6_fewestOf 2 (some .int) 1 := ⟨wm_715, wm_93, ⟨by decide +kernel, by decide +kernel, by decide +kernel⟩, wm_713, wm_714⟩
theorem ok_X6_firstLetter : okV RX6 yX6_firstLetter cX6_firstLetter 4 (some .int) 2 := ⟨wm_723, wm_93, ⟨by decide +kernel, by decide +kernel, by decide +kernel⟩, wm_721, wm_722⟩
theorem ok_X10_next : okV RX10 yX10_next cX10_next 2 (some .int) 1 := ⟨wm_727, wm_84, ⟨by decide +kernel, by decide +kernel, by decide +kernel⟩, wm_725, wm_726⟩
theorem ok_X2_choice : okS yX2_choice cX2_choice 4 (some .int) 4 := ⟨wm_730, wm_102, ⟨by decide +kernel, by decide +kernel, by decide +kernel⟩, wm_729⟩
theorem ok_X2_often : okS yX2_often cX2_often 7 (some .int) 3 := ⟨wm_733, wm_102, ⟨by decide +kernel, by decide +kernel, by decide +kernel⟩, wm_732⟩
theorem ok_X2_sure : okS yX2_sure cX2_sure 4 (some .int) 3 := ⟨wm_738, wm_102, ⟨by decide +kernel, by decide +kernel, by decide +kernel⟩, wm_737⟩
theorem ok_X2_half : okS yX2_half cX2_half 7 (some .int) 3 := ⟨wm_742, wm_102, ⟨by decide +kernel, by decide +kernel, by decide +kernel⟩, wm_741⟩
theorem ok_J9_abs_0f7a4 : okS yJ9_abs_0f7a4 cJ9_abs_0f7a4 1 (some .int) 1 := ⟨wm_745, wm_89, ⟨by decide +kernel, by decide +kernel, by decide +kernel⟩, wm_744⟩
theorem ok_X2_last : okS yX2_last cX2_last 2 (some .int) 1 := ⟨wm_748, wm_102, ⟨by decide +kernel, by decide +kernel, by decide +kernel⟩, wm_747⟩
theorem ok_X2_first : okS yX2_first cX2_first 4 (some .int) 3 := ⟨wm_751, wm_102, ⟨by decide +kernel, by decide +kernel, by decide +kernel⟩, wm_750⟩
theorem ok_X2_row : okS yX2_row cX2_row 2 (some .int) 1 := ⟨wm_756, wm_102, ⟨by decide +kernel, by decide +kernel, by decide +kernel⟩, wm_755⟩
theorem ok_X10_ends : okV RX10 yX10_ends cX10_ends 4 (some .int) 2 := ⟨wm_760, wm_84, ⟨by decide +kernel, by decide +kernel, by decide +kernel⟩, wm_758, wm_759⟩
theorem ok_X1_playOn : okV RX1 yX1_playOn cX1_playOn 8 (some .int) 4 := ⟨wm_765, wm_87, ⟨by decide +kernel, by decide +kernel, by decide +kernel⟩, wm_763, wm_764⟩
theorem ok_X10_mean : okV RX10 yX10_mean cX10_mean 5 (some .int) 1 := ⟨wm_773, wm_84, ⟨by decide +kernel, by decide +kernel, by decide +kernel⟩, wm_771, wm_772⟩
theorem ok_X0_put : okV RX0 yX0_put cX0_put 4 none 2 := ⟨wm_778, wm_92, ⟨by decide +kernel, by decide +kernel, by decide +kernel⟩, wm_776, wm_777⟩
theorem ok_X0_commonDivisor : okS yX0_commonDivisor cX0_commonDivisor 6 (some .int) 2 := ⟨wm_781, wm_92, ⟨by decide +kernel, by decide +kernel, by decide +kernel⟩, wm_780⟩
theorem ok_X10_luck : okV RX10 yX10_luck cX10_luck 7 (some .int) 1 := ⟨wm_785, wm_84, ⟨by decide +kernel, by decide +kernel, by decide +kernel⟩, wm_783, wm_784⟩
theorem ok_X10_leftByHonest : okV RX10 yX10_leftByHonest cX10_leftByHonest 5 (some .int) 1 := ⟨wm_790, wm_84, ⟨by decide +kernel, by decide +kernel, by decide +kernel⟩, wm_789, wm_16⟩
theorem ok_X10_against : okV RX10 yX10_against cX10_against 5 (some .int) 1 := ⟨wm_796, wm_84, ⟨by decide +kernel, by decide +kernel, by decide +kernel⟩, wm_794, wm_795⟩
theorem ok_X10_reckonPairs : okV RX10 yX10_reckonPairs cX10_reckonPairs 3 none 0 := ⟨wm_800, wm_84, ⟨by decide +kernel, by decide +kernel, by decide +kernel⟩, wm_799, wm_17⟩
theorem ok_X10_pairRests : okV RX10 yX10_pairRests cX10_pairRests 5 (some .boolean) 2 := ⟨wm_804, wm_84, ⟨by decide +kernel, by decide +kernel, by decide +kernel⟩, wm_803, wm_18⟩
theorem ok_X10_note : okV RX10 yX10_note cX10_note 6 (some .int) 4 := ⟨wm_808, wm_84, ⟨by decide +kernel, by decide +kernel, by decide +kernel⟩, wm_806, wm_807⟩
theorem ok_X10_isSetOfWords : okV RX10 yX10_isSetOfWords cX10_isSetOfWords 2 (some .boolean) 1 := ⟨wm_812, wm_84, ⟨by decide +kernel, by decide +kernel, by decide +kernel⟩, wm_811, wm_19⟩
theorem ok_X10_mark : okV RX10 yX10_mark cX10_mark 5 (some .int) 3 := ⟨wm_818, wm_84, ⟨by decide +kernel, by decide +kernel, by decide +kernel⟩, wm_816, wm_817⟩
theorem ok_X10_forget : okV RX10 yX10_forget cX10_forget 4 (some .int) 1 := ⟨wm_822, wm_84, ⟨by decide +kernel, by decide +kernel, by decide +kernel⟩, wm_820, wm_821⟩
theorem ok_X10_is : okV RX10 yX10_is cX10_is 1 (some .int) 0 := ⟨wm_826, wm_84, ⟨by decide +kernel, by decide +kernel, by decide +kernel⟩, wm_824, wm_825⟩
theorem ok_X10_fittingHolders : okV RX10 yX10_fittingHolders cX10_fittingHolders 3 (some .int) 0 := ⟨wm_830, wm_84, ⟨by decide +kernel, by decide +kernel, by decide +kernel⟩, wm_829, wm_20⟩
theorem ok_X10_allNotesFit : okV RX10 yX10_allNotesFit cX10_allNotesFit 5 (some .boolean) 1 := ⟨wm_834, wm_84, ⟨by decide +kernel, by decide +kernel, by decide +kernel⟩, wm_833, wm_21⟩
theorem ok_X10_look : okV RX10 yX10_look cX10_look 6 (some .int) 0 := ⟨wm_839, wm_84, ⟨by decide +kernel, by decide +kernel, by decide +kernel⟩, wm_837, wm_838⟩
theorem ok_X10_mostAlike : okV RX10 yX10_mostAlike cX10_mostAlike 6 (some .int) 1 := ⟨wm_843, wm_84, ⟨by decide +kernel, by decide +kernel, by decide +kernel⟩, wm_842, wm_22⟩
theorem ok_X10_kinds : okV RX10 yX10_kinds cX10_kinds 1 (some .int) 0 := ⟨wm_848, wm_84, ⟨by decide +kernel, by decide +kernel, by decide +kernel⟩, wm_846, wm_847⟩
theorem ok_X10_fittingGuessers : okV RX10 yX10_fittingGuessers cX10_fittingGuessers 3 (some .int) 0 := ⟨wm_852, wm_84, ⟨by decide +kernel, by decide +kernel, by decide +kernel⟩, wm_851, wm_23⟩
theorem ok_X10_allMarksFit : okV RX10 yX10_allMarksFit cX10_allMarksFit 4 (some .boolean) 1 := ⟨wm_856, wm_84, ⟨by decide +kernel, by decide +kernel, by decide +kernel⟩, wm_855, wm_24⟩
theorem ok_X10_ask : okV RX10 yX10_ask cX10_ask 6 (some .int) 0 := ⟨wm_860, wm_84, ⟨by decide +kernel, by decide +kernel, by decide +kernel⟩, wm_858, wm_859⟩
theorem ok_X10_evenings : okV RX10 yX10_evenings cX10_evenings 10 (some .int) 2 := ⟨wm_864, wm_84, ⟨by decide +kernel, by decide +kernel, by decide +kernel⟩, wm_862, wm_863⟩
theorem ok_X10_part : okV RX10 yX10_part cX10_part 2 (some .long) 1 := ⟨wm_875, wm_84, ⟨by decide +kernel, by decide +kernel, by decide +kernel⟩, wm_873, wm_874⟩
theorem ok_X10_image : okV RX10 yX10_image cX10_image 3 (some .int) 1 := ⟨wm_879, wm_84, ⟨by decide +kernel, by decide +kernel, by decide +kernel⟩, wm_877, wm_878⟩
theorem ok_X10_from : okV RX10 yX10_from cX10_from 3 (some .int) 1 := ⟨wm_883, wm_84, ⟨by decide +kernel, by decide +kernel, by decide +kernel⟩, wm_881, wm_882⟩
theorem ok_X10_status : okV RX10 yX10_status cX10_status 2 (some .int) 1 := ⟨wm_887, wm_84, ⟨by decide +kernel, by decide +kernel, by decide +kernel⟩, wm_885, wm_886⟩
theorem ok_X10_count : okV RX10 yX10_count cX10_count 2 (some .int) 1 := ⟨wm_891, wm_84, ⟨by decide +kernel, by decide +kernel, by decide +kernel⟩, wm_889, wm_890⟩
theorem ok_X10_howMany : okV RX10 yX10_howMany cX10_howMany 2 (some .int) 1 := ⟨wm_895, wm_84, ⟨by decide +kernel, by decide +kernel, by decide +kernel⟩, wm_894, wm_25⟩
theorem ok_X10_digest : okV RX10 yX10_digest cX10_digest 4 (some .long) 0 := ⟨wm_899, wm_84, ⟨by decide +kernel, by decide +kernel, by decide +kernel⟩, wm_897, wm_898⟩
theorem ok_X5_digestOn : okV RX5 yX5_digestOn cX5_digestOn 8 (some .long) 2 := ⟨wm_905, wm_88, ⟨by decide +kernel, by decide +kernel, by decide +kernel⟩, wm_903, wm_904⟩
theorem ok_X11_begin : okV RX11 yX11_begin cX11_begin 2 none 1 := ⟨wm_917, wm_94, ⟨by decide +kernel, by decide +kernel, by decide +kernel⟩, wm_916, wm_26⟩
theorem ok_X11_beginsAnew : okV RX11 yX11_beginsAnew cX11_beginsAnew 1 none 0 := ⟨wm_921, wm_94, ⟨by decide +kernel, by decide +kernel, by decide +kernel⟩, wm_920, wm_27⟩
theorem ok_X11_game : okV RX11 yX11_game cX11_game 3 (some .int) 1 := ⟨wm_1013, wm_94, ⟨by decide +kernel, by decide +kernel, by decide +kernel⟩, wm_1011, wm_1012⟩
theorem ok_X11_isKind : okS yX11_isKind cX11_isKind 1 (some .boolean) 1 := ⟨wm_1016, wm_94, ⟨by decide +kernel, by decide +kernel, by decide +kernel⟩, wm_1015⟩
theorem ok_X11_in : okS yX11_in cX11_in 3 (some .boolean) 3 := ⟨wm_1019, wm_94, ⟨by decide +kernel, by decide +kernel, by decide +kernel⟩, wm_1018⟩
theorem ok_X11_bad : okV RX11 yX11_bad cX11_bad 1 (some .int) 0 := ⟨wm_1023, wm_94, ⟨by decide +kernel, by decide +kernel, by decide +kernel⟩, wm_1022, wm_28⟩
theorem ok_X11_holder : okV RX11 yX11_holder cX11_holder 3 (some .int) 1 := ⟨wm_1027, wm_94, ⟨by decide +kernel, by decide +kernel, by decide +kernel⟩, wm_1025, wm_1026⟩
theorem ok_X11_word : okV RX11 yX11_word cX11_word 2 (some .int) 1 := ⟨wm_1031, wm_94, ⟨by decide +kernel, by decide +kernel, by decide +kernel⟩, wm_1029, wm_1030⟩
theorem ok_X11_isThere : okV RX11 yX11_isThere cX11_isThere 4 (some .boolean) 1 := ⟨wm_1035, wm_94, ⟨by decide +kernel, by decide +kernel, by decide +kernel⟩, wm_1034, wm_29⟩
theorem ok_X11_no : okV RX11 yX11_no cX11_no 1 (some .int) 0 := ⟨wm_1039, wm_94, ⟨by decide +kernel, by decide +kernel, by decide +kernel⟩, wm_1038, wm_30⟩
theorem ok_X11_full : okV RX11 yX11_full cX11_full 1 (some .int) 0 := ⟨wm_1043, wm_94, ⟨by decide +kernel, by decide +kernel, by decide +kernel⟩, wm_1042, wm_31⟩
theorem ok_X11_addWord : okV RX11 yX11_addWord cX11_addWord 2 (some .int) 1 := ⟨wm_1047, wm_94, ⟨by decide +kernel, by decide +kernel, by decide +kernel⟩, wm_1046, wm_32⟩
theorem ok_X11_setMasks : okV RX11 yX11_setMasks cX11_setMasks 5 none 1 := ⟨wm_1051, wm_94, ⟨by decide +kernel, by decide +kernel, by decide +kernel⟩, wm_1050, wm_33⟩
theorem ok_X11_letterAt : okS yX11_letterAt cX11_letterAt 3 (some .int) 2 := ⟨wm_1054, wm_94, ⟨by decide +kernel, by decide +kernel, by decide +kernel⟩, wm_1053⟩
theorem ok_X11_type : okV RX11 yX11_type cX11_type 2 (some .int) 1 := ⟨wm_1058, wm_94, ⟨by decide +kernel, by decide +kernel, by decide +kernel⟩, wm_1056, wm_1057⟩
theorem ok_X11_clear : okV RX11 yX11_clear cX11_clear 2 (some .int) 0 := ⟨wm_1062, wm_94, ⟨by decide +kernel, by decide +kernel, by decide +kernel⟩, wm_1060, wm_1061⟩
theorem ok_X11_read : okV RX11 yX11_read cX11_read 2 (some .int) 0 := ⟨wm_1066, wm_94, ⟨by decide +kernel, by decide +kernel, by decide +kernel⟩, wm_1064, wm_1065⟩
theorem ok_X11_layAll : okV RX11 yX11_layAll cX11_layAll 4 none 2 := ⟨wm_1070, wm_94, ⟨by decide +kernel, by decide +kernel, by decide +kernel⟩, wm_1069, wm_34⟩
theorem ok_X11_lays : okV RX11 yX11_lays cX11_lays 3 none 2 := ⟨wm_1074, wm_94, ⟨by decide +kernel, by decide +kernel, by decide +kernel⟩, wm_1073, wm_35⟩
theorem ok_X11_readsGame : okV RX11 yX11_readsGame cX11_readsGame 2 (some .int) 0 := ⟨wm_1078, wm_94, ⟨by decide +kernel, by decide +kernel, by decide +kernel⟩, wm_1077, wm_36⟩
theorem ok_X11_readsFirst : okV RX11 yX11_readsFirst cX11_readsFirst 1 (some .boolean) 0 := ⟨wm_1082, wm_94, ⟨by decide +kernel, by decide +kernel, by decide +kernel⟩, wm_1081, wm_37⟩
theorem ok_X11_skip : okV RX11 yX11_skip cX11_skip 1 none 0 := ⟨wm_1086, wm_94, ⟨by decide +kernel, by decide +kernel, by decide +kernel⟩, wm_1085, wm_38⟩
theorem ok_X11_here : okV RX11 yX11_here cX11_here 1 (some .int) 0 := ⟨wm_1090, wm_94, ⟨by decide +kernel, by decide +kernel, by decide +kernel⟩, wm_1089, wm_39⟩
theorem ok_X11_wordHere : okV RX11 yX11_wordHere cX11_wordHere 3 (some .int) 0 := ⟨wm_1094, wm_94, ⟨by decide +kernel, by decide +kernel, by decide +kernel⟩, wm_1093, wm_40⟩
theorem ok_X11_wordSize : okV RX11 yX11_wordSize cX11_wordSize 2 (some .int) 0 := ⟨wm_1098, wm_94, ⟨by decide +kernel, by decide +kernel, by decide +kernel⟩, wm_1097, wm_41⟩
theorem ok_X11_isLetter : okS yX11_isLetter cX11_isLetter 1 (some .boolean) 1 := ⟨wm_1101, wm_94, ⟨by decide +kernel, by decide +kernel, by decide +kernel⟩, wm_1100⟩
theorem ok_X11_letter : okV RX11 yX11_letter cX11_letter 2 (some .int) 1 := ⟨wm_1105, wm_94, ⟨by decide +kernel, by decide +kernel, by decide +kernel⟩, wm_1104, wm_42⟩
theorem ok_X11_number : okV RX11 yX11_number cX11_number 5 (some .boolean) 2 := ⟨wm_1109, wm_94, ⟨by decide +kernel, by decide +kernel, by decide +kernel⟩, wm_1108, wm_43⟩
theorem ok_X11_isFigure : okS yX11_isFigure cX11_isFigure 1 (some .boolean) 1 := ⟨wm_1112, wm_94, ⟨by decide +kernel, by decide +kernel, by decide +kernel⟩, wm_1111⟩
theorem ok_X11_ends : okV RX11 yX11_ends cX11_ends 1 (some .boolean) 0 := ⟨wm_1116, wm_94, ⟨by decide +kernel, by decide +kernel, by decide +kernel⟩, wm_1115, wm_44⟩
theorem ok_X11_readsItem : okV RX11 yX11_readsItem cX11_readsItem 2 (some .boolean) 0 := ⟨wm_1120, wm_94, ⟨by decide +kernel, by decide +kernel, by decide +kernel⟩, wm_1119, wm_45⟩
theorem ok_X11_readsWord : okV RX11 yX11_readsWord cX11_readsWord 4 (some .boolean) 0 := ⟨wm_1124, wm_94, ⟨by decide +kernel, by decide +kernel, by decide +kernel⟩, wm_1123, wm_46⟩
theorem ok_X11_readsSecret : okV RX11 yX11_readsSecret cX11_readsSecret 1 (some .boolean) 0 := ⟨wm_1128, wm_94, ⟨by decide +kernel, by decide +kernel, by decide +kernel⟩, wm_1127, wm_47⟩
theorem ok_X11_readsGuess : okV RX11 yX11_readsGuess cX11_readsGuess 3 (some .boolean) 0 := ⟨wm_1132, wm_94, ⟨by decide +kernel, by decide +kernel, by decide +kernel⟩, wm_1131, wm_48⟩
theorem ok_X11_has : okS yX11_has cX11_has 2 (some .boolean) 2 := ⟨wm_1135, wm_94, ⟨by decide +kernel, by decide +kernel, by decide +kernel⟩, wm_1134⟩
theorem ok_X11_guesses : okV RX11 yX11_guesses cX11_guesses 2 (some .int) 1 := ⟨wm_1139, wm_94, ⟨by decide +kernel, by decide +kernel, by decide +kernel⟩, wm_1138, wm_49⟩
theorem ok_X11_guessesBy : okV RX11 yX11_guessesBy cX11_guessesBy 4 (some .int) 2 := ⟨wm_1143, wm_94, ⟨by decide +kernel, by decide +kernel, by decide +kernel⟩, wm_1142, wm_50⟩
theorem ok_X11_bits : okS yX11_bits cX11_bits 3 (some .int) 1 := ⟨wm_1146, wm_94, ⟨by decide +kernel, by decide +kernel, by decide +kernel⟩, wm_1145⟩
theorem ok_X11_answerBy : okV RX11 yX11_answerBy cX11_answerBy 6 (some .int) 4 := ⟨wm_1150, wm_94, ⟨by decide +kernel, by decide +kernel, by decide +kernel⟩, wm_1149, wm_51⟩
theorem ok_X11_keptOf : okV RX11 yX11_keptOf cX11_keptOf 3 (some .int) 1 := ⟨wm_1154, wm_94, ⟨by decide +kernel, by decide +kernel, by decide +kernel⟩, wm_1153, wm_52⟩
theorem ok_X11_maskOf : okV RX11 yX11_maskOf cX11_maskOf 3 (some .int) 2 := ⟨wm_1158, wm_94, ⟨by decide +kernel, by decide +kernel, by decide +kernel⟩, wm_1157, wm_53⟩
theorem ok_X11_slippery : okV RX11 yX11_slippery cX11_slippery 7 (some .int) 2 := ⟨wm_1162, wm_94, ⟨by decide +kernel, by decide +kernel, by decide +kernel⟩, wm_1161, wm_54⟩
theorem ok_X11_haveMask : okV RX11 yX11_haveMask cX11_haveMask 6 (some .int) 3 := ⟨wm_1166, wm_94, ⟨by decide +kernel, by decide +kernel, by decide +kernel⟩, wm_1165, wm_55⟩
theorem ok_X11_meanly : okV RX11 yX11_meanly cX11_meanly 3 (some .int) 2 := ⟨wm_1170, wm_94, ⟨by decide +kernel, by decide +kernel, by decide +kernel⟩, wm_1169, wm_56⟩
theorem ok_X11_mildly : okV RX11 yX11_mildly cX11_mildly 7 (some .int) 2 := ⟨wm_1174, wm_94, ⟨by decide +kernel, by decide +kernel, by decide +kernel⟩, wm_1173, wm_57⟩
theorem ok_X11_partOf : okV RX11 yX11_partOf cX11_partOf 6 (some .int) 3 := ⟨wm_1178, wm_94, ⟨by decide +kernel, by decide +kernel, by decide +kernel⟩, wm_1177, wm_58⟩
theorem ok_X11_takeAll : okV RX11 yX11_takeAll cX11_takeAll 4 none 2 := ⟨wm_1182, wm_94, ⟨by decide +kernel, by decide +kernel, by decide +kernel⟩, wm_1181, wm_59⟩
theorem ok_X11_takes : okV RX11 yX11_takes cX11_takes 3 none 2 := ⟨wm_1186, wm_94, ⟨by decide +kernel, by decide +kernel, by decide +kernel⟩, wm_1185, wm_60⟩
theorem ok_X11_guess : okV RX11 yX11_guess cX11_guess 2 (some .int) 1 := ⟨wm_1190, wm_94, ⟨by decide +kernel, by decide +kernel, by decide +kernel⟩, wm_1188, wm_1189⟩
theorem ok_X11_isLetterNumber : okS yX11_isLetterNumber cX11_isLetterNumber 1 (some .boolean) 1 := ⟨wm_1193, wm_94, ⟨by decide +kernel, by decide +kernel, by decide +kernel⟩, wm_1192⟩
theorem ok_X11_mayGuess : okV RX11 yX11_mayGuess cX11_mayGuess 2 (some .boolean) 1 := ⟨wm_1197, wm_94, ⟨by decide +kernel, by decide +kernel, by decide +kernel⟩, wm_1196, wm_61⟩
theorem ok_X11_notes : okV RX11 yX11_notes cX11_notes 2 none 0 := ⟨wm_1201, wm_94, ⟨by decide +kernel, by decide +kernel, by decide +kernel⟩, wm_1200, wm_62⟩
theorem ok_X11_secret : okV RX11 yX11_secret cX11_secret 3 (some .int) 1 := ⟨wm_1205, wm_94, ⟨by decide +kernel, by decide +kernel, by decide +kernel⟩, wm_1203, wm_1204⟩
theorem ok_X11_isWord : okV RX11 yX11_isWord cX11_isWord 2 (some .boolean) 1 := ⟨wm_1209, wm_94, ⟨by decide +kernel, by decide +kernel, by decide +kernel⟩, wm_1208, wm_63⟩
theorem ok_X11_anew : okV RX11 yX11_anew cX11_anew 2 (some .int) 0 := ⟨wm_1213, wm_94, ⟨by decide +kernel, by decide +kernel, by decide +kernel⟩, wm_1211, wm_1212⟩
theorem ok_X11_undo : okV RX11 yX11_undo cX11_undo 1 (some .int) 0 := ⟨wm_1217, wm_94, ⟨by decide +kernel, by decide +kernel, by decide +kernel⟩, wm_1215, wm_1216⟩
theorem ok_X11_of : okV RX11 yX11_of cX11_of 3 (some .int) 2 := ⟨wm_1221, wm_94, ⟨by decide +kernel, by decide +kernel, by decide +kernel⟩, wm_1219, wm_1220⟩
theorem ok_X11_mask : okV RX11 yX11_mask cX11_mask 3 (some .int) 2 := ⟨wm_1225, wm_94, ⟨by decide +kernel, by decide +kernel, by decide +kernel⟩, wm_1223, wm_1224⟩
theorem ok_X11_answer : okV RX11 yX11_answer cX11_answer 2 (some .int) 1 := ⟨wm_1229, wm_94, ⟨by decide +kernel, by decide +kernel, by decide +kernel⟩, wm_1227, wm_1228⟩
theorem ok_X11_parts : okV RX11 yX11_parts cX11_parts 3 (some .int) 2 := ⟨wm_1233, wm_94, ⟨by decide +kernel, by decide +kernel, by decide +kernel⟩, wm_1231, wm_1232⟩
theorem ok_X11_partsBy : okV RX11 yX11_partsBy cX11_partsBy 8 (some .int) 3 := ⟨wm_1237, wm_94, ⟨by decide +kernel, by decide +kernel, by decide +kernel⟩, wm_1236, wm_64⟩
theorem ok_X11_best : okV RX11 yX11_best cX11_best 5 (some .int) 0 := ⟨wm_1241, wm_94, ⟨by decide +kernel, by decide +kernel, by decide +kernel⟩, wm_1239, wm_1240⟩
theorem ok_X11_surely : okV RX11 yX11_surely cX11_surely 5 (some .int) 1 := ⟨wm_1246, wm_94, ⟨by decide +kernel, by decide +kernel, by decide +kernel⟩, wm_1244, wm_1245⟩
theorem ok_X11_isOneAtMost : okS yX11_isOneAtMost cX11_isOneAtMost 1 (some .boolean) 1 := ⟨wm_1249, wm_94, ⟨by decide +kernel, by decide +kernel, by decide +kernel⟩, wm_1248⟩
theorem ok_X11_setSure : okV RX11 yX11_setSure cX11_setSure 2 none 0 := ⟨wm_1253, wm_94, ⟨by decide +kernel, by decide +kernel, by decide +kernel⟩, wm_1252, wm_65⟩
theorem ok_X11_sureOf : okV RX11 yX11_sureOf cX11_sureOf 5 (some .int) 1 := ⟨wm_1257, wm_94, ⟨by decide +kernel, by decide +kernel, by decide +kernel⟩, wm_1256, wm_66⟩
theorem ok_X11_sureBy : okV RX11 yX11_sureBy cX11_sureBy 7 (some .int) 2 := ⟨wm_1261, wm_94, ⟨by decide +kernel, by decide +kernel, by decide +kernel⟩, wm_1260, wm_67⟩
theorem ok_X11_next : okV RX11 yX11_next cX11_next 2 (some .int) 1 := ⟨wm_1265, wm_94, ⟨by decide +kernel, by decide +kernel, by decide +kernel⟩, wm_1263, wm_1264⟩
theorem ok_X11_nextBy : okV RX11 yX11_nextBy cX11_nextBy 4 (some .int) 3 := ⟨wm_1269, wm_94, ⟨by decide +kernel, by decide +kernel, by decide +kernel⟩, wm_1268, wm_68⟩
theorem ok_X11_often : okV RX11 yX11_often cX11_often 7 (some .int) 2 := ⟨wm_1273, wm_94, ⟨by decide +kernel, by decide +kernel, by decide +kernel⟩, wm_1272, wm_69⟩
theorem ok_X11_haveLetter : okV RX11 yX11_haveLetter cX11_haveLetter 3 (some .int) 2 := ⟨wm_1277, wm_94, ⟨by decide +kernel, by decide +kernel, by decide +kernel⟩, wm_1276, wm_70⟩
theorem ok_X11_surest : okV RX11 yX11_surest cX11_surest 4 (some .int) 2 := ⟨wm_1281, wm_94, ⟨by decide +kernel, by decide +kernel, by decide +kernel⟩, wm_1280, wm_71⟩
theorem ok_X11_halving : okV RX11 yX11_halving cX11_halving 8 (some .int) 2 := ⟨wm_1285, wm_94, ⟨by decide +kernel, by decide +kernel, by decide +kernel⟩, wm_1284, wm_72⟩
theorem ok_X11_letterNotOf : okS yX11_letterNotOf cX11_letterNotOf 4 (some .int) 2 := ⟨wm_1288, wm_94, ⟨by decide +kernel, by decide +kernel, by decide +kernel⟩, wm_1287⟩
theorem ok_X11_firstOf : okV RX11 yX11_firstOf cX11_firstOf 5 (some .int) 2 := ⟨wm_1292, wm_94, ⟨by decide +kernel, by decide +kernel, by decide +kernel⟩, wm_1291, wm_73⟩
theorem ok_X11_ends_ : okV RX11 yX11_ends_ cX11_ends_ 4 (some .int) 2 := ⟨wm_1296, wm_94, ⟨by decide +kernel, by decide +kernel, by decide +kernel⟩, wm_1294, wm_1295⟩
theorem ok_X11_playsAside : okV RX11 yX11_playsAside cX11_playsAside 4 (some .int) 2 := ⟨wm_1300, wm_94, ⟨by decide +kernel, by decide +kernel, by decide +kernel⟩, wm_1299, wm_74⟩
theorem ok_X11_plays : okV RX11 yX11_plays cX11_plays 4 (some .int) 2 := ⟨wm_1304, wm_94, ⟨by decide +kernel, by decide +kernel, by decide +kernel⟩, wm_1303, wm_75⟩
theorem ok_X11_mean : okV RX11 yX11_mean cX11_mean 6 (some .int) 1 := ⟨wm_1308, wm_94, ⟨by decide +kernel, by decide +kernel, by decide +kernel⟩, wm_1306, wm_1307⟩
theorem ok_X11_tells : okV RX11 yX11_tells cX11_tells 11 (some .int) 2 := ⟨wm_1312, wm_94, ⟨by decide +kernel, by decide +kernel, by decide +kernel⟩, wm_1311, wm_76⟩
theorem ok_X11_luck : okV RX11 yX11_luck cX11_luck 10 (some .int) 1 := ⟨wm_1316, wm_94, ⟨by decide +kernel, by decide +kernel, by decide +kernel⟩, wm_1314, wm_1315⟩
theorem ok_X11_alikeBy : okV RX11 yX11_alikeBy cX11_alikeBy 8 (some .int) 3 := ⟨wm_1320, wm_94, ⟨by decide +kernel, by decide +kernel, by decide +kernel⟩, wm_1319, wm_77⟩
theorem ok_X11_against : okV RX11 yX11_against cX11_against 5 (some .int) 1 := ⟨wm_1324, wm_94, ⟨by decide +kernel, by decide +kernel, by decide +kernel⟩, wm_1322, wm_1323⟩
theorem ok_X11_ten : okV RX11 yX11_ten cX11_ten 1 (some .int) 0 := ⟨wm_1328, wm_94, ⟨by decide +kernel, by decide +kernel, by decide +kernel⟩, wm_1327, wm_78⟩
theorem ok_X11_rests : okV RX11 yX11_rests cX11_rests 5 (some .boolean) 2 := ⟨wm_1332, wm_94, ⟨by decide +kernel, by decide +kernel, by decide +kernel⟩, wm_1331, wm_79⟩
theorem ok_X11_note : okV RX11 yX11_note cX11_note 5 (some .int) 4 := ⟨wm_1336, wm_94, ⟨by decide +kernel, by decide +kernel, by decide +kernel⟩, wm_1334, wm_1335⟩
theorem ok_X11_isSome : okV RX11 yX11_isSome cX11_isSome 2 (some .boolean) 1 := ⟨wm_1340, wm_94, ⟨by decide +kernel, by decide +kernel, by decide +kernel⟩, wm_1339, wm_80⟩
theorem ok_X11_mark : okV RX11 yX11_mark cX11_mark 4 (some .int) 3 := ⟨wm_1344, wm_94, ⟨by decide +kernel, by decide +kernel, by decide +kernel⟩, wm_1342, wm_1343⟩
theorem ok_X11_forget : okV RX11 yX11_forget cX11_forget 3 (some .int) 1 := ⟨wm_1348, wm_94, ⟨by decide +kernel, by decide +kernel, by decide +kernel⟩, wm_1346, wm_1347⟩
theorem ok_X11_is : okV RX11 yX11_is cX11_is 5 (some .int) 0 := ⟨wm_1352, wm_94, ⟨by decide +kernel, by decide +kernel, by decide +kernel⟩, wm_1350, wm_1351⟩
theorem ok_X11_kinds : okV RX11 yX11_kinds cX11_kinds 5 (some .int) 0 := ⟨wm_1356, wm_94, ⟨by decide +kernel, by decide +kernel, by decide +kernel⟩, wm_1354, wm_1355⟩
theorem ok_X11_look : okV RX11 yX11_look cX11_look 6 (some .int) 0 := ⟨wm_1360, wm_94, ⟨by decide +kernel, by decide +kernel, by decide +kernel⟩, wm_1358, wm_1359⟩
theorem ok_X11_mostAlike : okV RX11 yX11_mostAlike cX11_mostAlike 6 (some .int) 1 := ⟨wm_1365, wm_94, ⟨by decide +kernel, by decide +kernel, by decide +kernel⟩, wm_1364, wm_81⟩
theorem ok_X11_ask : okV RX11 yX11_ask cX11_ask 6 (some .int) 0 := ⟨wm_1369, wm_94, ⟨by decide +kernel, by decide +kernel, by decide +kernel⟩, wm_1367, wm_1368⟩
theorem ok_X11_evenings : okV RX11 yX11_evenings cX11_evenings 7 (some .int) 2 := ⟨wm_1374, wm_94, ⟨by decide +kernel, by decide +kernel, by decide +kernel⟩, wm_1372, wm_1373⟩
theorem ok_X11_part : okV RX11 yX11_part cX11_part 2 (some .long) 1 := ⟨wm_1385, wm_94, ⟨by decide +kernel, by decide +kernel, by decide +kernel⟩, wm_1383, wm_1384⟩
theorem ok_X11_image : okV RX11 yX11_image cX11_image 2 (some .int) 1 := ⟨wm_1389, wm_94, ⟨by decide +kernel, by decide +kernel, by decide +kernel⟩, wm_1387, wm_1388⟩
theorem ok_X11_from : okV RX11 yX11_from cX11_from 2 (some .int) 1 := ⟨wm_1393, wm_94, ⟨by decide +kernel, by decide +kernel, by decide +kernel⟩, wm_1391, wm_1392⟩
theorem ok_X11_status : okV RX11 yX11_status cX11_status 2 (some .int) 1 := ⟨wm_1397, wm_94, ⟨by decide +kernel, by decide +kernel, by decide +kernel⟩, wm_1395, wm_1396⟩
theorem ok_X11_count : okV RX11 yX11_count cX11_count 2 (some .int) 1 := ⟨wm_1401, wm_94, ⟨by decide +kernel, by decide +kernel, by decide +kernel⟩, wm_1399, wm_1400⟩
theorem ok_X11_counted : okV RX11 yX11_counted cX11_counted 2 (some .int) 1 := ⟨wm_1405, wm_94, ⟨by decide +kernel, by decide +kernel, by decide +kernel⟩, wm_1404, wm_82⟩
theorem ok_X11_digest : okV RX11 yX11_digest cX11_digest 4 (some .long) 0 := ⟨wm_1409, wm_94, ⟨by decide +kernel, by decide +kernel, by decide +kernel⟩, wm_1407, wm_1408⟩
