/-! string constants -/
def stL : List Nat := [4, 4, 6, 5]
def stB : List (List Int32) := [[103, 97, 109, 101], [119, 111, 114, 100], [115, 101, 99, 114, 101, 116], [103, 117, 101, 115, 115]]
def stT : List (Nat × String × Nat) := [(42, "game", 0), (52, "word", 1), (57, "secret", 2), (62, "guess", 3)]
def SE (adK adV : Nat → Nat) (A : Nat → Prop) (U : State) (H : Heap) : Prop := vk_S 4 stL stB adK adV A U H ∧ va_Z "java/lang/String" "COMPACT_STRINGS" "Z" (.int 1) A U H ∧ va_Zq "jdk/internal/util/Preconditions" "SIOOBE_FORMATTER" "Ljava/util/function/BiFunction;" A U H ∧ ∀ t ∈ stT, vk_R RX4 t.1 t.2.1 (adK t.2.2) U
theorem SE.kept {adK adV : Nat → Nat} {A : Nat → Prop} {U : State} {H H1 : Heap} (h : SE adK adV A U H) (hq : ∀ a : Nat, a < H.size → ¬ A a → H1[a]? = H[a]?) : SE adK adV A U H1 := ⟨h.1.kept hq, h.2.1.kept hq, h.2.2.1.kept hq, h.2.2.2⟩
theorem SE.narrow {adK adV : Nat → Nat} {A B : Nat → Prop} {U : State} {H : Heap} (h : SE adK adV A U H) (hAB : ∀ q, B q → A q) : SE adK adV B U H := ⟨h.1.narrow hAB, h.2.1.narrow hAB, h.2.2.1.narrow hAB, h.2.2.2⟩
theorem SE.warm {adK adV : Nat → Nat} {A : Nat → Prop} {s U : State} {H : Heap} (hW : s.WarmedH U.vm) (h : SE adK adV A s H) : SE adK adV A U H := ⟨vk_S.moved hW.alike h.1, va_Z.moved hW.alike h.2.1, va_Zq.moved hW.alike h.2.2.1, fun t ht => vk_R.warm hW (h.2.2.2 t ht)⟩
theorem SE.calling {adK adV : Nat → Nat} {A : Nat → Prop} {U : State} {g : JFrame} {mk : MethodId} {a : Array Value} {H : Heap} (h : SE adK adV A U H) : SE adK adV A (U.calling g mk a) H := ⟨vk_S.moved (u := U) (U := U.calling g mk a) (Vm.Alike.refl U.vm) h.1, va_Z.moved (u := U) (U := U.calling g mk a) (Vm.Alike.refl U.vm) h.2.1, va_Zq.moved (u := U) (U := U.calling g mk a) (Vm.Alike.refl U.vm) h.2.2.1, fun t ht => vk_R.same (u := U) rfl (h.2.2.2 t ht)⟩
theorem SE.atF {adK adV : Nat → Nat} {A : Nat → Prop} {s : State} {H : Heap} {locs : List Loc} (h : SE adK adV A s s.heap) (hS : va_S A s.heap H locs) : ∀ U : State, U.heap = H → s.WarmedH U.vm → SE adK adV (fun _ => False) U U.heap := by
  intro U hU hW
  rw [hU]
  exact ((h.kept hS.2.1).narrow (fun _ z => z.elim)).warm hW
theorem SE.atR {adK adV : Nat → Nat} {s : State} (h : SE adK adV (fun _ => False) s s.heap) : ∀ U : State, U.heap = s.heap → s.WarmedH U.vm → SE adK adV (fun _ => False) U U.heap := by
  intro U hU hW
  rw [hU]
  exact h.warm hW
theorem SE.atW {adK adV : Nat → Nat} {A B : Nat → Prop} {s : State} {H : Heap} {locs : List Loc} (h : SE adK adV A s s.heap) (hS : va_S A s.heap H locs) (hF : ∀ q, B q → A q) : ∀ U : State, U.heap = H → s.WarmedH U.vm → SE adK adV B U U.heap := by
  intro U hU hW
  rw [hU]
  exact ((h.kept hS.2.1).narrow hF).warm hW
theorem SE.blind {adK adV : Nat → Nat} {A : Nat → Prop} : ∀ (U : State) (g : JFrame) (mk : MethodId) (a : Array Value), SE adK adV A U U.heap → SE adK adV A (U.calling g mk a) (U.calling g mk a).heap := fun _ _ _ _ h => h.calling
theorem self_free {ws : va_W} {A : Nat → Prop} {s : State} {H : Heap} {locs : List Loc} (hD : va_D A ws) (hS : va_S A s.heap H locs) (hA : ∀ q : Nat, s.heap.size ≤ q → A q) : ∀ q : Nat, va_A ws H.size q → A q := by
  intro q hq
  rcases hq with ⟨k, ee, hk2⟩ | hq
  · exact hD.2 k (q, ee) hk2
  · exact hA q (Nat.le_trans hS.1 hq)
theorem rx_intro {l : Launch} {y : MethodName} {cc : ByteArray} {maxL : Nat} {ret : Option FieldType} {rm : Room} {D : va_G} {cI cB cT : ClassId} {w : va_W} {av : List Value} {E : State → Prop} {r : Option Value} (own : String) (hy : plainName y.cls = true) (hoc : y.cls = own) (hn : (lg_sl av).length ≤ maxL)
    (body : ∀ (p : Program) (e : Env) (s : State) (m : MethodId) (below : List Frame) (meth : Method) (c : Code) (ls : Array Slot), CallFix p m c cc maxL s av.toArray wsAll own → meth.sig.returnType = ret → meth.locks = false → Gd D cI cB cT s → va_P D vwCl w s.heap → E s → lv_has ls maxL (lv_args 0 av) → W p l e rm s m av.toArray below meth c s.heap [] 0 0 (MQ below (Qr r) av.toArray s 0 0 (fun _ => False)) (F0 m 0 ls [])) :
    Met l y (Cond.code y cc maxL ret :: wsAll) rm (fun a U => Pro av D cI cB cT w a U ∧ E U) (Qr r) 0 0 (fun _ => False) := by
  refine Met.ofW (cc := cc) (maxL := maxL) (ret := ret) hy rfl ?_
  intro p e s m args below meth c s₁ B hml hv
  obtain ⟨⟨rfl, hG, hP⟩, hE⟩ := hv
  have hts0 := atoms_spec (ws := Cond.code y cc maxL ret :: wsAll) B.pre
  have hts : ∀ w ∈ wsAll, w.before av.toArray s = true := fun w h => hts0 w (List.mem_cons_of_mem _ h)
  have hown : s.vm.findClass own = some m.cls := hoc ▸ findClass_of_methodNamed B.named
  rw [lg_entry_eq]
  exact body p e s m below meth c _ ⟨B.exec, B.bytes, hml, hown, hts⟩ B.returns B.notSynchronized hG hP hE (lv_entry av hn)
theorem wx_intro {l : Launch} {y : MethodName} {cc : ByteArray} {maxL : Nat} {ret : Option FieldType} {rm : Room} {D : va_G} {cI cB cT : ClassId} {w w' : va_W} {av : List Value} {E : (Nat → Prop) → State → Prop} {r : Option Value} {sz : Nat} (own : String) (hy : plainName y.cls = true) (hoc : y.cls = own) (hn : (lg_sl av).length ≤ maxL)
    (body : ∀ (p : Program) (e : Env) (s : State) (m : MethodId) (below : List Frame) (meth : Method) (c : Code) (ls : Array Slot) (A : Nat → Prop) (H : Heap) (locs : List Loc), CallFix p m c cc maxL s av.toArray wsAll own → meth.sig.returnType = ret → meth.locks = false → Gd D cI cB cT s → va_P D vwCl w H → va_D A w → va_S A s.heap H locs → (∀ q : Nat, s.heap.size ≤ q → A q) → E A s → lv_has ls maxL (lv_args 0 av) → W p l e rm s m av.toArray below meth c H locs 0 0 (MQ below (Qw r D w' A) av.toArray s 0 0 A) (F0 m 0 ls [])) :
    Met l y (Cond.code y cc maxL ret :: wsAll) rm (fun a U => Pwr av D cI cB cT w sz a U ∧ E (va_A w sz) U) (Qw r D w' (va_A w sz)) 0 0 (va_A w sz) := by
  refine Met.ofW (cc := cc) (maxL := maxL) (ret := ret) hy rfl ?_
  intro p e s m args below meth c s₁ B hml hv
  obtain ⟨⟨rfl, hsz, hG, hP, hD0⟩, hE⟩ := hv
  subst hsz
  have hts0 := atoms_spec (ws := Cond.code y cc maxL ret :: wsAll) B.pre
  have hts : ∀ w ∈ wsAll, w.before av.toArray s = true := fun w h => hts0 w (List.mem_cons_of_mem _ h)
  have hown : s.vm.findClass own = some m.cls := hoc ▸ findClass_of_methodNamed B.named
  rw [lg_entry_eq]
  exact body p e s m below meth c _ (va_A w s.heap.size) s.heap [] ⟨B.exec, B.bytes, hml, hown, hts⟩ B.returns B.notSynchronized hG hP hD0.self va_S.rf (fun q h => Or.inr h) hE (lv_entry av hn)
section LX
variable {p : Program} {l : Launch} {e : Env} {R : Room} {s : State} {m : MethodId} {args : Array Value} {below : List Frame} {meth : Method} {c : Code} {H : Heap} {locs : List Loc} {cells slots : Nat} {Q : State → Prop}
variable {pc : Nat} {ls : Array Slot} {rest st0 : List Value} {a : Array Value} {cc : ByteArray} {nL : Nat} {own : String} {D : va_G} {cI cB cT : ClassId}
variable {y : MethodName} {bytes : ByteArray} {maxL n index : Nat} {ret : Option FieldType} {rm : Room} {C : String} {b : Nat} {As : List Value} {wc wc' : va_W} {r : Option Value} {E : State → Prop}
theorem rx_T (CF : CallFix p m c cc nL s args wsAll own) (hM : Met l y (Cond.code y bytes maxL ret :: wsAll) rm (fun a U => Pro (.ref b :: As) D cI cB cT wc a U ∧ E U) (Qr r) 0 0 (fun _ => False)) (hEb : ∀ (U : State) (g : JFrame) (mk : MethodId) (a : Array Value), E U → E (U.calling g mk a)) (hEw : ∀ U : State, U.heap = H → s.WarmedH U.vm → E U) (ok : okV C y bytes maxL ret n) (lk : Cond.methodLink own index y ∈ wsAll) (hrm : rmOk rm R maxL) (hG : Gd D cI cB cT s) (hPc : va_P D vwCl wc H) (hrc : ∃ cell : Cell, H[b]? = some cell ∧ cell.vm.isStatics = false ∧ s.vm.findClass C = some cell.cls) (hn : As.length = n) (hl : ls.size = nL) (hst : st0 = As.reverse ++ .ref b :: rest) (hrest : (rest.map fun v => v.category).sum ≤ 8) (hcs : cells ≤ R.cells ∧ slots ≤ R.slots) (hdg : decode cc pc = .ok (.invokevirtual index, 3))
    (kk : W p l e R s m args below meth c H locs cells slots Q (F0 m (pc + 3) ls (r.toList ++ rest))) : W p l e R s m args below meth c H locs cells slots Q (F0 m pc ls st0) :=
  ro_core (va_runV CF hM ⟨mkB CF ok.1 ok.2.1 ok.2.2.1 lk hrm, CF.2.2.2.2 _ ok.2.2.2.1, CF.2.2.2.2 _ ok.2.2.2.2⟩ ⟨fun a U g mk q => ⟨Pro_blind a U g mk q.1, hEb U g mk a q.2⟩, hrc, fun U hU hW => ⟨⟨rfl, hG.warm hW, by rw [hU]; exact hPc⟩, hEw U hU hW⟩⟩ rfl hn hl hst (lv_room hrest) hdg hcs) kk
theorem rx_V (CF : CallFix p m c cc nL s args wsAll own) (hM : Met l y (Cond.code y bytes maxL ret :: wsAll) rm (fun a U => Pro (.ref b :: As) D cI cB cT wc a U ∧ E U) (Qr r) 0 0 (fun _ => False)) (hEb : ∀ (U : State) (g : JFrame) (mk : MethodId) (a : Array Value), E U → E (U.calling g mk a)) (hEw : ∀ U : State, U.heap = H → s.WarmedH U.vm → E U) (ok : okV C y bytes maxL ret n) (lk : Cond.methodLink own index y ∈ wsAll) (hrm : rmOk rm R maxL) (hG : Gd D cI cB cT s) (hPc : va_P D vwCl wc H) (q0 ci : Nat) {q : vw_C} {fs : List Value} (hq : vwCl[ci]? = some q) (hqC : q.1 = C) (he : wc[q0]? = some (b, .inr (ci, fs))) (hn : As.length = n) (hl : ls.size = nL) (hst : st0 = As.reverse ++ .ref b :: rest) (hrest : (rest.map fun v => v.category).sum ≤ 8) (hcs : cells ≤ R.cells ∧ slots ≤ R.slots) (hdg : decode cc pc = .ok (.invokevirtual index, 3))
    (kk : W p l e R s m args below meth c H locs cells slots Q (F0 m (pc + 3) ls (r.toList ++ rest))) : W p l e R s m args below meth c H locs cells slots Q (F0 m pc ls st0) :=
  ro_core (va_runV CF hM ⟨mkB CF ok.1 ok.2.1 ok.2.2.1 lk hrm, CF.2.2.2.2 _ ok.2.2.2.1, CF.2.2.2.2 _ ok.2.2.2.2⟩ ⟨fun a U g mk q => ⟨Pro_blind a U g mk q.1, hEb U g mk a q.2⟩, hqC ▸ va_recv hG.1 hPc hq he, fun U hU hW => ⟨⟨rfl, hG.warm hW, by rw [hU]; exact hPc⟩, hEw U hU hW⟩⟩ rfl hn hl hst (lv_room hrest) hdg hcs) kk
theorem rx_S (CF : CallFix p m c cc nL s args wsAll own) (hM : Met l y (Cond.code y bytes maxL ret :: wsAll) rm (fun a U => Pro As D cI cB cT wc a U ∧ E U) (Qr r) 0 0 (fun _ => False)) (hEb : ∀ (U : State) (g : JFrame) (mk : MethodId) (a : Array Value), E U → E (U.calling g mk a)) (hEw : ∀ U : State, U.heap = H → s.WarmedH U.vm → E U) (ok : okS y bytes maxL ret n) (lk : Cond.methodLink own index y ∈ wsAll) (hrm : rmOk rm R maxL) (hG : Gd D cI cB cT s) (hPc : va_P D vwCl wc H) (hn : As.length = n) (hl : ls.size = nL) (hst : st0 = As.reverse ++ rest) (hrest : (rest.map fun v => v.category).sum ≤ 8) (hcs : cells ≤ R.cells ∧ slots ≤ R.slots) (hdg : decode cc pc = .ok (.invokestatic index, 3))
    (kk : W p l e R s m args below meth c H locs cells slots Q (F0 m (pc + 3) ls (r.toList ++ rest))) : W p l e R s m args below meth c H locs cells slots Q (F0 m pc ls st0) :=
  ro_core (va_runS CF hM ⟨mkB CF ok.1 ok.2.1 ok.2.2.1 lk hrm, CF.2.2.2.2 _ ok.2.2.2⟩ ⟨fun a U g mk q => ⟨Pro_blind a U g mk q.1, hEb U g mk a q.2⟩, fun U hU hW => ⟨⟨rfl, hG.warm hW, by rw [hU]; exact hPc⟩, hEw U hU hW⟩⟩ rfl hn hl hst (lv_room hrest) hdg hcs) kk
theorem wx_V {ws ws' : va_W} {A : Nat → Prop} (CF : CallFix p m c cc nL s args wsAll own) (hM : Met l y (Cond.code y bytes maxL ret :: wsAll) rm (fun a U => Pwr (.ref b :: As) D cI cB cT wc H.size a U ∧ E U) (Qw r D wc' (va_A wc H.size)) 0 0 (va_A wc H.size)) (hEb : ∀ (U : State) (g : JFrame) (mk : MethodId) (a : Array Value), E U → E (U.calling g mk a)) (hEw : ∀ U : State, U.heap = H → s.WarmedH U.vm → E U) (ok : okV C y bytes maxL ret n) (lk : Cond.methodLink own index y ∈ wsAll) (hrm : rmOk rm R maxL) (hG : Gd D cI cB cT s) (hP : va_P D vwCl ws H) (hD : va_D A ws) (hS : va_S A s.heap H locs) (hA : ∀ q : Nat, s.heap.size ≤ q → A q) (isC : List Nat) (hPc : va_P D vwCl wc H) (hnd : va_nd isC = true) (hC : isC.map (fun i => ws[i]?) = wc.map some) (hlen : isC.length = wc'.length) (hpb : ws' = pb ws isC wc') (hfst : ws'.map Prod.fst = ws.map Prod.fst) (q0 ci : Nat) {q : vw_C} {fs : List Value} (hq : vwCl[ci]? = some q) (hqC : q.1 = C) (he : wc[q0]? = some (b, .inr (ci, fs))) (hn : As.length = n) (hl : ls.size = nL) (hst : st0 = As.reverse ++ .ref b :: rest) (hrest : (rest.map fun v => v.category).sum ≤ 8) (hcs : cells ≤ R.cells ∧ slots ≤ R.slots) (hdg : decode cc pc = .ok (.invokevirtual index, 3))
    (kk : ∀ (H1 : Heap) (locs1 : List Loc), va_P D vwCl ws' H1 → va_D A ws' → va_S A s.heap H1 locs1 → W p l e R s m args below meth c H1 locs1 cells slots Q (F0 m (pc + 3) ls (r.toList ++ rest))) : W p l e R s m args below meth c H locs cells slots Q (F0 m pc ls st0) :=
  wr_core (va_runV CF hM ⟨mkB CF ok.1 ok.2.1 ok.2.2.1 lk hrm, CF.2.2.2.2 _ ok.2.2.2.1, CF.2.2.2.2 _ ok.2.2.2.2⟩ ⟨fun a U g mk q => ⟨Pwr_blind a U g mk q.1, hEb U g mk a q.2⟩, hqC ▸ va_recv hG.1 hPc hq he, fun U hU hW => ⟨⟨rfl, by rw [hU], hG.warm hW, by rw [hU]; exact hPc, (hD.sub isC hnd hC).weaken (fun _ _ _ _ => trivial)⟩, hEw U hU hW⟩⟩ rfl hn hl hst (lv_room hrest) hdg hcs) hP hD hS hA isC hC hlen hpb hfst kk
theorem wx_W {ws ws' : va_W} {A : Nat → Prop} (CF : CallFix p m c cc nL s args wsAll own) (hM : Met l y (Cond.code y bytes maxL ret :: wsAll) rm (fun a U => Pwr (.ref b :: As) D cI cB cT ws H.size a U ∧ E U) (Qw r D ws' (va_A ws H.size)) 0 0 (va_A ws H.size)) (hEb : ∀ (U : State) (g : JFrame) (mk : MethodId) (a : Array Value), E U → E (U.calling g mk a)) (hEw : ∀ U : State, U.heap = H → s.WarmedH U.vm → E U) (ok : okV C y bytes maxL ret n) (lk : Cond.methodLink own index y ∈ wsAll) (hrm : rmOk rm R maxL) (hG : Gd D cI cB cT s) (hP : va_P D vwCl ws H) (hD : va_D A ws) (hS : va_S A s.heap H locs) (hA : ∀ q : Nat, s.heap.size ≤ q → A q) (hfst : ws'.map Prod.fst = ws.map Prod.fst) (q0 ci : Nat) {q : vw_C} {fs : List Value} (hq : vwCl[ci]? = some q) (hqC : q.1 = C) (he : ws[q0]? = some (b, .inr (ci, fs))) (hn : As.length = n) (hl : ls.size = nL) (hst : st0 = As.reverse ++ .ref b :: rest) (hrest : (rest.map fun v => v.category).sum ≤ 8) (hcs : cells ≤ R.cells ∧ slots ≤ R.slots) (hdg : decode cc pc = .ok (.invokevirtual index, 3))
    (kk : ∀ (H1 : Heap) (locs1 : List Loc), va_P D vwCl ws' H1 → va_D A ws' → va_S A s.heap H1 locs1 → W p l e R s m args below meth c H1 locs1 cells slots Q (F0 m (pc + 3) ls (r.toList ++ rest))) : W p l e R s m args below meth c H locs cells slots Q (F0 m pc ls st0) :=
  wr_self (va_runV CF hM ⟨mkB CF ok.1 ok.2.1 ok.2.2.1 lk hrm, CF.2.2.2.2 _ ok.2.2.2.1, CF.2.2.2.2 _ ok.2.2.2.2⟩ ⟨fun a U g mk q => ⟨Pwr_blind a U g mk q.1, hEb U g mk a q.2⟩, hqC ▸ va_recv hG.1 hP hq he, fun U hU hW => ⟨⟨rfl, by rw [hU], hG.warm hW, by rw [hU]; exact hP, hD.weaken (fun _ _ _ _ => trivial)⟩, hEw U hU hW⟩⟩ rfl hn hl hst (lv_room hrest) hdg hcs) hD hS hA hfst kk
theorem ro_nret {v : Int32} {ty : FieldType} (CF : CallFix p m c cc nL s args wsAll own) (hr : meth.sig.returnType = some ty) (hlk : meth.locks = false) (hv : narrow ty (.int v) = .int v) (hdg : decode cc pc = .ok (.ireturn, 1)) : W p l e R s m args below meth c s.heap [] cells slots (MQ below (Qr (some (.int v))) args s cells slots (fun _ => False)) (F0 m pc ls [.int v]) :=
  W.zret CF.1 CF.2.1 hr hv (fun t ht _ => ⟨rfl, ht⟩) (fun _ h => by cases h) hdg hlk
theorem ro_vret (CF : CallFix p m c cc nL s args wsAll own) (hr : meth.sig.returnType = none) (hlk : meth.locks = false) (hdg : decode cc pc = .ok (.return_, 1)) : W p l e R s m args below meth c s.heap [] cells slots (MQ below (Qr none) args s cells slots (fun _ => False)) (F0 m pc ls []) :=
  W.vret CF.1 CF.2.1 hr (fun t ht _ => ⟨rfl, ht⟩) (fun _ h => by cases h) hdg hlk
end LX
section LXV
variable {p : Program} {l : Launch} {e : Env} {R : Room} {s : State} {m : MethodId} {args : Array Value} {below : List Frame} {meth : Method} {c : Code} {H : Heap} {locs : List Loc} {cells slots : Nat} {Q : State → Prop}
variable {pc : Nat} {ls : Array Slot} {rest st0 : List Value} {a : Array Value} {cc : ByteArray} {nL : Nat} {own : String} {D : va_G} {cI cB cT : ClassId}
variable {y : MethodName} {bytes : ByteArray} {maxL n index : Nat} {ret : Option FieldType} {rm : Room} {C : String} {b : Nat} {As : List Value} {wc wc' : va_W} {E : State → Prop}
theorem rx_Vi {x : Int32} (CF : CallFix p m c cc nL s args wsAll own) (hM : Met l y (Cond.code y bytes maxL ret :: wsAll) rm (fun a U => Pro (.ref b :: As) D cI cB cT wc a U ∧ E U) (Qr (some (.int x))) 0 0 (fun _ => False)) (hEb : ∀ (U : State) (g : JFrame) (mk : MethodId) (a : Array Value), E U → E (U.calling g mk a)) (hEw : ∀ U : State, U.heap = H → s.WarmedH U.vm → E U) (ok : okV C y bytes maxL ret n) (lk : Cond.methodLink own index y ∈ wsAll) (hrm : rmOk rm R maxL) (hG : Gd D cI cB cT s) (hPc : va_P D vwCl wc H) (q0 ci : Nat) {q : vw_C} {fs : List Value} (hq : vwCl[ci]? = some q) (hqC : q.1 = C) (he : wc[q0]? = some (b, .inr (ci, fs))) (hn : As.length = n) (hl : ls.size = nL) (hst : st0 = As.reverse ++ .ref b :: rest) (hrest : (rest.map fun v => v.category).sum ≤ 8) (hcs : cells ≤ R.cells ∧ slots ≤ R.slots) (hdg : decode cc pc = .ok (.invokevirtual index, 3))
    (kk : W p l e R s m args below meth c H locs cells slots Q (F0 m (pc + 3) ls (.int x :: rest))) : W p l e R s m args below meth c H locs cells slots Q (F0 m pc ls st0) :=
  rx_V (r := (some (.int x))) CF hM hEb hEw ok lk hrm hG hPc q0 ci hq hqC he hn hl hst hrest hcs hdg kk
theorem rx_Vv (CF : CallFix p m c cc nL s args wsAll own) (hM : Met l y (Cond.code y bytes maxL ret :: wsAll) rm (fun a U => Pro (.ref b :: As) D cI cB cT wc a U ∧ E U) (Qr none) 0 0 (fun _ => False)) (hEb : ∀ (U : State) (g : JFrame) (mk : MethodId) (a : Array Value), E U → E (U.calling g mk a)) (hEw : ∀ U : State, U.heap = H → s.WarmedH U.vm → E U) (ok : okV C y bytes maxL ret n) (lk : Cond.methodLink own index y ∈ wsAll) (hrm : rmOk rm R maxL) (hG : Gd D cI cB cT s) (hPc : va_P D vwCl wc H) (q0 ci : Nat) {q : vw_C} {fs : List Value} (hq : vwCl[ci]? = some q) (hqC : q.1 = C) (he : wc[q0]? = some (b, .inr (ci, fs))) (hn : As.length = n) (hl : ls.size = nL) (hst : st0 = As.reverse ++ .ref b :: rest) (hrest : (rest.map fun v => v.category).sum ≤ 8) (hcs : cells ≤ R.cells ∧ slots ≤ R.slots) (hdg : decode cc pc = .ok (.invokevirtual index, 3))
    (kk : W p l e R s m args below meth c H locs cells slots Q (F0 m (pc + 3) ls rest)) : W p l e R s m args below meth c H locs cells slots Q (F0 m pc ls st0) :=
  rx_V (r := none) CF hM hEb hEw ok lk hrm hG hPc q0 ci hq hqC he hn hl hst hrest hcs hdg kk
theorem rx_Ti {x : Int32} (CF : CallFix p m c cc nL s args wsAll own) (hM : Met l y (Cond.code y bytes maxL ret :: wsAll) rm (fun a U => Pro (.ref b :: As) D cI cB cT wc a U ∧ E U) (Qr (some (.int x))) 0 0 (fun _ => False)) (hEb : ∀ (U : State) (g : JFrame) (mk : MethodId) (a : Array Value), E U → E (U.calling g mk a)) (hEw : ∀ U : State, U.heap = H → s.WarmedH U.vm → E U) (ok : okV C y bytes maxL ret n) (lk : Cond.methodLink own index y ∈ wsAll) (hrm : rmOk rm R maxL) (hG : Gd D cI cB cT s) (hPc : va_P D vwCl wc H) (hrc : ∃ cell : Cell, H[b]? = some cell ∧ cell.vm.isStatics = false ∧ s.vm.findClass C = some cell.cls) (hn : As.length = n) (hl : ls.size = nL) (hst : st0 = As.reverse ++ .ref b :: rest) (hrest : (rest.map fun v => v.category).sum ≤ 8) (hcs : cells ≤ R.cells ∧ slots ≤ R.slots) (hdg : decode cc pc = .ok (.invokevirtual index, 3))
    (kk : W p l e R s m args below meth c H locs cells slots Q (F0 m (pc + 3) ls (.int x :: rest))) : W p l e R s m args below meth c H locs cells slots Q (F0 m pc ls st0) :=
  rx_T (r := (some (.int x))) CF hM hEb hEw ok lk hrm hG hPc hrc hn hl hst hrest hcs hdg kk
theorem rx_Tv (CF : CallFix p m c cc nL s args wsAll own) (hM : Met l y (Cond.code y bytes maxL ret :: wsAll) rm (fun a U => Pro (.ref b :: As) D cI cB cT wc a U ∧ E U) (Qr none) 0 0 (fun _ => False)) (hEb : ∀ (U : State) (g : JFrame) (mk : MethodId) (a : Array Value), E U → E (U.calling g mk a)) (hEw : ∀ U : State, U.heap = H → s.WarmedH U.vm → E U) (ok : okV C y bytes maxL ret n) (lk : Cond.methodLink own index y ∈ wsAll) (hrm : rmOk rm R maxL) (hG : Gd D cI cB cT s) (hPc : va_P D vwCl wc H) (hrc : ∃ cell : Cell, H[b]? = some cell ∧ cell.vm.isStatics = false ∧ s.vm.findClass C = some cell.cls) (hn : As.length = n) (hl : ls.size = nL) (hst : st0 = As.reverse ++ .ref b :: rest) (hrest : (rest.map fun v => v.category).sum ≤ 8) (hcs : cells ≤ R.cells ∧ slots ≤ R.slots) (hdg : decode cc pc = .ok (.invokevirtual index, 3))
    (kk : W p l e R s m args below meth c H locs cells slots Q (F0 m (pc + 3) ls rest)) : W p l e R s m args below meth c H locs cells slots Q (F0 m pc ls st0) :=
  rx_T (r := none) CF hM hEb hEw ok lk hrm hG hPc hrc hn hl hst hrest hcs hdg kk
theorem rx_Si {x : Int32} (CF : CallFix p m c cc nL s args wsAll own) (hM : Met l y (Cond.code y bytes maxL ret :: wsAll) rm (fun a U => Pro As D cI cB cT wc a U ∧ E U) (Qr (some (.int x))) 0 0 (fun _ => False)) (hEb : ∀ (U : State) (g : JFrame) (mk : MethodId) (a : Array Value), E U → E (U.calling g mk a)) (hEw : ∀ U : State, U.heap = H → s.WarmedH U.vm → E U) (ok : okS y bytes maxL ret n) (lk : Cond.methodLink own index y ∈ wsAll) (hrm : rmOk rm R maxL) (hG : Gd D cI cB cT s) (hPc : va_P D vwCl wc H) (hn : As.length = n) (hl : ls.size = nL) (hst : st0 = As.reverse ++ rest) (hrest : (rest.map fun v => v.category).sum ≤ 8) (hcs : cells ≤ R.cells ∧ slots ≤ R.slots) (hdg : decode cc pc = .ok (.invokestatic index, 3))
    (kk : W p l e R s m args below meth c H locs cells slots Q (F0 m (pc + 3) ls (.int x :: rest))) : W p l e R s m args below meth c H locs cells slots Q (F0 m pc ls st0) :=
  rx_S (r := (some (.int x))) CF hM hEb hEw ok lk hrm hG hPc hn hl hst hrest hcs hdg kk
theorem rx_Sv (CF : CallFix p m c cc nL s args wsAll own) (hM : Met l y (Cond.code y bytes maxL ret :: wsAll) rm (fun a U => Pro As D cI cB cT wc a U ∧ E U) (Qr none) 0 0 (fun _ => False)) (hEb : ∀ (U : State) (g : JFrame) (mk : MethodId) (a : Array Value), E U → E (U.calling g mk a)) (hEw : ∀ U : State, U.heap = H → s.WarmedH U.vm → E U) (ok : okS y bytes maxL ret n) (lk : Cond.methodLink own index y ∈ wsAll) (hrm : rmOk rm R maxL) (hG : Gd D cI cB cT s) (hPc : va_P D vwCl wc H) (hn : As.length = n) (hl : ls.size = nL) (hst : st0 = As.reverse ++ rest) (hrest : (rest.map fun v => v.category).sum ≤ 8) (hcs : cells ≤ R.cells ∧ slots ≤ R.slots) (hdg : decode cc pc = .ok (.invokestatic index, 3))
    (kk : W p l e R s m args below meth c H locs cells slots Q (F0 m (pc + 3) ls rest)) : W p l e R s m args below meth c H locs cells slots Q (F0 m pc ls st0) :=
  rx_S (r := none) CF hM hEb hEw ok lk hrm hG hPc hn hl hst hrest hcs hdg kk
theorem wx_Vi {x : Int32} {ws ws' : va_W} {A : Nat → Prop} (CF : CallFix p m c cc nL s args wsAll own) (hM : Met l y (Cond.code y bytes maxL ret :: wsAll) rm (fun a U => Pwr (.ref b :: As) D cI cB cT wc H.size a U ∧ E U) (Qw (some (.int x)) D wc' (va_A wc H.size)) 0 0 (va_A wc H.size)) (hEb : ∀ (U : State) (g : JFrame) (mk : MethodId) (a : Array Value), E U → E (U.calling g mk a)) (hEw : ∀ U : State, U.heap = H → s.WarmedH U.vm → E U) (ok : okV C y bytes maxL ret n) (lk : Cond.methodLink own index y ∈ wsAll) (hrm : rmOk rm R maxL) (hG : Gd D cI cB cT s) (hP : va_P D vwCl ws H) (hD : va_D A ws) (hS : va_S A s.heap H locs) (hA : ∀ q : Nat, s.heap.size ≤ q → A q) (isC : List Nat) (hPc : va_P D vwCl wc H) (hnd : va_nd isC = true) (hC : isC.map (fun i => ws[i]?) = wc.map some) (hlen : isC.length = wc'.length) (hpb : ws' = pb ws isC wc') (hfst : ws'.map Prod.fst = ws.map Prod.fst) (q0 ci : Nat) {q : vw_C} {fs : List Value} (hq : vwCl[ci]? = some q) (hqC : q.1 = C) (he : wc[q0]? = some (b, .inr (ci, fs))) (hn : As.length = n) (hl : ls.size = nL) (hst : st0 = As.reverse ++ .ref b :: rest) (hrest : (rest.map fun v => v.category).sum ≤ 8) (hcs : cells ≤ R.cells ∧ slots ≤ R.slots) (hdg : decode cc pc = .ok (.invokevirtual index, 3))
    (kk : ∀ (H1 : Heap) (locs1 : List Loc), va_P D vwCl ws' H1 → va_D A ws' → va_S A s.heap H1 locs1 → W p l e R s m args below meth c H1 locs1 cells slots Q (F0 m (pc + 3) ls (.int x :: rest))) : W p l e R s m args below meth c H locs cells slots Q (F0 m pc ls st0) :=
  wx_V (r := (some (.int x))) CF hM hEb hEw ok lk hrm hG hP hD hS hA isC hPc hnd hC hlen hpb hfst q0 ci hq hqC he hn hl hst hrest hcs hdg kk
theorem wx_Vv {ws ws' : va_W} {A : Nat → Prop} (CF : CallFix p m c cc nL s args wsAll own) (hM : Met l y (Cond.code y bytes maxL ret :: wsAll) rm (fun a U => Pwr (.ref b :: As) D cI cB cT wc H.size a U ∧ E U) (Qw none D wc' (va_A wc H.size)) 0 0 (va_A wc H.size)) (hEb : ∀ (U : State) (g : JFrame) (mk : MethodId) (a : Array Value), E U → E (U.calling g mk a)) (hEw : ∀ U : State, U.heap = H → s.WarmedH U.vm → E U) (ok : okV C y bytes maxL ret n) (lk : Cond.methodLink own index y ∈ wsAll) (hrm : rmOk rm R maxL) (hG : Gd D cI cB cT s) (hP : va_P D vwCl ws H) (hD : va_D A ws) (hS : va_S A s.heap H locs) (hA : ∀ q : Nat, s.heap.size ≤ q → A q) (isC : List Nat) (hPc : va_P D vwCl wc H) (hnd : va_nd isC = true) (hC : isC.map (fun i => ws[i]?) = wc.map some) (hlen : isC.length = wc'.length) (hpb : ws' = pb ws isC wc') (hfst : ws'.map Prod.fst = ws.map Prod.fst) (q0 ci : Nat) {q : vw_C} {fs : List Value} (hq : vwCl[ci]? = some q) (hqC : q.1 = C) (he : wc[q0]? = some (b, .inr (ci, fs))) (hn : As.length = n) (hl : ls.size = nL) (hst : st0 = As.reverse ++ .ref b :: rest) (hrest : (rest.map fun v => v.category).sum ≤ 8) (hcs : cells ≤ R.cells ∧ slots ≤ R.slots) (hdg : decode cc pc = .ok (.invokevirtual index, 3))
    (kk : ∀ (H1 : Heap) (locs1 : List Loc), va_P D vwCl ws' H1 → va_D A ws' → va_S A s.heap H1 locs1 → W p l e R s m args below meth c H1 locs1 cells slots Q (F0 m (pc + 3) ls rest)) : W p l e R s m args below meth c H locs cells slots Q (F0 m pc ls st0) :=
  wx_V (r := none) CF hM hEb hEw ok lk hrm hG hP hD hS hA isC hPc hnd hC hlen hpb hfst q0 ci hq hqC he hn hl hst hrest hcs hdg kk
theorem wx_Wi {x : Int32} {ws ws' : va_W} {A : Nat → Prop} (CF : CallFix p m c cc nL s args wsAll own) (hM : Met l y (Cond.code y bytes maxL ret :: wsAll) rm (fun a U => Pwr (.ref b :: As) D cI cB cT ws H.size a U ∧ E U) (Qw (some (.int x)) D ws' (va_A ws H.size)) 0 0 (va_A ws H.size)) (hEb : ∀ (U : State) (g : JFrame) (mk : MethodId) (a : Array Value), E U → E (U.calling g mk a)) (hEw : ∀ U : State, U.heap = H → s.WarmedH U.vm → E U) (ok : okV C y bytes maxL ret n) (lk : Cond.methodLink own index y ∈ wsAll) (hrm : rmOk rm R maxL) (hG : Gd D cI cB cT s) (hP : va_P D vwCl ws H) (hD : va_D A ws) (hS : va_S A s.heap H locs) (hA : ∀ q : Nat, s.heap.size ≤ q → A q) (hfst : ws'.map Prod.fst = ws.map Prod.fst) (q0 ci : Nat) {q : vw_C} {fs : List Value} (hq : vwCl[ci]? = some q) (hqC : q.1 = C) (he : ws[q0]? = some (b, .inr (ci, fs))) (hn : As.length = n) (hl : ls.size = nL) (hst : st0 = As.reverse ++ .ref b :: rest) (hrest : (rest.map fun v => v.category).sum ≤ 8) (hcs : cells ≤ R.cells ∧ slots ≤ R.slots) (hdg : decode cc pc = .ok (.invokevirtual index, 3))
    (kk : ∀ (H1 : Heap) (locs1 : List Loc), va_P D vwCl ws' H1 → va_D A ws' → va_S A s.heap H1 locs1 → W p l e R s m args below meth c H1 locs1 cells slots Q (F0 m (pc + 3) ls (.int x :: rest))) : W p l e R s m args below meth c H locs cells slots Q (F0 m pc ls st0) :=
  wx_W (r := (some (.int x))) CF hM hEb hEw ok lk hrm hG hP hD hS hA hfst q0 ci hq hqC he hn hl hst hrest hcs hdg kk
theorem wx_Wv {ws ws' : va_W} {A : Nat → Prop} (CF : CallFix p m c cc nL s args wsAll own) (hM : Met l y (Cond.code y bytes maxL ret :: wsAll) rm (fun a U => Pwr (.ref b :: As) D cI cB cT ws H.size a U ∧ E U) (Qw none D ws' (va_A ws H.size)) 0 0 (va_A ws H.size)) (hEb : ∀ (U : State) (g : JFrame) (mk : MethodId) (a : Array Value), E U → E (U.calling g mk a)) (hEw : ∀ U : State, U.heap = H → s.WarmedH U.vm → E U) (ok : okV C y bytes maxL ret n) (lk : Cond.methodLink own index y ∈ wsAll) (hrm : rmOk rm R maxL) (hG : Gd D cI cB cT s) (hP : va_P D vwCl ws H) (hD : va_D A ws) (hS : va_S A s.heap H locs) (hA : ∀ q : Nat, s.heap.size ≤ q → A q) (hfst : ws'.map Prod.fst = ws.map Prod.fst) (q0 ci : Nat) {q : vw_C} {fs : List Value} (hq : vwCl[ci]? = some q) (hqC : q.1 = C) (he : ws[q0]? = some (b, .inr (ci, fs))) (hn : As.length = n) (hl : ls.size = nL) (hst : st0 = As.reverse ++ .ref b :: rest) (hrest : (rest.map fun v => v.category).sum ≤ 8) (hcs : cells ≤ R.cells ∧ slots ≤ R.slots) (hdg : decode cc pc = .ok (.invokevirtual index, 3))
    (kk : ∀ (H1 : Heap) (locs1 : List Loc), va_P D vwCl ws' H1 → va_D A ws' → va_S A s.heap H1 locs1 → W p l e R s m args below meth c H1 locs1 cells slots Q (F0 m (pc + 3) ls rest)) : W p l e R s m args below meth c H locs cells slots Q (F0 m pc ls st0) :=
  wx_W (r := none) CF hM hEb hEw ok lk hrm hG hP hD hS hA hfst q0 ci hq hqC he hn hl hst hrest hcs hdg kk
end LXV
def rm_J0_coder_7d493 : Room := { frames := 0, cells := 0, slots := 0, locals := 0 }
set_option maxHeartbeats 4000000 in
set_option maxRecDepth 100000 in
theorem c_J0_coder_7d493 (l : Launch) (D : va_G) (cI cB cT : ClassId) (adK adV : Nat → Nat) (i : Nat) (hi : i < 4) : Met l yJ0_coder_7d493 (Cond.code yJ0_coder_7d493 cJ0_coder_7d493 1 (some .byte) :: wsAll) rm_J0_coder_7d493 (fun a U => Pro [.ref (adK i)] D cI cB cT wd_E a U ∧ SE adK adV (fun _ => False) U U.heap) (Qr (some (.int 0))) 0 0 (fun _ => False) := by
  refine rx_intro RJ0 (by decide +kernel) rfl (Nat.le_of_ble_eq_true rfl) ?_
  intro p e s m below meth c ls CF hr hlk hG hP hE hl
  obtain ⟨hx, hb, hml, hown, hts⟩ := id CF
  have hl : lv_has ls 1 [(0, .ref (adK i))] := hl
  refine va_gets hx hb hE.2.1 (va_S.rf (A := fun _ => False)) hown (hts _ wm_441) (fun _ h9 => h9) dJ0_coder_7d493_0 ?_
  refine lv_if_eq (tgt := 13) hx hb dJ0_coder_7d493_3 (by decide) (fun c1 => absurd c1 (by decide)) (fun c1 => ?_)
  refine lv_aload_n hx hb dJ0_coder_7d493_6 rfl (lv_at hl 0 rfl) ?_
  refine vk_getf hx hb (hE.1.1 i hi).2.1 (va_S.rf (A := fun _ => False)) hown (hts _ wm_1414) (fun _ h9 => h9) dJ0_coder_7d493_7 ?_
  refine lv_goto (tgt := 14) hx hb dJ0_coder_7d493_10 (by decide) ?_
  exact ro_nret CF hr hlk rfl dJ0_coder_7d493_14
def rm_J0_isLatin1_aae02 : Room := { frames := 0, cells := 0, slots := 0, locals := 0 }
set_option maxHeartbeats 4000000 in
set_option maxRecDepth 100000 in
theorem c_J0_isLatin1_aae02 (l : Launch) (D : va_G) (cI cB cT : ClassId) (adK adV : Nat → Nat) (i : Nat) (hi : i < 4) : Met l yJ0_isLatin1_aae02 (Cond.code yJ0_isLatin1_aae02 cJ0_isLatin1_aae02 1 (some .boolean) :: wsAll) rm_J0_isLatin1_aae02 (fun a U => Pro [.ref (adK i)] D cI cB cT wd_E a U ∧ SE adK adV (fun _ => False) U U.heap) (Qr (some (.int 1))) 0 0 (fun _ => False) := by
  refine rx_intro RJ0 (by decide +kernel) rfl (Nat.le_of_ble_eq_true rfl) ?_
  intro p e s m below meth c ls CF hr hlk hG hP hE hl
  obtain ⟨hx, hb, hml, hown, hts⟩ := id CF
  have hl : lv_has ls 1 [(0, .ref (adK i))] := hl
  refine va_gets hx hb hE.2.1 (va_S.rf (A := fun _ => False)) hown (hts _ wm_441) (fun _ h9 => h9) dJ0_isLatin1_aae02_0 ?_
  refine lv_if_eq (tgt := 17) hx hb dJ0_isLatin1_aae02_3 (by decide) (fun c1 => absurd c1 (by decide)) (fun c1 => ?_)
  refine lv_aload_n hx hb dJ0_isLatin1_aae02_6 rfl (lv_at hl 0 rfl) ?_
  refine vk_getf hx hb (hE.1.1 i hi).2.1 (va_S.rf (A := fun _ => False)) hown (hts _ wm_1414) (fun _ h9 => h9) dJ0_isLatin1_aae02_7 ?_
  refine lv_if_ne (tgt := 17) hx hb dJ0_isLatin1_aae02_10 (by decide) (fun c1 => absurd rfl c1) (fun c1 => ?_)
  refine lv_iconst (v := (1 : Int32)) hx hb dJ0_isLatin1_aae02_13 (by decide) ?_
  refine lv_goto (tgt := 18) hx hb dJ0_isLatin1_aae02_14 (by decide) ?_
  exact ro_nret CF hr hlk rfl dJ0_isLatin1_aae02_18
def rm_J0_length_8abf5 : Room := { frames := 1, cells := 0, slots := 0, locals := 20 }
set_option maxHeartbeats 4000000 in
set_option maxRecDepth 100000 in
theorem c_J0_length_8abf5 (l : Launch) (D : va_G) (cI cB cT : ClassId) (adK adV : Nat → Nat) (i : Nat) (hi : i < 4) : Met l yJ0_length_8abf5 (Cond.code yJ0_length_8abf5 cJ0_length_8abf5 1 (some .int) :: wsAll) rm_J0_length_8abf5 (fun a U => Pro [.ref (adK i)] D cI cB cT wd_E a U ∧ SE adK adV (fun _ => False) U U.heap) (Qr (some (.int (Int32.ofNat (stL.getD i 0))))) 0 0 (fun _ => False) := by
  refine rx_intro RJ0 (by decide +kernel) rfl (Nat.le_of_ble_eq_true rfl) ?_
  intro p e s m below meth c ls CF hr hlk hG hP hE hl
  obtain ⟨hx, hb, hml, hown, hts⟩ := id CF
  have hl : lv_has ls 1 [(0, .ref (adK i))] := hl
  refine lv_aload_n hx hb dJ0_length_8abf5_0 rfl (lv_at hl 0 rfl) ?_
  refine vk_getf hx hb (hE.1.1 i hi).2.2.1 (va_S.rf (A := fun _ => False)) hown (hts _ wm_1413) (fun _ h9 => h9) dJ0_length_8abf5_1 ?_
  refine va_tlen (v := Int32.ofNat (stL.getD i 0)) hx hb (hE.1.1 i hi).2.2.2 (va_S.rf (A := fun _ => False)) rfl dJ0_length_8abf5_4 ?_
  refine lv_aload_n hx hb dJ0_length_8abf5_5 rfl (lv_at hl 0 rfl) ?_
  refine rx_Ti (x := (0 : Int32)) (As := []) (rest := [.int (Int32.ofNat (stL.getD i 0))]) CF (c_J0_coder_7d493 l D cI cB cT adK adV i hi) SE.blind hE.atR ok_J0_coder_7d493 wm_437 ⟨rfl, rfl, Nat.le_of_ble_eq_true rfl, Nat.le_of_ble_eq_true rfl⟩ hG wd_E_P (vk_recv hE.1 hi (va_S.rf (A := fun _ => False))) rfl hl.1 rfl (Nat.le_of_ble_eq_true rfl) ⟨Nat.zero_le _, Nat.zero_le _⟩ dJ0_length_8abf5_6 ?_
  refine lv_ishr hx hb dJ0_length_8abf5_9 ?_
  rw [sb_shr0]
  exact ro_iret CF hr hlk dJ0_length_8abf5_10
def rm_J3_checkIndex_8e157 : Room := { frames := 0, cells := 0, slots := 0, locals := 0 }
set_option maxHeartbeats 4000000 in
set_option maxRecDepth 100000 in
theorem c_J3_checkIndex_8e157 (l : Launch) (D : va_G) (cI cB cT : ClassId) (k n : Int32) (o : Option Nat) (h1 : ¬ k < 0) (h2 : k < n) : Met l yJ3_checkIndex_8e157 (Cond.code yJ3_checkIndex_8e157 cJ3_checkIndex_8e157 3 (some .int) :: wsAll) rm_J3_checkIndex_8e157 (Pro [.int k, .int n, va_rf o] D cI cB cT wd_E) (Qr (some (.int k))) 0 0 (fun _ => False) := by
  refine ro_intro RJ3 (by decide +kernel) rfl (by cases o <;> exact Nat.le_of_ble_eq_true rfl) ?_
  intro p e s m below meth c ls CF hr hlk hG hP hl
  obtain ⟨hx, hb, hml, hown, hts⟩ := id CF
  have hl : lv_has ls 3 [(0, .int k), (1, .int n), (2, va_rf o)] := hl
  refine lv_iload_n hx hb dJ3_checkIndex_8e157_0 rfl (lv_at hl 0 rfl) ?_
  refine lv_if_lt (tgt := 9) hx hb dJ3_checkIndex_8e157_1 (by decide) (fun c1 => absurd c1 h1) (fun c1 => ?_)
  refine lv_iload_n hx hb dJ3_checkIndex_8e157_4 rfl (lv_at hl 0 rfl) ?_
  refine lv_iload_n hx hb dJ3_checkIndex_8e157_5 rfl (lv_at hl 1 rfl) ?_
  refine lv_icmp_lt (tgt := 16) hx hb dJ3_checkIndex_8e157_6 (by decide) (fun c2 => ?_) (fun c2 => absurd h2 c2)
  refine lv_iload_n hx hb dJ3_checkIndex_8e157_16 rfl (lv_at hl 0 rfl) ?_
  exact ro_iret CF hr hlk dJ3_checkIndex_8e157_17
def rm_J0_checkIndex_df160 : Room := { frames := 1, cells := 0, slots := 0, locals := 22 }
set_option maxHeartbeats 4000000 in
set_option maxRecDepth 100000 in
theorem c_J0_checkIndex_df160 (l : Launch) (D : va_G) (cI cB cT : ClassId) (adK adV : Nat → Nat) (k n : Int32) (h1 : ¬ k < 0) (h2 : k < n) : Met l yJ0_checkIndex_df160 (Cond.code yJ0_checkIndex_df160 cJ0_checkIndex_df160 2 none :: wsAll) rm_J0_checkIndex_df160 (fun a U => Pro [.int k, .int n] D cI cB cT wd_E a U ∧ SE adK adV (fun _ => False) U U.heap) (Qr none) 0 0 (fun _ => False) := by
  refine rx_intro RJ0 (by decide +kernel) rfl (Nat.le_of_ble_eq_true rfl) ?_
  intro p e s m below meth c ls CF hr hlk hG hP hE hl
  obtain ⟨hx, hb, hml, hown, hts⟩ := id CF
  have hl : lv_has ls 2 [(0, .int k), (1, .int n)] := hl
  refine lv_iload_n hx hb dJ0_checkIndex_df160_0 rfl (lv_at hl 0 rfl) ?_
  refine lv_iload_n hx hb dJ0_checkIndex_df160_1 rfl (lv_at hl 1 rfl) ?_
  rcases hE.2.2.1 with hz | ⟨t, hz⟩
  · refine va_gets hx hb hz (va_S.rf (A := fun _ => False)) hown (hts _ wm_457) (fun _ h9 => h9) dJ0_checkIndex_df160_2 ?_
    refine ro_Si (x := k) (As := [.int k, .int n, .null]) (rest := []) CF (c_J3_checkIndex_8e157 l D cI cB cT k n none h1 h2) ok_J3_checkIndex_8e157 wm_459 ⟨rfl, rfl, Nat.le_of_ble_eq_true rfl, Nat.le_of_ble_eq_true rfl⟩ hG wd_E_P rfl hl.1 rfl (Nat.le_of_ble_eq_true rfl) ⟨Nat.zero_le _, Nat.zero_le _⟩ dJ0_checkIndex_df160_5 ?_
    refine lv_pop hx hb dJ0_checkIndex_df160_8 rfl ?_
    exact ro_vret CF hr hlk dJ0_checkIndex_df160_9
  · refine va_gets hx hb hz (va_S.rf (A := fun _ => False)) hown (hts _ wm_457) (fun _ h9 => h9) dJ0_checkIndex_df160_2 ?_
    refine ro_Si (x := k) (As := [.int k, .int n, .ref t]) (rest := []) CF (c_J3_checkIndex_8e157 l D cI cB cT k n (some t) h1 h2) ok_J3_checkIndex_8e157 wm_459 ⟨rfl, rfl, Nat.le_of_ble_eq_true rfl, Nat.le_of_ble_eq_true rfl⟩ hG wd_E_P rfl hl.1 rfl (Nat.le_of_ble_eq_true rfl) ⟨Nat.zero_le _, Nat.zero_le _⟩ dJ0_checkIndex_df160_5 ?_
    refine lv_pop hx hb dJ0_checkIndex_df160_8 rfl ?_
    exact ro_vret CF hr hlk dJ0_checkIndex_df160_9
theorem st_lt {k : Int32} {n : Nat} (hn : n < 100) (hk : ¬ oob k n) : ¬ k < 0 ∧ k < Int32.ofNat n := by
  refine ⟨fun h => hk (Or.inl h), ?_⟩
  obtain ⟨j, hj, rfl⟩ := vp_in_of (n := n) hk (by omega)
  exact nI_lt hj (by omega)
theorem stL_lt {i : Nat} (hi : i < 4) : stL.getD i 0 < 100 := by
  rcases (show i = 0 ∨ i = 1 ∨ i = 2 ∨ i = 3 by omega) with rfl | rfl | rfl | rfl <;> decide
def rm_J1_charAt_3b067 : Room := { frames := 2, cells := 0, slots := 0, locals := 43 }
set_option maxHeartbeats 4000000 in
set_option maxRecDepth 100000 in
theorem c_J1_charAt_3b067 (l : Launch) (D : va_G) (cI cB cT : ClassId) (adK adV : Nat → Nat) (i : Nat) (hi : i < 4) (k : Int32) (hk : ¬ oob k (stL.getD i 0)) : Met l yJ1_charAt_3b067 (Cond.code yJ1_charAt_3b067 cJ1_charAt_3b067 2 (some .char) :: wsAll) rm_J1_charAt_3b067 (fun a U => Pro [.ref (adV i), .int k] D cI cB cT wd_E a U ∧ SE adK adV (fun _ => False) U U.heap) (Qr (some (.int (((stB.getD i []).getD k.toNatClampNeg 0) &&& 255)))) 0 0 (fun _ => False) := by
  refine rx_intro RJ1 (by decide +kernel) rfl (Nat.le_of_ble_eq_true rfl) ?_
  intro p e s m below meth c ls CF hr hlk hG hP hE hl
  obtain ⟨hx, hb, hml, hown, hts⟩ := id CF
  have hl : lv_has ls 2 [(0, .ref (adV i)), (1, .int k)] := hl
  have hkk := st_lt (stL_lt hi) hk
  refine lv_iload_n hx hb dJ1_charAt_3b067_0 rfl (lv_at hl 1 rfl) ?_
  refine lv_aload_n hx hb dJ1_charAt_3b067_1 rfl (lv_at hl 0 rfl) ?_
  refine va_tlen (v := Int32.ofNat (stL.getD i 0)) hx hb (hE.1.1 i hi).2.2.2 (va_S.rf (A := fun _ => False)) rfl dJ1_charAt_3b067_2 ?_
  refine rx_Sv (As := [.int k, .int (Int32.ofNat (stL.getD i 0))]) (rest := []) CF (c_J0_checkIndex_df160 l D cI cB cT adK adV k (Int32.ofNat (stL.getD i 0)) hkk.1 hkk.2) SE.blind hE.atR ok_J0_checkIndex_df160 wm_454 ⟨rfl, rfl, Nat.le_of_ble_eq_true rfl, Nat.le_of_ble_eq_true rfl⟩ hG wd_E_P rfl hl.1 rfl (Nat.le_of_ble_eq_true rfl) ⟨Nat.zero_le _, Nat.zero_le _⟩ dJ1_charAt_3b067_3 ?_
  refine lv_aload_n hx hb dJ1_charAt_3b067_6 rfl (lv_at hl 0 rfl) ?_
  refine lv_iload_n hx hb dJ1_charAt_3b067_7 rfl (lv_at hl 1 rfl) ?_
  refine va_tb (v := .int ((stB.getD i []).getD k.toNatClampNeg 0)) hx hb (hE.1.1 i hi).2.2.2 (va_S.rf (A := fun _ => False)) hk rfl dJ1_charAt_3b067_8 ?_
  refine lv_sipush (v := (255 : Int32)) hx hb dJ1_charAt_3b067_9 (by decide) ?_
  refine lv_iand hx hb dJ1_charAt_3b067_12 ?_
  refine lv_i2c hx hb dJ1_charAt_3b067_13 (sc_c2 _) ?_
  exact ro_nret CF hr hlk (sc_nar _) dJ1_charAt_3b067_14
def rm_J0_charAt_5068e : Room := { frames := 3, cells := 0, slots := 0, locals := 64 }
set_option maxHeartbeats 4000000 in
set_option maxRecDepth 100000 in
theorem c_J0_charAt_5068e (l : Launch) (D : va_G) (cI cB cT : ClassId) (adK adV : Nat → Nat) (i : Nat) (hi : i < 4) (k : Int32) (hk : ¬ oob k (stL.getD i 0)) : Met l yJ0_charAt_5068e (Cond.code yJ0_charAt_5068e cJ0_charAt_5068e 2 (some .char) :: wsAll) rm_J0_charAt_5068e (fun a U => Pro [.ref (adK i), .int k] D cI cB cT wd_E a U ∧ SE adK adV (fun _ => False) U U.heap) (Qr (some (.int (((stB.getD i []).getD k.toNatClampNeg 0) &&& 255)))) 0 0 (fun _ => False) := by
  refine rx_intro RJ0 (by decide +kernel) rfl (Nat.le_of_ble_eq_true rfl) ?_
  intro p e s m below meth c ls CF hr hlk hG hP hE hl
  obtain ⟨hx, hb, hml, hown, hts⟩ := id CF
  have hl : lv_has ls 2 [(0, .ref (adK i)), (1, .int k)] := hl
  refine lv_aload_n hx hb dJ0_charAt_5068e_0 rfl (lv_at hl 0 rfl) ?_
  refine rx_Ti (x := (1 : Int32)) (As := []) (rest := []) CF (c_J0_isLatin1_aae02 l D cI cB cT adK adV i hi) SE.blind hE.atR ok_J0_isLatin1_aae02 wm_447 ⟨rfl, rfl, Nat.le_of_ble_eq_true rfl, Nat.le_of_ble_eq_true rfl⟩ hG wd_E_P (vk_recv hE.1 hi (va_S.rf (A := fun _ => False))) rfl hl.1 rfl (Nat.le_of_ble_eq_true rfl) ⟨Nat.zero_le _, Nat.zero_le _⟩ dJ0_charAt_5068e_1 ?_
  refine lv_if_eq (tgt := 16) hx hb dJ0_charAt_5068e_4 (by decide) (fun c1 => absurd c1 (by decide)) (fun c1 => ?_)
  refine lv_aload_n hx hb dJ0_charAt_5068e_7 rfl (lv_at hl 0 rfl) ?_
  refine vk_getf hx hb (hE.1.1 i hi).2.2.1 (va_S.rf (A := fun _ => False)) hown (hts _ wm_1413) (fun _ h9 => h9) dJ0_charAt_5068e_8 ?_
  refine lv_iload_n hx hb dJ0_charAt_5068e_11 rfl (lv_at hl 1 rfl) ?_
  refine rx_Si (x := (((stB.getD i []).getD k.toNatClampNeg 0) &&& 255)) (As := [.ref (adV i), .int k]) (rest := []) CF (c_J1_charAt_3b067 l D cI cB cT adK adV i hi k hk) SE.blind hE.atR ok_J1_charAt_3b067 wm_451 ⟨rfl, rfl, Nat.le_of_ble_eq_true rfl, Nat.le_of_ble_eq_true rfl⟩ hG wd_E_P rfl hl.1 rfl (Nat.le_of_ble_eq_true rfl) ⟨Nat.zero_le _, Nat.zero_le _⟩ dJ0_charAt_5068e_12 ?_
  exact ro_nret CF hr hlk (sc_nar _) dJ0_charAt_5068e_15
section LX
variable {p : Program} {l : Launch} {e : Env} {R : Room} {s : State} {m : MethodId} {args : Array Value} {below : List Frame} {meth : Method} {c : Code} {H : Heap} {locs : List Loc} {cells slots : Nat} {Q : State → Prop}
variable {pc : Nat} {ls : Array Slot} {rest st0 : List Value} {a : Array Value} {cc : ByteArray} {nL : Nat} {own : String} {D : va_G} {cI cB cT : ClassId}
theorem wr_core2 {r : Option Value} {ws wc wc' ws' : va_W} {A : Nat → Prop} (hr : va_Run p l e R s m args below meth c H locs cells slots 0 0 (F0 m pc ls st0) rest (Qw r D wc' (va_A wc H.size) a) (va_A wc H.size)) (hP : va_P D vwCl ws H) (hD : va_D A ws) (hS : va_S A s.heap H locs) (hA : ∀ q : Nat, s.heap.size ≤ q → A q) (isC : List Nat) (hC : isC.map (fun i => ws[i]?) = wc.map some) (hsel : ∀ (k : Nat) (q : Nat × va_E), ws'[k]? = some q → (ws[k]? = some q ∧ k ∉ isC) ∨ ∃ j : Nat, wc'[j]? = some q) (hfst : ws'.map Prod.fst = ws.map Prod.fst)
    (kk : ∀ (H1 : Heap) (locs1 : List Loc), va_P D vwCl ws' H1 → va_D A ws' → va_S A s.heap H1 locs1 → W p l e R s m args below meth c H1 locs1 cells slots Q (F0 m (pc + 3) ls (r.toList ++ rest))) : W p l e R s m args below meth c H locs cells slots Q (F0 m pc ls st0) := by
  intro T hT X
  obtain ⟨v, st₀, t, T', L, h0, X', hL, e1, e2, ⟨hv, hP1, hz, hk⟩, st⟩ := hr T hT X
  cases hv
  rw [h0] at hz hk
  have hF := va_free (wc := wc) hD hS hA isC hC
  have hPn : va_P D vwCl ws' T'.heap := by
    intro k q hq
    rcases hsel k q hq with ⟨h1, h2⟩ | ⟨j, hj⟩
    · have hlt := (hP k q h1).lt
      refine (hP k q h1).kept ?_
      rw [e1]
      refine hk q.1 hlt (fun hin => ?_)
      rcases hin with ⟨k2, ee, hk2⟩ | hin
      · have h3 : (isC.map (fun i => ws[i]?))[k2]? = some (some (q.1, ee)) := by rw [hC, List.getElem?_map, hk2]; rfl
        rw [List.getElem?_map] at h3
        cases hi : isC[k2]? with
        | none => rw [hi] at h3; cases h3
        | some i =>
          rw [hi] at h3
          have h4 : ws[i]? = some (q.1, ee) := Option.some.inj h3
          have h5 := hD.1 k i q (q.1, ee) h1 h4 rfl
          subst h5
          exact h2 (List.mem_of_getElem? hi)
      · omega
    · rw [e1]
      exact hP1 j q hj
  obtain ⟨t2, a1, b1⟩ := kk T'.heap (locs ++ L) hPn (va_D_fst hfst hD)
    ⟨Nat.le_trans hS.1 (by rw [e1]; exact hz), fun q h1 h2 => by rw [e1, hk q (Nat.lt_of_lt_of_le h1 hS.1) (fun z => h2 (hF q z))]; exact hS.2.1 q h1 h2, fun q hq => by
      rcases List.mem_append.mp hq with h | h
      · exact hS.2.2 q h
      · exact hF _ (hL q h)⟩ T' rfl X'
  exact ⟨t2, st t2 a1, b1⟩
variable {y : MethodName} {bytes : ByteArray} {maxL n index : Nat} {ret : Option FieldType} {rm : Room} {C : String} {b : Nat} {As : List Value} {wc wc' : va_W} {r : Option Value} {E : State → Prop}
theorem wr_V2 {ws ws' : va_W} {A : Nat → Prop} (CF : CallFix p m c cc nL s args wsAll own) (hM : Met l y (Cond.code y bytes maxL ret :: wsAll) rm (Pwr (.ref b :: As) D cI cB cT wc H.size) (Qw r D wc' (va_A wc H.size)) 0 0 (va_A wc H.size)) (ok : okV C y bytes maxL ret n) (lk : Cond.methodLink own index y ∈ wsAll) (hrm : rmOk rm R maxL) (hG : Gd D cI cB cT s) (hP : va_P D vwCl ws H) (hD : va_D A ws) (hS : va_S A s.heap H locs) (hA : ∀ q : Nat, s.heap.size ≤ q → A q) (isC : List Nat) (hPc : va_P D vwCl wc H) (hnd : va_nd isC = true) (hC : isC.map (fun i => ws[i]?) = wc.map some) (hsel : ∀ (k : Nat) (q : Nat × va_E), ws'[k]? = some q → (ws[k]? = some q ∧ k ∉ isC) ∨ ∃ j : Nat, wc'[j]? = some q) (hfst : ws'.map Prod.fst = ws.map Prod.fst) (q0 ci : Nat) {q : vw_C} {fs : List Value} (hq : vwCl[ci]? = some q) (hqC : q.1 = C) (he : wc[q0]? = some (b, .inr (ci, fs))) (hn : As.length = n) (hl : ls.size = nL) (hst : st0 = As.reverse ++ .ref b :: rest) (hrest : (rest.map fun v => v.category).sum ≤ 8) (hcs : cells ≤ R.cells ∧ slots ≤ R.slots) (hdg : decode cc pc = .ok (.invokevirtual index, 3))
    (kk : ∀ (H1 : Heap) (locs1 : List Loc), va_P D vwCl ws' H1 → va_D A ws' → va_S A s.heap H1 locs1 → W p l e R s m args below meth c H1 locs1 cells slots Q (F0 m (pc + 3) ls (r.toList ++ rest))) : W p l e R s m args below meth c H locs cells slots Q (F0 m pc ls st0) :=
  wr_core2 (va_runV CF hM ⟨mkB CF ok.1 ok.2.1 ok.2.2.1 lk hrm, CF.2.2.2.2 _ ok.2.2.2.1, CF.2.2.2.2 _ ok.2.2.2.2⟩ ⟨Pwr_blind, hqC ▸ va_recv hG.1 hPc hq he, fun U hU hW => ⟨rfl, by rw [hU], hG.warm hW, by rw [hU]; exact hPc, (hD.sub isC hnd hC).weaken (fun _ _ _ _ => trivial)⟩⟩ rfl hn hl hst (lv_room hrest) hdg hcs) hP hD hS hA isC hC hsel hfst kk
theorem wx_V2 {ws ws' : va_W} {A : Nat → Prop} (CF : CallFix p m c cc nL s args wsAll own) (hM : Met l y (Cond.code y bytes maxL ret :: wsAll) rm (fun a U => Pwr (.ref b :: As) D cI cB cT wc H.size a U ∧ E U) (Qw r D wc' (va_A wc H.size)) 0 0 (va_A wc H.size)) (hEb : ∀ (U : State) (g : JFrame) (mk : MethodId) (a : Array Value), E U → E (U.calling g mk a)) (hEw : ∀ U : State, U.heap = H → s.WarmedH U.vm → E U) (ok : okV C y bytes maxL ret n) (lk : Cond.methodLink own index y ∈ wsAll) (hrm : rmOk rm R maxL) (hG : Gd D cI cB cT s) (hP : va_P D vwCl ws H) (hD : va_D A ws) (hS : va_S A s.heap H locs) (hA : ∀ q : Nat, s.heap.size ≤ q → A q) (isC : List Nat) (hPc : va_P D vwCl wc H) (hnd : va_nd isC = true) (hC : isC.map (fun i => ws[i]?) = wc.map some) (hsel : ∀ (k : Nat) (q : Nat × va_E), ws'[k]? = some q → (ws[k]? = some q ∧ k ∉ isC) ∨ ∃ j : Nat, wc'[j]? = some q) (hfst : ws'.map Prod.fst = ws.map Prod.fst) (q0 ci : Nat) {q : vw_C} {fs : List Value} (hq : vwCl[ci]? = some q) (hqC : q.1 = C) (he : wc[q0]? = some (b, .inr (ci, fs))) (hn : As.length = n) (hl : ls.size = nL) (hst : st0 = As.reverse ++ .ref b :: rest) (hrest : (rest.map fun v => v.category).sum ≤ 8) (hcs : cells ≤ R.cells ∧ slots ≤ R.slots) (hdg : decode cc pc = .ok (.invokevirtual index, 3))
    (kk : ∀ (H1 : Heap) (locs1 : List Loc), va_P D vwCl ws' H1 → va_D A ws' → va_S A s.heap H1 locs1 → W p l e R s m args below meth c H1 locs1 cells slots Q (F0 m (pc + 3) ls (r.toList ++ rest))) : W p l e R s m args below meth c H locs cells slots Q (F0 m pc ls st0) :=
  wr_core2 (va_runV CF hM ⟨mkB CF ok.1 ok.2.1 ok.2.2.1 lk hrm, CF.2.2.2.2 _ ok.2.2.2.1, CF.2.2.2.2 _ ok.2.2.2.2⟩ ⟨fun a U g mk q => ⟨Pwr_blind a U g mk q.1, hEb U g mk a q.2⟩, hqC ▸ va_recv hG.1 hPc hq he, fun U hU hW => ⟨⟨rfl, by rw [hU], hG.warm hW, by rw [hU]; exact hPc, (hD.sub isC hnd hC).weaken (fun _ _ _ _ => trivial)⟩, hEw U hU hW⟩⟩ rfl hn hl hst (lv_room hrest) hdg hcs) hP hD hS hA isC hC hsel hfst kk
end LX
section LXW
variable {p : Program} {l : Launch} {e : Env} {R : Room} {s : State} {m : MethodId} {args : Array Value} {below : List Frame} {meth : Method} {c : Code} {H : Heap} {locs : List Loc} {cells slots : Nat} {Q : State → Prop}
variable {pc : Nat} {ls : Array Slot} {rest st0 : List Value} {a : Array Value} {cc : ByteArray} {nL : Nat} {own : String} {D : va_G} {cI cB cT : ClassId}
variable {y : MethodName} {bytes : ByteArray} {maxL n index : Nat} {ret : Option FieldType} {rm : Room} {C : String} {b : Nat} {As : List Value} {wc wc' : va_W} {E : State → Prop}
theorem wr_V2i {x : Int32} {ws ws' : va_W} {A : Nat → Prop} (CF : CallFix p m c cc nL s args wsAll own) (hM : Met l y (Cond.code y bytes maxL ret :: wsAll) rm (Pwr (.ref b :: As) D cI cB cT wc H.size) (Qw (some (.int x)) D wc' (va_A wc H.size)) 0 0 (va_A wc H.size)) (ok : okV C y bytes maxL ret n) (lk : Cond.methodLink own index y ∈ wsAll) (hrm : rmOk rm R maxL) (hG : Gd D cI cB cT s) (hP : va_P D vwCl ws H) (hD : va_D A ws) (hS : va_S A s.heap H locs) (hA : ∀ q : Nat, s.heap.size ≤ q → A q) (isC : List Nat) (hPc : va_P D vwCl wc H) (hnd : va_nd isC = true) (hC : isC.map (fun i => ws[i]?) = wc.map some) (hsel : ∀ (k : Nat) (q : Nat × va_E), ws'[k]? = some q → (ws[k]? = some q ∧ k ∉ isC) ∨ ∃ j : Nat, wc'[j]? = some q) (hfst : ws'.map Prod.fst = ws.map Prod.fst) (q0 ci : Nat) {q : vw_C} {fs : List Value} (hq : vwCl[ci]? = some q) (hqC : q.1 = C) (he : wc[q0]? = some (b, .inr (ci, fs))) (hn : As.length = n) (hl : ls.size = nL) (hst : st0 = As.reverse ++ .ref b :: rest) (hrest : (rest.map fun v => v.category).sum ≤ 8) (hcs : cells ≤ R.cells ∧ slots ≤ R.slots) (hdg : decode cc pc = .ok (.invokevirtual index, 3))
    (kk : ∀ (H1 : Heap) (locs1 : List Loc), va_P D vwCl ws' H1 → va_D A ws' → va_S A s.heap H1 locs1 → W p l e R s m args below meth c H1 locs1 cells slots Q (F0 m (pc + 3) ls (.int x :: rest))) : W p l e R s m args below meth c H locs cells slots Q (F0 m pc ls st0) :=
  wr_V2 (r := (some (.int x))) CF hM ok lk hrm hG hP hD hS hA isC hPc hnd hC hsel hfst q0 ci hq hqC he hn hl hst hrest hcs hdg kk
theorem wr_V2v {ws ws' : va_W} {A : Nat → Prop} (CF : CallFix p m c cc nL s args wsAll own) (hM : Met l y (Cond.code y bytes maxL ret :: wsAll) rm (Pwr (.ref b :: As) D cI cB cT wc H.size) (Qw none D wc' (va_A wc H.size)) 0 0 (va_A wc H.size)) (ok : okV C y bytes maxL ret n) (lk : Cond.methodLink own index y ∈ wsAll) (hrm : rmOk rm R maxL) (hG : Gd D cI cB cT s) (hP : va_P D vwCl ws H) (hD : va_D A ws) (hS : va_S A s.heap H locs) (hA : ∀ q : Nat, s.heap.size ≤ q → A q) (isC : List Nat) (hPc : va_P D vwCl wc H) (hnd : va_nd isC = true) (hC : isC.map (fun i => ws[i]?) = wc.map some) (hsel : ∀ (k : Nat) (q : Nat × va_E), ws'[k]? = some q → (ws[k]? = some q ∧ k ∉ isC) ∨ ∃ j : Nat, wc'[j]? = some q) (hfst : ws'.map Prod.fst = ws.map Prod.fst) (q0 ci : Nat) {q : vw_C} {fs : List Value} (hq : vwCl[ci]? = some q) (hqC : q.1 = C) (he : wc[q0]? = some (b, .inr (ci, fs))) (hn : As.length = n) (hl : ls.size = nL) (hst : st0 = As.reverse ++ .ref b :: rest) (hrest : (rest.map fun v => v.category).sum ≤ 8) (hcs : cells ≤ R.cells ∧ slots ≤ R.slots) (hdg : decode cc pc = .ok (.invokevirtual index, 3))
    (kk : ∀ (H1 : Heap) (locs1 : List Loc), va_P D vwCl ws' H1 → va_D A ws' → va_S A s.heap H1 locs1 → W p l e R s m args below meth c H1 locs1 cells slots Q (F0 m (pc + 3) ls rest)) : W p l e R s m args below meth c H locs cells slots Q (F0 m pc ls st0) :=
  wr_V2 (r := none) CF hM ok lk hrm hG hP hD hS hA isC hPc hnd hC hsel hfst q0 ci hq hqC he hn hl hst hrest hcs hdg kk
theorem wx_V2i {x : Int32} {ws ws' : va_W} {A : Nat → Prop} (CF : CallFix p m c cc nL s args wsAll own) (hM : Met l y (Cond.code y bytes maxL ret :: wsAll) rm (fun a U => Pwr (.ref b :: As) D cI cB cT wc H.size a U ∧ E U) (Qw (some (.int x)) D wc' (va_A wc H.size)) 0 0 (va_A wc H.size)) (hEb : ∀ (U : State) (g : JFrame) (mk : MethodId) (a : Array Value), E U → E (U.calling g mk a)) (hEw : ∀ U : State, U.heap = H → s.WarmedH U.vm → E U) (ok : okV C y bytes maxL ret n) (lk : Cond.methodLink own index y ∈ wsAll) (hrm : rmOk rm R maxL) (hG : Gd D cI cB cT s) (hP : va_P D vwCl ws H) (hD : va_D A ws) (hS : va_S A s.heap H locs) (hA : ∀ q : Nat, s.heap.size ≤ q → A q) (isC : List Nat) (hPc : va_P D vwCl wc H) (hnd : va_nd isC = true) (hC : isC.map (fun i => ws[i]?) = wc.map some) (hsel : ∀ (k : Nat) (q : Nat × va_E), ws'[k]? = some q → (ws[k]? = some q ∧ k ∉ isC) ∨ ∃ j : Nat, wc'[j]? = some q) (hfst : ws'.map Prod.fst = ws.map Prod.fst) (q0 ci : Nat) {q : vw_C} {fs : List Value} (hq : vwCl[ci]? = some q) (hqC : q.1 = C) (he : wc[q0]? = some (b, .inr (ci, fs))) (hn : As.length = n) (hl : ls.size = nL) (hst : st0 = As.reverse ++ .ref b :: rest) (hrest : (rest.map fun v => v.category).sum ≤ 8) (hcs : cells ≤ R.cells ∧ slots ≤ R.slots) (hdg : decode cc pc = .ok (.invokevirtual index, 3))
    (kk : ∀ (H1 : Heap) (locs1 : List Loc), va_P D vwCl ws' H1 → va_D A ws' → va_S A s.heap H1 locs1 → W p l e R s m args below meth c H1 locs1 cells slots Q (F0 m (pc + 3) ls (.int x :: rest))) : W p l e R s m args below meth c H locs cells slots Q (F0 m pc ls st0) :=
  wx_V2 (r := (some (.int x))) CF hM hEb hEw ok lk hrm hG hP hD hS hA isC hPc hnd hC hsel hfst q0 ci hq hqC he hn hl hst hrest hcs hdg kk
theorem wx_V2v {ws ws' : va_W} {A : Nat → Prop} (CF : CallFix p m c cc nL s args wsAll own) (hM : Met l y (Cond.code y bytes maxL ret :: wsAll) rm (fun a U => Pwr (.ref b :: As) D cI cB cT wc H.size a U ∧ E U) (Qw none D wc' (va_A wc H.size)) 0 0 (va_A wc H.size)) (hEb : ∀ (U : State) (g : JFrame) (mk : MethodId) (a : Array Value), E U → E (U.calling g mk a)) (hEw : ∀ U : State, U.heap = H → s.WarmedH U.vm → E U) (ok : okV C y bytes maxL ret n) (lk : Cond.methodLink own index y ∈ wsAll) (hrm : rmOk rm R maxL) (hG : Gd D cI cB cT s) (hP : va_P D vwCl ws H) (hD : va_D A ws) (hS : va_S A s.heap H locs) (hA : ∀ q : Nat, s.heap.size ≤ q → A q) (isC : List Nat) (hPc : va_P D vwCl wc H) (hnd : va_nd isC = true) (hC : isC.map (fun i => ws[i]?) = wc.map some) (hsel : ∀ (k : Nat) (q : Nat × va_E), ws'[k]? = some q → (ws[k]? = some q ∧ k ∉ isC) ∨ ∃ j : Nat, wc'[j]? = some q) (hfst : ws'.map Prod.fst = ws.map Prod.fst) (q0 ci : Nat) {q : vw_C} {fs : List Value} (hq : vwCl[ci]? = some q) (hqC : q.1 = C) (he : wc[q0]? = some (b, .inr (ci, fs))) (hn : As.length = n) (hl : ls.size = nL) (hst : st0 = As.reverse ++ .ref b :: rest) (hrest : (rest.map fun v => v.category).sum ≤ 8) (hcs : cells ≤ R.cells ∧ slots ≤ R.slots) (hdg : decode cc pc = .ok (.invokevirtual index, 3))
    (kk : ∀ (H1 : Heap) (locs1 : List Loc), va_P D vwCl ws' H1 → va_D A ws' → va_S A s.heap H1 locs1 → W p l e R s m args below meth c H1 locs1 cells slots Q (F0 m (pc + 3) ls rest)) : W p l e R s m args below meth c H locs cells slots Q (F0 m pc ls st0) :=
  wx_V2 (r := none) CF hM hEb hEw ok lk hrm hG hP hD hS hA isC hPc hnd hC hsel hfst q0 ci hq hqC he hn hl hst hrest hcs hdg kk
end LXW
theorem su_29 {D : va_G} {H : Heap} {a_h a_t a_t_w a_t_w_codes a_t_w_masks a_t_w_alike a_t_w_havers a_t_g a_t_n a_t_n_cells a_t_m a_t_m_cells a_t_p a_t_p_cells a_im a_k a_k_bytes a_r a_d a_d_w a_d_w_codes a_d_w_masks a_d_w_alike a_d_w_havers a_d_g a_d_n a_d_n_cells a_d_m a_d_m_cells a_d_p a_d_p_cells a_fr a_su a_su_fewest a_tr a_wp a_sk : Nat} {cI cB cT : ClassId} {rb : Int32} {rn : Int32} {rf : Int32} {t_kind : Int32} {t_secret : Int32} {t_w_size : Int32} {t_w_codes : Nat → Int32} {t_w_masks : Nat → Int32} {t_w_alike : Nat → Int32} {t_w_havers : Nat → Int32} {t_g_left : Int32} {t_g_guessed : Int32} {t_g_wrong : Int32} {t_n_size : Int32} {t_n_cells : Nat → Int32} {t_m_size : Int32} {t_m_cells : Nat → Int32} {t_p_size : Int32} {t_p_cells : Nat → Int32} {im : Nat → Option Nat} {k_size : Int32} {k_place : Int32} {k_sort : Int32} {k_number : Int32} {k_behind : Int32} {k_bytes : Nat → Int32} {d_kind : Int32} {d_secret : Int32} {d_w_size : Int32} {d_w_codes : Nat → Int32} {d_w_masks : Nat → Int32} {d_w_alike : Nat → Int32} {d_w_havers : Nat → Int32} {d_g_left : Int32} {d_g_guessed : Int32} {d_g_wrong : Int32} {d_n_size : Int32} {d_n_cells : Nat → Int32} {d_m_size : Int32} {d_m_cells : Nat → Int32} {d_p_size : Int32} {d_p_cells : Nat → Int32} {fr_above : Int64} {fr_below : Int64} {su_fewest : Nat → Int32} {tr_left : Int32} {tr_guessed : Int32} {tr_wrong : Int32} {wp : Nat → Int32} {sk : Nat → Int32} (h : va_P D vwCl (wd_h a_h a_t a_t_w a_t_w_codes a_t_w_masks a_t_w_alike a_t_w_havers a_t_g a_t_n a_t_n_cells a_t_m a_t_m_cells a_t_p a_t_p_cells a_im a_k a_k_bytes a_r a_d a_d_w a_d_w_codes a_d_w_masks a_d_w_alike a_d_w_havers a_d_g a_d_n a_d_n_cells a_d_m a_d_m_cells a_d_p a_d_p_cells a_fr a_su a_su_fewest a_tr a_wp a_sk cI cB cT rb rn rf t_kind t_secret t_w_size t_w_codes t_w_masks t_w_alike t_w_havers t_g_left t_g_guessed t_g_wrong t_n_size t_n_cells t_m_size t_m_cells t_p_size t_p_cells im k_size k_place k_sort k_number k_behind k_bytes d_kind d_secret d_w_size d_w_codes d_w_masks d_w_alike d_w_havers d_g_left d_g_guessed d_g_wrong d_n_size d_n_cells d_m_size d_m_cells d_p_size d_p_cells fr_above fr_below su_fewest tr_left tr_guessed tr_wrong wp sk) H) : va_P D vwCl (wd_r a_r a_d a_d_w a_d_w_codes a_d_w_masks a_d_w_alike a_d_w_havers a_d_g a_d_n a_d_n_cells a_d_m a_d_m_cells a_d_p a_d_p_cells a_k a_k_bytes cI cB cT d_kind d_secret d_w_size d_w_codes d_w_masks d_w_alike d_w_havers d_g_left d_g_guessed d_g_wrong d_n_size d_n_cells d_m_size d_m_cells d_p_size d_p_cells k_size k_place k_sort k_number k_behind k_bytes) H := by
  intro k q hk
  have hlt : k < 16 := (List.getElem?_eq_some_iff.mp hk).1
  match k, hlt, hk with
  | 0, _, hk => exact h 17 q (ce_h_17.trans (ce_r_0.symm.trans hk))
  | 1, _, hk => exact h 18 q (ce_h_18.trans (ce_r_1.symm.trans hk))
  | 2, _, hk => exact h 19 q (ce_h_19.trans (ce_r_2.symm.trans hk))
  | 3, _, hk => exact h 20 q (ce_h_20.trans (ce_r_3.symm.trans hk))
  | 4, _, hk => exact h 21 q (ce_h_21.trans (ce_r_4.symm.trans hk))
  | 5, _, hk => exact h 22 q (ce_h_22.trans (ce_r_5.symm.trans hk))
  | 6, _, hk => exact h 23 q (ce_h_23.trans (ce_r_6.symm.trans hk))
  | 7, _, hk => exact h 24 q (ce_h_24.trans (ce_r_7.symm.trans hk))
  | 8, _, hk => exact h 25 q (ce_h_25.trans (ce_r_8.symm.trans hk))
  | 9, _, hk => exact h 26 q (ce_h_26.trans (ce_r_9.symm.trans hk))
  | 10, _, hk => exact h 27 q (ce_h_27.trans (ce_r_10.symm.trans hk))
  | 11, _, hk => exact h 28 q (ce_h_28.trans (ce_r_11.symm.trans hk))
  | 12, _, hk => exact h 29 q (ce_h_29.trans (ce_r_12.symm.trans hk))
  | 13, _, hk => exact h 30 q (ce_h_30.trans (ce_r_13.symm.trans hk))
  | 14, _, hk => exact h 15 q (ce_h_15.trans (ce_r_14.symm.trans hk))
  | 15, _, hk => exact h 16 q (ce_h_16.trans (ce_r_15.symm.trans hk))
  | k + 16, hlt, _ => exact absurd hlt (by omega)
theorem hc_29 {a_h a_t a_t_w a_t_w_codes a_t_w_masks a_t_w_alike a_t_w_havers a_t_g a_t_n a_t_n_cells a_t_m a_t_m_cells a_t_p a_t_p_cells a_im a_k a_k_bytes a_r a_d a_d_w a_d_w_codes a_d_w_masks a_d_w_alike a_d_w_havers a_d_g a_d_n a_d_n_cells a_d_m a_d_m_cells a_d_p a_d_p_cells a_fr a_su a_su_fewest a_tr a_wp a_sk : Nat} {cI cB cT : ClassId} {rb : Int32} {rn : Int32} {rf : Int32} {t_kind : Int32} {t_secret : Int32} {t_w_size : Int32} {t_w_codes : Nat → Int32} {t_w_masks : Nat → Int32} {t_w_alike : Nat → Int32} {t_w_havers : Nat → Int32} {t_g_left : Int32} {t_g_guessed : Int32} {t_g_wrong : Int32} {t_n_size : Int32} {t_n_cells : Nat → Int32} {t_m_size : Int32} {t_m_cells : Nat → Int32} {t_p_size : Int32} {t_p_cells : Nat → Int32} {im : Nat → Option Nat} {k_size : Int32} {k_place : Int32} {k_sort : Int32} {k_number : Int32} {k_behind : Int32} {k_bytes : Nat → Int32} {d_kind : Int32} {d_secret : Int32} {d_w_size : Int32} {d_w_codes : Nat → Int32} {d_w_masks : Nat → Int32} {d_w_alike : Nat → Int32} {d_w_havers : Nat → Int32} {d_g_left : Int32} {d_g_guessed : Int32} {d_g_wrong : Int32} {d_n_size : Int32} {d_n_cells : Nat → Int32} {d_m_size : Int32} {d_m_cells : Nat → Int32} {d_p_size : Int32} {d_p_cells : Nat → Int32} {fr_above : Int64} {fr_below : Int64} {su_fewest : Nat → Int32} {tr_left : Int32} {tr_guessed : Int32} {tr_wrong : Int32} {wp : Nat → Int32} {sk : Nat → Int32} : ([17, 18, 19, 20, 21, 22, 23, 24, 25, 26, 27, 28, 29, 30, 15, 16] : List Nat).map (fun i => (wd_h a_h a_t a_t_w a_t_w_codes a_t_w_masks a_t_w_alike a_t_w_havers a_t_g a_t_n a_t_n_cells a_t_m a_t_m_cells a_t_p a_t_p_cells a_im a_k a_k_bytes a_r a_d a_d_w a_d_w_codes a_d_w_masks a_d_w_alike a_d_w_havers a_d_g a_d_n a_d_n_cells a_d_m a_d_m_cells a_d_p a_d_p_cells a_fr a_su a_su_fewest a_tr a_wp a_sk cI cB cT rb rn rf t_kind t_secret t_w_size t_w_codes t_w_masks t_w_alike t_w_havers t_g_left t_g_guessed t_g_wrong t_n_size t_n_cells t_m_size t_m_cells t_p_size t_p_cells im k_size k_place k_sort k_number k_behind k_bytes d_kind d_secret d_w_size d_w_codes d_w_masks d_w_alike d_w_havers d_g_left d_g_guessed d_g_wrong d_n_size d_n_cells d_m_size d_m_cells d_p_size d_p_cells fr_above fr_below su_fewest tr_left tr_guessed tr_wrong wp sk)[i]?) = ((wd_r a_r a_d a_d_w a_d_w_codes a_d_w_masks a_d_w_alike a_d_w_havers a_d_g a_d_n a_d_n_cells a_d_m a_d_m_cells a_d_p a_d_p_cells a_k a_k_bytes cI cB cT d_kind d_secret d_w_size d_w_codes d_w_masks d_w_alike d_w_havers d_g_left d_g_guessed d_g_wrong d_n_size d_n_cells d_m_size d_m_cells d_p_size d_p_cells k_size k_place k_sort k_number k_behind k_bytes)).map some := by
  simp only [List.map_cons, List.map_nil, ce_h_17, ce_h_18, ce_h_19, ce_h_20, ce_h_21, ce_h_22, ce_h_23, ce_h_24, ce_h_25, ce_h_26, ce_h_27, ce_h_28, ce_h_29, ce_h_30, ce_h_15, ce_h_16]
  rfl
theorem sl_29 {a_h a_t a_t_w a_t_w_codes a_t_w_masks a_t_w_alike a_t_w_havers a_t_g a_t_n a_t_n_cells a_t_m a_t_m_cells a_t_p a_t_p_cells a_im a_k a_k_bytes a_r a_d a_d_w a_d_w_codes a_d_w_masks a_d_w_alike a_d_w_havers a_d_g a_d_n a_d_n_cells a_d_m a_d_m_cells a_d_p a_d_p_cells a_fr a_su a_su_fewest a_tr a_wp a_sk : Nat} {cI cB cT : ClassId} {rb : Int32} {rn : Int32} {rf : Int32} {t_kind : Int32} {t_secret : Int32} {t_w_size : Int32} {t_w_codes : Nat → Int32} {t_w_masks : Nat → Int32} {t_w_alike : Nat → Int32} {t_w_havers : Nat → Int32} {t_g_left : Int32} {t_g_guessed : Int32} {t_g_wrong : Int32} {t_n_size : Int32} {t_n_cells : Nat → Int32} {t_m_size : Int32} {t_m_cells : Nat → Int32} {t_p_size : Int32} {t_p_cells : Nat → Int32} {im : Nat → Option Nat} {k_size : Int32} {k_place : Int32} {k_sort : Int32} {k_number : Int32} {k_behind : Int32} {k_bytes : Nat → Int32} {d_kind : Int32} {d_secret : Int32} {d_w_size : Int32} {d_w_codes : Nat → Int32} {d_w_masks : Nat → Int32} {d_w_alike : Nat → Int32} {d_w_havers : Nat → Int32} {d_g_left : Int32} {d_g_guessed : Int32} {d_g_wrong : Int32} {d_n_size : Int32} {d_n_cells : Nat → Int32} {d_m_size : Int32} {d_m_cells : Nat → Int32} {d_p_size : Int32} {d_p_cells : Nat → Int32} {fr_above : Int64} {fr_below : Int64} {su_fewest : Nat → Int32} {tr_left : Int32} {tr_guessed : Int32} {tr_wrong : Int32} {wp : Nat → Int32} {sk : Nat → Int32} {k_size' : Int32} {k_place' : Int32} {k_sort' : Int32} {k_number' : Int32} {k_behind' : Int32} {k_bytes' : Nat → Int32} {d_kind' : Int32} {d_secret' : Int32} {d_w_size' : Int32} {d_w_codes' : Nat → Int32} {d_w_masks' : Nat → Int32} {d_w_alike' : Nat → Int32} {d_w_havers' : Nat → Int32} {d_g_left' : Int32} {d_g_guessed' : Int32} {d_g_wrong' : Int32} {d_n_size' : Int32} {d_n_cells' : Nat → Int32} {d_m_size' : Int32} {d_m_cells' : Nat → Int32} {d_p_size' : Int32} {d_p_cells' : Nat → Int32} : ∀ (k : Nat) (q : Nat × va_E), (wd_h a_h a_t a_t_w a_t_w_codes a_t_w_masks a_t_w_alike a_t_w_havers a_t_g a_t_n a_t_n_cells a_t_m a_t_m_cells a_t_p a_t_p_cells a_im a_k a_k_bytes a_r a_d a_d_w a_d_w_codes a_d_w_masks a_d_w_alike a_d_w_havers a_d_g a_d_n a_d_n_cells a_d_m a_d_m_cells a_d_p a_d_p_cells a_fr a_su a_su_fewest a_tr a_wp a_sk cI cB cT rb rn rf t_kind t_secret t_w_size t_w_codes t_w_masks t_w_alike t_w_havers t_g_left t_g_guessed t_g_wrong t_n_size t_n_cells t_m_size t_m_cells t_p_size t_p_cells im (k_size') (k_place') (k_sort') (k_number') (k_behind') (k_bytes') (d_kind') (d_secret') (d_w_size') (d_w_codes') (d_w_masks') (d_w_alike') (d_w_havers') (d_g_left') (d_g_guessed') (d_g_wrong') (d_n_size') (d_n_cells') (d_m_size') (d_m_cells') (d_p_size') (d_p_cells') fr_above fr_below su_fewest tr_left tr_guessed tr_wrong wp sk)[k]? = some q → ((wd_h a_h a_t a_t_w a_t_w_codes a_t_w_masks a_t_w_alike a_t_w_havers a_t_g a_t_n a_t_n_cells a_t_m a_t_m_cells a_t_p a_t_p_cells a_im a_k a_k_bytes a_r a_d a_d_w a_d_w_codes a_d_w_masks a_d_w_alike a_d_w_havers a_d_g a_d_n a_d_n_cells a_d_m a_d_m_cells a_d_p a_d_p_cells a_fr a_su a_su_fewest a_tr a_wp a_sk cI cB cT rb rn rf t_kind t_secret t_w_size t_w_codes t_w_masks t_w_alike t_w_havers t_g_left t_g_guessed t_g_wrong t_n_size t_n_cells t_m_size t_m_cells t_p_size t_p_cells im k_size k_place k_sort k_number k_behind k_bytes d_kind d_secret d_w_size d_w_codes d_w_masks d_w_alike d_w_havers d_g_left d_g_guessed d_g_wrong d_n_size d_n_cells d_m_size d_m_cells d_p_size d_p_cells fr_above fr_below su_fewest tr_left tr_guessed tr_wrong wp sk)[k]? = some q ∧ k ∉ ([17, 18, 19, 20, 21, 22, 23, 24, 25, 26, 27, 28, 29, 30, 15, 16] : List Nat)) ∨ ∃ j : Nat, (wd_r a_r a_d a_d_w a_d_w_codes a_d_w_masks a_d_w_alike a_d_w_havers a_d_g a_d_n a_d_n_cells a_d_m a_d_m_cells a_d_p a_d_p_cells a_k a_k_bytes cI cB cT (d_kind') (d_secret') (d_w_size') (d_w_codes') (d_w_masks') (d_w_alike') (d_w_havers') (d_g_left') (d_g_guessed') (d_g_wrong') (d_n_size') (d_n_cells') (d_m_size') (d_m_cells') (d_p_size') (d_p_cells') (k_size') (k_place') (k_sort') (k_number') (k_behind') (k_bytes'))[j]? = some q := by
  intro k q hk
  have hlt : k < 37 := (List.getElem?_eq_some_iff.mp hk).1
  match k, hlt, hk with
  | 0, _, hk => exact Or.inl ⟨ce_h_0.trans (ce_h_0.symm.trans hk), by decide⟩
  | 1, _, hk => exact Or.inl ⟨ce_h_1.trans (ce_h_1.symm.trans hk), by decide⟩
  | 2, _, hk => exact Or.inl ⟨ce_h_2.trans (ce_h_2.symm.trans hk), by decide⟩
  | 3, _, hk => exact Or.inl ⟨ce_h_3.trans (ce_h_3.symm.trans hk), by decide⟩
  | 4, _, hk => exact Or.inl ⟨ce_h_4.trans (ce_h_4.symm.trans hk), by decide⟩
  | 5, _, hk => exact Or.inl ⟨ce_h_5.trans (ce_h_5.symm.trans hk), by decide⟩
  | 6, _, hk => exact Or.inl ⟨ce_h_6.trans (ce_h_6.symm.trans hk), by decide⟩
  | 7, _, hk => exact Or.inl ⟨ce_h_7.trans (ce_h_7.symm.trans hk), by decide⟩
  | 8, _, hk => exact Or.inl ⟨ce_h_8.trans (ce_h_8.symm.trans hk), by decide⟩
  | 9, _, hk => exact Or.inl ⟨ce_h_9.trans (ce_h_9.symm.trans hk), by decide⟩
  | 10, _, hk => exact Or.inl ⟨ce_h_10.trans (ce_h_10.symm.trans hk), by decide⟩
  | 11, _, hk => exact Or.inl ⟨ce_h_11.trans (ce_h_11.symm.trans hk), by decide⟩
  | 12, _, hk => exact Or.inl ⟨ce_h_12.trans (ce_h_12.symm.trans hk), by decide⟩
  | 13, _, hk => exact Or.inl ⟨ce_h_13.trans (ce_h_13.symm.trans hk), by decide⟩
  | 14, _, hk => exact Or.inl ⟨ce_h_14.trans (ce_h_14.symm.trans hk), by decide⟩
  | 15, _, hk => exact Or.inr ⟨14, ce_r_14.trans (ce_h_15.symm.trans hk)⟩
  | 16, _, hk => exact Or.inr ⟨15, ce_r_15.trans (ce_h_16.symm.trans hk)⟩
  | 17, _, hk => exact Or.inr ⟨0, ce_r_0.trans (ce_h_17.symm.trans hk)⟩
  | 18, _, hk => exact Or.inr ⟨1, ce_r_1.trans (ce_h_18.symm.trans hk)⟩
  | 19, _, hk => exact Or.inr ⟨2, ce_r_2.trans (ce_h_19.symm.trans hk)⟩
  | 20, _, hk => exact Or.inr ⟨3, ce_r_3.trans (ce_h_20.symm.trans hk)⟩
  | 21, _, hk => exact Or.inr ⟨4, ce_r_4.trans (ce_h_21.symm.trans hk)⟩
  | 22, _, hk => exact Or.inr ⟨5, ce_r_5.trans (ce_h_22.symm.trans hk)⟩
  | 23, _, hk => exact Or.inr ⟨6, ce_r_6.trans (ce_h_23.symm.trans hk)⟩
  | 24, _, hk => exact Or.inr ⟨7, ce_r_7.trans (ce_h_24.symm.trans hk)⟩
  | 25, _, hk => exact Or.inr ⟨8, ce_r_8.trans (ce_h_25.symm.trans hk)⟩
  | 26, _, hk => exact Or.inr ⟨9, ce_r_9.trans (ce_h_26.symm.trans hk)⟩
  | 27, _, hk => exact Or.inr ⟨10, ce_r_10.trans (ce_h_27.symm.trans hk)⟩
  | 28, _, hk => exact Or.inr ⟨11, ce_r_11.trans (ce_h_28.symm.trans hk)⟩
  | 29, _, hk => exact Or.inr ⟨12, ce_r_12.trans (ce_h_29.symm.trans hk)⟩
  | 30, _, hk => exact Or.inr ⟨13, ce_r_13.trans (ce_h_30.symm.trans hk)⟩
  | 31, _, hk => exact Or.inl ⟨ce_h_31.trans (ce_h_31.symm.trans hk), by decide⟩
  | 32, _, hk => exact Or.inl ⟨ce_h_32.trans (ce_h_32.symm.trans hk), by decide⟩
  | 33, _, hk => exact Or.inl ⟨ce_h_33.trans (ce_h_33.symm.trans hk), by decide⟩
  | 34, _, hk => exact Or.inl ⟨ce_h_34.trans (ce_h_34.symm.trans hk), by decide⟩
  | 35, _, hk => exact Or.inl ⟨ce_h_35.trans (ce_h_35.symm.trans hk), by decide⟩
  | 36, _, hk => exact Or.inl ⟨ce_h_36.trans (ce_h_36.symm.trans hk), by decide⟩
  | k + 37, hlt, _ => exact absurd hlt (by omega)
theorem su_30 {D : va_G} {H : Heap} {a_h a_t a_t_w a_t_w_codes a_t_w_masks a_t_w_alike a_t_w_havers a_t_g a_t_n a_t_n_cells a_t_m a_t_m_cells a_t_p a_t_p_cells a_im a_k a_k_bytes a_r a_d a_d_w a_d_w_codes a_d_w_masks a_d_w_alike a_d_w_havers a_d_g a_d_n a_d_n_cells a_d_m a_d_m_cells a_d_p a_d_p_cells a_fr a_su a_su_fewest a_tr a_wp a_sk : Nat} {cI cB cT : ClassId} {rb : Int32} {rn : Int32} {rf : Int32} {t_kind : Int32} {t_secret : Int32} {t_w_size : Int32} {t_w_codes : Nat → Int32} {t_w_masks : Nat → Int32} {t_w_alike : Nat → Int32} {t_w_havers : Nat → Int32} {t_g_left : Int32} {t_g_guessed : Int32} {t_g_wrong : Int32} {t_n_size : Int32} {t_n_cells : Nat → Int32} {t_m_size : Int32} {t_m_cells : Nat → Int32} {t_p_size : Int32} {t_p_cells : Nat → Int32} {im : Nat → Option Nat} {k_size : Int32} {k_place : Int32} {k_sort : Int32} {k_number : Int32} {k_behind : Int32} {k_bytes : Nat → Int32} {d_kind : Int32} {d_secret : Int32} {d_w_size : Int32} {d_w_codes : Nat → Int32} {d_w_masks : Nat → Int32} {d_w_alike : Nat → Int32} {d_w_havers : Nat → Int32} {d_g_left : Int32} {d_g_guessed : Int32} {d_g_wrong : Int32} {d_n_size : Int32} {d_n_cells : Nat → Int32} {d_m_size : Int32} {d_m_cells : Nat → Int32} {d_p_size : Int32} {d_p_cells : Nat → Int32} {fr_above : Int64} {fr_below : Int64} {su_fewest : Nat → Int32} {tr_left : Int32} {tr_guessed : Int32} {tr_wrong : Int32} {wp : Nat → Int32} {sk : Nat → Int32} (h : va_P D vwCl (wd_h a_h a_t a_t_w a_t_w_codes a_t_w_masks a_t_w_alike a_t_w_havers a_t_g a_t_n a_t_n_cells a_t_m a_t_m_cells a_t_p a_t_p_cells a_im a_k a_k_bytes a_r a_d a_d_w a_d_w_codes a_d_w_masks a_d_w_alike a_d_w_havers a_d_g a_d_n a_d_n_cells a_d_m a_d_m_cells a_d_p a_d_p_cells a_fr a_su a_su_fewest a_tr a_wp a_sk cI cB cT rb rn rf t_kind t_secret t_w_size t_w_codes t_w_masks t_w_alike t_w_havers t_g_left t_g_guessed t_g_wrong t_n_size t_n_cells t_m_size t_m_cells t_p_size t_p_cells im k_size k_place k_sort k_number k_behind k_bytes d_kind d_secret d_w_size d_w_codes d_w_masks d_w_alike d_w_havers d_g_left d_g_guessed d_g_wrong d_n_size d_n_cells d_m_size d_m_cells d_p_size d_p_cells fr_above fr_below su_fewest tr_left tr_guessed tr_wrong wp sk) H) : va_P D vwCl (wd_t_ot a_t a_t_w a_t_w_codes a_t_w_masks a_t_w_alike a_t_w_havers a_t_g a_t_n a_t_n_cells a_t_m a_t_m_cells a_t_p a_t_p_cells a_d a_d_w a_d_w_codes a_d_w_masks a_d_w_alike a_d_w_havers a_d_g a_d_n a_d_n_cells a_d_m a_d_m_cells a_d_p a_d_p_cells cI cB cT t_kind t_secret t_w_size t_w_codes t_w_masks t_w_alike t_w_havers t_g_left t_g_guessed t_g_wrong t_n_size t_n_cells t_m_size t_m_cells t_p_size t_p_cells d_kind d_secret d_w_size d_w_codes d_w_masks d_w_alike d_w_havers d_g_left d_g_guessed d_g_wrong d_n_size d_n_cells d_m_size d_m_cells d_p_size d_p_cells) H := by
  intro k q hk
  have hlt : k < 26 := (List.getElem?_eq_some_iff.mp hk).1
  match k, hlt, hk with
  | 0, _, hk => exact h 1 q (ce_h_1.trans (ce_t_ot_0.symm.trans hk))
  | 1, _, hk => exact h 2 q (ce_h_2.trans (ce_t_ot_1.symm.trans hk))
  | 2, _, hk => exact h 3 q (ce_h_3.trans (ce_t_ot_2.symm.trans hk))
  | 3, _, hk => exact h 4 q (ce_h_4.trans (ce_t_ot_3.symm.trans hk))
  | 4, _, hk => exact h 5 q (ce_h_5.trans (ce_t_ot_4.symm.trans hk))
  | 5, _, hk => exact h 6 q (ce_h_6.trans (ce_t_ot_5.symm.trans hk))
  | 6, _, hk => exact h 7 q (ce_h_7.trans (ce_t_ot_6.symm.trans hk))
  | 7, _, hk => exact h 8 q (ce_h_8.trans (ce_t_ot_7.symm.trans hk))
  | 8, _, hk => exact h 9 q (ce_h_9.trans (ce_t_ot_8.symm.trans hk))
  | 9, _, hk => exact h 10 q (ce_h_10.trans (ce_t_ot_9.symm.trans hk))
  | 10, _, hk => exact h 11 q (ce_h_11.trans (ce_t_ot_10.symm.trans hk))
  | 11, _, hk => exact h 12 q (ce_h_12.trans (ce_t_ot_11.symm.trans hk))
  | 12, _, hk => exact h 13 q (ce_h_13.trans (ce_t_ot_12.symm.trans hk))
  | 13, _, hk => exact h 18 q (ce_h_18.trans (ce_t_ot_13.symm.trans hk))
  | 14, _, hk => exact h 19 q (ce_h_19.trans (ce_t_ot_14.symm.trans hk))
  | 15, _, hk => exact h 20 q (ce_h_20.trans (ce_t_ot_15.symm.trans hk))
  | 16, _, hk => exact h 21 q (ce_h_21.trans (ce_t_ot_16.symm.trans hk))
  | 17, _, hk => exact h 22 q (ce_h_22.trans (ce_t_ot_17.symm.trans hk))
  | 18, _, hk => exact h 23 q (ce_h_23.trans (ce_t_ot_18.symm.trans hk))
  | 19, _, hk => exact h 24 q (ce_h_24.trans (ce_t_ot_19.symm.trans hk))
  | 20, _, hk => exact h 25 q (ce_h_25.trans (ce_t_ot_20.symm.trans hk))
  | 21, _, hk => exact h 26 q (ce_h_26.trans (ce_t_ot_21.symm.trans hk))
  | 22, _, hk => exact h 27 q (ce_h_27.trans (ce_t_ot_22.symm.trans hk))
  | 23, _, hk => exact h 28 q (ce_h_28.trans (ce_t_ot_23.symm.trans hk))
  | 24, _, hk => exact h 29 q (ce_h_29.trans (ce_t_ot_24.symm.trans hk))
  | 25, _, hk => exact h 30 q (ce_h_30.trans (ce_t_ot_25.symm.trans hk))
  | k + 26, hlt, _ => exact absurd hlt (by omega)
theorem hc_30 {a_h a_t a_t_w a_t_w_codes a_t_w_masks a_t_w_alike a_t_w_havers a_t_g a_t_n a_t_n_cells a_t_m a_t_m_cells a_t_p a_t_p_cells a_im a_k a_k_bytes a_r a_d a_d_w a_d_w_codes a_d_w_masks a_d_w_alike a_d_w_havers a_d_g a_d_n a_d_n_cells a_d_m a_d_m_cells a_d_p a_d_p_cells a_fr a_su a_su_fewest a_tr a_wp a_sk : Nat} {cI cB cT : ClassId} {rb : Int32} {rn : Int32} {rf : Int32} {t_kind : Int32} {t_secret : Int32} {t_w_size : Int32} {t_w_codes : Nat → Int32} {t_w_masks : Nat → Int32} {t_w_alike : Nat → Int32} {t_w_havers : Nat → Int32} {t_g_left : Int32} {t_g_guessed : Int32} {t_g_wrong : Int32} {t_n_size : Int32} {t_n_cells : Nat → Int32} {t_m_size : Int32} {t_m_cells : Nat → Int32} {t_p_size : Int32} {t_p_cells : Nat → Int32} {im : Nat → Option Nat} {k_size : Int32} {k_place : Int32} {k_sort : Int32} {k_number : Int32} {k_behind : Int32} {k_bytes : Nat → Int32} {d_kind : Int32} {d_secret : Int32} {d_w_size : Int32} {d_w_codes : Nat → Int32} {d_w_masks : Nat → Int32} {d_w_alike : Nat → Int32} {d_w_havers : Nat → Int32} {d_g_left : Int32} {d_g_guessed : Int32} {d_g_wrong : Int32} {d_n_size : Int32} {d_n_cells : Nat → Int32} {d_m_size : Int32} {d_m_cells : Nat → Int32} {d_p_size : Int32} {d_p_cells : Nat → Int32} {fr_above : Int64} {fr_below : Int64} {su_fewest : Nat → Int32} {tr_left : Int32} {tr_guessed : Int32} {tr_wrong : Int32} {wp : Nat → Int32} {sk : Nat → Int32} : ([1, 2, 3, 4, 5, 6, 7, 8, 9, 10, 11, 12, 13, 18, 19, 20, 21, 22, 23, 24, 25, 26, 27, 28, 29, 30] : List Nat).map (fun i => (wd_h a_h a_t a_t_w a_t_w_codes a_t_w_masks a_t_w_alike a_t_w_havers a_t_g a_t_n a_t_n_cells a_t_m a_t_m_cells a_t_p a_t_p_cells a_im a_k a_k_bytes a_r a_d a_d_w a_d_w_codes a_d_w_masks a_d_w_alike a_d_w_havers a_d_g a_d_n a_d_n_cells a_d_m a_d_m_cells a_d_p a_d_p_cells a_fr a_su a_su_fewest a_tr a_wp a_sk cI cB cT rb rn rf t_kind t_secret t_w_size t_w_codes t_w_masks t_w_alike t_w_havers t_g_left t_g_guessed t_g_wrong t_n_size t_n_cells t_m_size t_m_cells t_p_size t_p_cells im k_size k_place k_sort k_number k_behind k_bytes d_kind d_secret d_w_size d_w_codes d_w_masks d_w_alike d_w_havers d_g_left d_g_guessed d_g_wrong d_n_size d_n_cells d_m_size d_m_cells d_p_size d_p_cells fr_above fr_below su_fewest tr_left tr_guessed tr_wrong wp sk)[i]?) = ((wd_t_ot a_t a_t_w a_t_w_codes a_t_w_masks a_t_w_alike a_t_w_havers a_t_g a_t_n a_t_n_cells a_t_m a_t_m_cells a_t_p a_t_p_cells a_d a_d_w a_d_w_codes a_d_w_masks a_d_w_alike a_d_w_havers a_d_g a_d_n a_d_n_cells a_d_m a_d_m_cells a_d_p a_d_p_cells cI cB cT t_kind t_secret t_w_size t_w_codes t_w_masks t_w_alike t_w_havers t_g_left t_g_guessed t_g_wrong t_n_size t_n_cells t_m_size t_m_cells t_p_size t_p_cells d_kind d_secret d_w_size d_w_codes d_w_masks d_w_alike d_w_havers d_g_left d_g_guessed d_g_wrong d_n_size d_n_cells d_m_size d_m_cells d_p_size d_p_cells)).map some := by
  simp only [List.map_cons, List.map_nil, ce_h_1, ce_h_2, ce_h_3, ce_h_4, ce_h_5, ce_h_6, ce_h_7, ce_h_8, ce_h_9, ce_h_10, ce_h_11, ce_h_12, ce_h_13, ce_h_18, ce_h_19, ce_h_20, ce_h_21, ce_h_22, ce_h_23, ce_h_24, ce_h_25, ce_h_26, ce_h_27, ce_h_28, ce_h_29, ce_h_30]
  rfl
theorem sl_30 {a_h a_t a_t_w a_t_w_codes a_t_w_masks a_t_w_alike a_t_w_havers a_t_g a_t_n a_t_n_cells a_t_m a_t_m_cells a_t_p a_t_p_cells a_im a_k a_k_bytes a_r a_d a_d_w a_d_w_codes a_d_w_masks a_d_w_alike a_d_w_havers a_d_g a_d_n a_d_n_cells a_d_m a_d_m_cells a_d_p a_d_p_cells a_fr a_su a_su_fewest a_tr a_wp a_sk : Nat} {cI cB cT : ClassId} {rb : Int32} {rn : Int32} {rf : Int32} {t_kind : Int32} {t_secret : Int32} {t_w_size : Int32} {t_w_codes : Nat → Int32} {t_w_masks : Nat → Int32} {t_w_alike : Nat → Int32} {t_w_havers : Nat → Int32} {t_g_left : Int32} {t_g_guessed : Int32} {t_g_wrong : Int32} {t_n_size : Int32} {t_n_cells : Nat → Int32} {t_m_size : Int32} {t_m_cells : Nat → Int32} {t_p_size : Int32} {t_p_cells : Nat → Int32} {im : Nat → Option Nat} {k_size : Int32} {k_place : Int32} {k_sort : Int32} {k_number : Int32} {k_behind : Int32} {k_bytes : Nat → Int32} {d_kind : Int32} {d_secret : Int32} {d_w_size : Int32} {d_w_codes : Nat → Int32} {d_w_masks : Nat → Int32} {d_w_alike : Nat → Int32} {d_w_havers : Nat → Int32} {d_g_left : Int32} {d_g_guessed : Int32} {d_g_wrong : Int32} {d_n_size : Int32} {d_n_cells : Nat → Int32} {d_m_size : Int32} {d_m_cells : Nat → Int32} {d_p_size : Int32} {d_p_cells : Nat → Int32} {fr_above : Int64} {fr_below : Int64} {su_fewest : Nat → Int32} {tr_left : Int32} {tr_guessed : Int32} {tr_wrong : Int32} {wp : Nat → Int32} {sk : Nat → Int32} {t_kind' : Int32} {t_secret' : Int32} {t_w_size' : Int32} {t_w_codes' : Nat → Int32} {t_w_masks' : Nat → Int32} {t_w_alike' : Nat → Int32} {t_w_havers' : Nat → Int32} {t_g_left' : Int32} {t_g_guessed' : Int32} {t_g_wrong' : Int32} {t_n_size' : Int32} {t_n_cells' : Nat → Int32} {t_m_size' : Int32} {t_m_cells' : Nat → Int32} {t_p_size' : Int32} {t_p_cells' : Nat → Int32} {d_kind' : Int32} {d_secret' : Int32} {d_w_size' : Int32} {d_w_codes' : Nat → Int32} {d_w_masks' : Nat → Int32} {d_w_alike' : Nat → Int32} {d_w_havers' : Nat → Int32} {d_g_left' : Int32} {d_g_guessed' : Int32} {d_g_wrong' : Int32} {d_n_size' : Int32} {d_n_cells' : Nat → Int32} {d_m_size' : Int32} {d_m_cells' : Nat → Int32} {d_p_size' : Int32} {d_p_cells' : Nat → Int32} : ∀ (k : Nat) (q : Nat × va_E), (wd_h a_h a_t a_t_w a_t_w_codes a_t_w_masks a_t_w_alike a_t_w_havers a_t_g a_t_n a_t_n_cells a_t_m a_t_m_cells a_t_p a_t_p_cells a_im a_k a_k_bytes a_r a_d a_d_w a_d_w_codes a_d_w_masks a_d_w_alike a_d_w_havers a_d_g a_d_n a_d_n_cells a_d_m a_d_m_cells a_d_p a_d_p_cells a_fr a_su a_su_fewest a_tr a_wp a_sk cI cB cT rb rn rf (t_kind') (t_secret') (t_w_size') (t_w_codes') (t_w_masks') (t_w_alike') (t_w_havers') (t_g_left') (t_g_guessed') (t_g_wrong') (t_n_size') (t_n_cells') (t_m_size') (t_m_cells') (t_p_size') (t_p_cells') im k_size k_place k_sort k_number k_behind k_bytes (d_kind') (d_secret') (d_w_size') (d_w_codes') (d_w_masks') (d_w_alike') (d_w_havers') (d_g_left') (d_g_guessed') (d_g_wrong') (d_n_size') (d_n_cells') (d_m_size') (d_m_cells') (d_p_size') (d_p_cells') fr_above fr_below su_fewest tr_left tr_guessed tr_wrong wp sk)[k]? = some q → ((wd_h a_h a_t a_t_w a_t_w_codes a_t_w_masks a_t_w_alike a_t_w_havers a_t_g a_t_n a_t_n_cells a_t_m a_t_m_cells a_t_p a_t_p_cells a_im a_k a_k_bytes a_r a_d a_d_w a_d_w_codes a_d_w_masks a_d_w_alike a_d_w_havers a_d_g a_d_n a_d_n_cells a_d_m a_d_m_cells a_d_p a_d_p_cells a_fr a_su a_su_fewest a_tr a_wp a_sk cI cB cT rb rn rf t_kind t_secret t_w_size t_w_codes t_w_masks t_w_alike t_w_havers t_g_left t_g_guessed t_g_wrong t_n_size t_n_cells t_m_size t_m_cells t_p_size t_p_cells im k_size k_place k_sort k_number k_behind k_bytes d_kind d_secret d_w_size d_w_codes d_w_masks d_w_alike d_w_havers d_g_left d_g_guessed d_g_wrong d_n_size d_n_cells d_m_size d_m_cells d_p_size d_p_cells fr_above fr_below su_fewest tr_left tr_guessed tr_wrong wp sk)[k]? = some q ∧ k ∉ ([1, 2, 3, 4, 5, 6, 7, 8, 9, 10, 11, 12, 13, 18, 19, 20, 21, 22, 23, 24, 25, 26, 27, 28, 29, 30] : List Nat)) ∨ ∃ j : Nat, (wd_t_ot a_t a_t_w a_t_w_codes a_t_w_masks a_t_w_alike a_t_w_havers a_t_g a_t_n a_t_n_cells a_t_m a_t_m_cells a_t_p a_t_p_cells a_d a_d_w a_d_w_codes a_d_w_masks a_d_w_alike a_d_w_havers a_d_g a_d_n a_d_n_cells a_d_m a_d_m_cells a_d_p a_d_p_cells cI cB cT (t_kind') (t_secret') (t_w_size') (t_w_codes') (t_w_masks') (t_w_alike') (t_w_havers') (t_g_left') (t_g_guessed') (t_g_wrong') (t_n_size') (t_n_cells') (t_m_size') (t_m_cells') (t_p_size') (t_p_cells') (d_kind') (d_secret') (d_w_size') (d_w_codes') (d_w_masks') (d_w_alike') (d_w_havers') (d_g_left') (d_g_guessed') (d_g_wrong') (d_n_size') (d_n_cells') (d_m_size') (d_m_cells') (d_p_size') (d_p_cells'))[j]? = some q := by
  intro k q hk
  have hlt : k < 37 := (List.getElem?_eq_some_iff.mp hk).1
  match k, hlt, hk with
  | 0, _, hk => exact Or.inl ⟨ce_h_0.trans (ce_h_0.symm.trans hk), by decide⟩
  | 1, _, hk => exact Or.inr ⟨0, ce_t_ot_0.trans (ce_h_1.symm.trans hk)⟩
  | 2, _, hk => exact Or.inr ⟨1, ce_t_ot_1.trans (ce_h_2.symm.trans hk)⟩
  | 3, _, hk => exact Or.inr ⟨2, ce_t_ot_2.trans (ce_h_3.symm.trans hk)⟩
  | 4, _, hk => exact Or.inr ⟨3, ce_t_ot_3.trans (ce_h_4.symm.trans hk)⟩
  | 5, _, hk => exact Or.inr ⟨4, ce_t_ot_4.trans (ce_h_5.symm.trans hk)⟩
  | 6, _, hk => exact Or.inr ⟨5, ce_t_ot_5.trans (ce_h_6.symm.trans hk)⟩
  | 7, _, hk => exact Or.inr ⟨6, ce_t_ot_6.trans (ce_h_7.symm.trans hk)⟩
  | 8, _, hk => exact Or.inr ⟨7, ce_t_ot_7.trans (ce_h_8.symm.trans hk)⟩
  | 9, _, hk => exact Or.inr ⟨8, ce_t_ot_8.trans (ce_h_9.symm.trans hk)⟩
  | 10, _, hk => exact Or.inr ⟨9, ce_t_ot_9.trans (ce_h_10.symm.trans hk)⟩
  | 11, _, hk => exact Or.inr ⟨10, ce_t_ot_10.trans (ce_h_11.symm.trans hk)⟩
  | 12, _, hk => exact Or.inr ⟨11, ce_t_ot_11.trans (ce_h_12.symm.trans hk)⟩
  | 13, _, hk => exact Or.inr ⟨12, ce_t_ot_12.trans (ce_h_13.symm.trans hk)⟩
  | 14, _, hk => exact Or.inl ⟨ce_h_14.trans (ce_h_14.symm.trans hk), by decide⟩
  | 15, _, hk => exact Or.inl ⟨ce_h_15.trans (ce_h_15.symm.trans hk), by decide⟩
  | 16, _, hk => exact Or.inl ⟨ce_h_16.trans (ce_h_16.symm.trans hk), by decide⟩
  | 17, _, hk => exact Or.inl ⟨ce_h_17.trans (ce_h_17.symm.trans hk), by decide⟩
  | 18, _, hk => exact Or.inr ⟨13, ce_t_ot_13.trans (ce_h_18.symm.trans hk)⟩
  | 19, _, hk => exact Or.inr ⟨14, ce_t_ot_14.trans (ce_h_19.symm.trans hk)⟩
  | 20, _, hk => exact Or.inr ⟨15, ce_t_ot_15.trans (ce_h_20.symm.trans hk)⟩
  | 21, _, hk => exact Or.inr ⟨16, ce_t_ot_16.trans (ce_h_21.symm.trans hk)⟩
  | 22, _, hk => exact Or.inr ⟨17, ce_t_ot_17.trans (ce_h_22.symm.trans hk)⟩
  | 23, _, hk => exact Or.inr ⟨18, ce_t_ot_18.trans (ce_h_23.symm.trans hk)⟩
  | 24, _, hk => exact Or.inr ⟨19, ce_t_ot_19.trans (ce_h_24.symm.trans hk)⟩
  | 25, _, hk => exact Or.inr ⟨20, ce_t_ot_20.trans (ce_h_25.symm.trans hk)⟩
  | 26, _, hk => exact Or.inr ⟨21, ce_t_ot_21.trans (ce_h_26.symm.trans hk)⟩
  | 27, _, hk => exact Or.inr ⟨22, ce_t_ot_22.trans (ce_h_27.symm.trans hk)⟩
  | 28, _, hk => exact Or.inr ⟨23, ce_t_ot_23.trans (ce_h_28.symm.trans hk)⟩
  | 29, _, hk => exact Or.inr ⟨24, ce_t_ot_24.trans (ce_h_29.symm.trans hk)⟩
  | 30, _, hk => exact Or.inr ⟨25, ce_t_ot_25.trans (ce_h_30.symm.trans hk)⟩
  | 31, _, hk => exact Or.inl ⟨ce_h_31.trans (ce_h_31.symm.trans hk), by decide⟩
  | 32, _, hk => exact Or.inl ⟨ce_h_32.trans (ce_h_32.symm.trans hk), by decide⟩
  | 33, _, hk => exact Or.inl ⟨ce_h_33.trans (ce_h_33.symm.trans hk), by decide⟩
  | 34, _, hk => exact Or.inl ⟨ce_h_34.trans (ce_h_34.symm.trans hk), by decide⟩
  | 35, _, hk => exact Or.inl ⟨ce_h_35.trans (ce_h_35.symm.trans hk), by decide⟩
  | 36, _, hk => exact Or.inl ⟨ce_h_36.trans (ce_h_36.symm.trans hk), by decide⟩
  | k + 37, hlt, _ => exact absurd hlt (by omega)
