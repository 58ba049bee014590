/-! string constants -/
def stL : List Nat := [4, 4, 6, 5]
def stB : List (List Int32) := [[103, 97, 109, 101], [119, 111, 114, 100], [115, 101, 99, 114, 101, 116], [103, 117, 101, 115, 115]]
def stT : List (Nat × String × Nat) := [(42, "game", 0), (52, "word", 1), (57, "secret", 2), (62, "guess", 3)]
def SE (adK adV : Nat → Nat) (A : Nat → Prop) (U : State) (H : Heap) : Prop := vk_S 4 stL stB adK adV A U H ∧ va_Z "java/lang/String" "COMPACT_STRINGS" "Z" (.int 1) A U H ∧ va_Zq "jdk/internal/util/Preconditions" "SIOOBE_FORMATTER" "Ljava/util/function/BiFunction;" A U H ∧ ∀ t ∈ stT, vk_R RX4 t.1 t.2.1 (adK t.2.2) U
theorem SE.kept {adK adV : Nat → Nat} {A : Nat → Prop} {U : State} {H H1 : Heap} (h : SE adK adV A U H) (hq : ∀ a : Nat, a < H.size → ¬ A a → H1[a]? = H[a]?) : SE adK adV A U H1 := ⟨h.1.kept hq, h.2.1.kept hq, h.2.2.1.kept hq, h.2.2.2⟩
theorem SE.narrow {adK adV : Nat → Nat} {A B : Nat → Prop} {U : State} {H : Heap} (h : SE adK adV A U H) (hAB : ∀ q, B q → A q) : SE adK adV B U H := ⟨h.1.narrow hAB, h.2.1.narrow hAB, h.2.2.1.narrow hAB, h.2.2.2⟩
theorem SE.warm {adK adV : Nat → Nat} {A : Nat → Prop} {s U : State} {H : Heap} (hW : s.WarmedH U.vm) (h : SE adK adV A s H) : SE adK adV A U H := ⟨vk_S.moved hW.alike h.1, va_Z.moved hW.alike h.2.1, va_Zq.moved hW.alike h.2.2.1, fun t ht => vk_R.warm hW (h.2.2.2 t ht)⟩
theorem SE.calling {adK adV : Nat → Nat} {A : Nat → Prop} {U : State} {g : JFrame} {mk : MethodId} {a : Array Value} {H : Heap} (h : SE adK adV A U H) : SE adK adV A (U.calling g mk a) H := ⟨vk_S.moved (u := U) (U := U.calling g mk a) (Vm.Alike.refl U.vm) h.1, va_Z.moved (u := U) (U := U.calling g mk a) (Vm.Alike.refl U.vm) h.2.1, va_Zq.moved (u := U) (U := U.calling g mk a) (Vm.Alike.refl U.vm) h.2.2.1, fun t ht => vk_R.same (u := U) rfl (h.2.2.2 t ht)⟩
theorem SE.atF {adK adV : Nat → Nat} {A : Nat → Prop} {s : State} {H : Heap} {locs : List Loc} (h : SE adK adV A s s.heap) (hS : va_S A s.heap H locs) : ∀ U : State, U.heap = H → s.WarmedH U.vm → SE adK adV (fun _ => False) U U.heap := by
  intro U hU hW
  rw [hU]
  exact ((h.kept hS.2.1).narrow (fun _ z => z.elim)).warm hW
theorem SE.atR {adK adV : Nat → Nat} {s : State} (h : SE adK adV (fun _ => False) s s.heap) : ∀ U : State, U.heap = s.heap → s.WarmedH U.vm → SE adK adV (fun _ => False) U U.heap := by
  intro U hU hW
  rw [hU]
  exact h.warm hW
theorem SE.atW {adK adV : Nat → Nat} {A B : Nat → Prop} {s : State} {H : Heap} {locs : List Loc} (h : SE adK adV A s s.heap) (hS : va_S A s.heap H locs) (hF : ∀ q, B q → A q) : ∀ U : State, U.heap = H → s.WarmedH U.vm → SE adK adV B U U.heap := by
  intro U hU hW
  rw [hU]
  exact ((h.kept hS.2.1).narrow hF).warm hW
theorem SE.blind {adK adV : Nat → Nat} {A : Nat → Prop} : ∀ (U : State) (g : JFrame) (mk : MethodId) (a : Array Value), SE adK adV A U U.heap → SE adK adV A (U.calling g mk a) (U.calling g mk a).heap := fun _ _ _ _ h => h.calling
theorem self_free {ws : va_W} {A : Nat → Prop} {s : State} {H : Heap} {locs : List Loc} (hD : va_D A ws) (hS : va_S A s.heap H locs) (hA : ∀ q : Nat, s.heap.size ≤ q → A q) : ∀ q : Nat, va_A ws H.size q → A q := by
  intro q hq
  rcases hq with ⟨k, ee, hk2⟩ | hq
  · exact hD.2 k (q, ee) hk2
  · exact hA q (Nat.le_trans hS.1 hq)
theorem rx_intro {l : Launch} {y : MethodName} {cc : ByteArray} {maxL : Nat} {ret : Option FieldType} {rm : Room} {D : va_G} {cI cB cT : ClassId} {w : va_W} {av : List Value} {E : State → Prop} {r : Option Value} (own : String) (hy : plainName y.cls = true) (hoc : y.cls = own) (hn : (lg_sl av).length ≤ maxL)
    (body : ∀ (p : Program) (e : Env) (s : State) (m : MethodId) (below : List Frame) (meth : Method) (c : Code) (ls : Array Slot), CallFix p m c cc maxL s av.toArray wsAll own → meth.sig.returnType = ret → meth.locks = false → Gd D cI cB cT s → va_P D vwCl w s.heap → E s → lv_has ls maxL (lv_args 0 av) → W p l e rm s m av.toArray below meth c s.heap [] 0 0 (MQ below (Qr r) av.toArray s 0 0 (fun _ => False)) (F0 m 0 ls [])) :
    Met l y (Cond.code y cc maxL ret :: wsAll) rm (fun a U => Pro av D cI cB cT w a U ∧ E U) (Qr r) 0 0 (fun _ => False) := by
  refine Met.ofW (cc := cc) (maxL := maxL) (ret := ret) hy rfl ?_
  intro p e s m args below meth c s₁ B hml hv
  obtain ⟨⟨rfl, hG, hP⟩, hE⟩ := hv
  have hts0 := atoms_spec (ws := Cond.code y cc maxL ret :: wsAll) B.pre
  have hts : ∀ w ∈ wsAll, w.before av.toArray s = true := fun w h => hts0 w (List.mem_cons_of_mem _ h)
  have hown : s.vm.findClass own = some m.cls := hoc ▸ findClass_of_methodNamed B.named
  rw [lg_entry_eq]
  exact body p e s m below meth c _ ⟨B.exec, B.bytes, hml, hown, hts⟩ B.returns B.notSynchronized hG hP hE (lv_entry av hn)
theorem wx_intro {l : Launch} {y : MethodName} {cc : ByteArray} {maxL : Nat} {ret : Option FieldType} {rm : Room} {D : va_G} {cI cB cT : ClassId} {w w' : va_W} {av : List Value} {E : (Nat → Prop) → State → Prop} {r : Option Value} {sz : Nat} (own : String) (hy : plainName y.cls = true) (hoc : y.cls = own) (hn : (lg_sl av).length ≤ maxL)
    (body : ∀ (p : Program) (e : Env) (s : State) (m : MethodId) (below : List Frame) (meth : Method) (c : Code) (ls : Array Slot) (A : Nat → Prop) (H : Heap) (locs : List Loc), CallFix p m c cc maxL s av.toArray wsAll own → meth.sig.returnType = ret → meth.locks = false → Gd D cI cB cT s → va_P D vwCl w H → va_D A w → va_S A s.heap H locs → (∀ q : Nat, s.heap.size ≤ q → A q) → E A s → lv_has ls maxL (lv_args 0 av) → W p l e rm s m av.toArray below meth c H locs 0 0 (MQ below (Qw r D w' A) av.toArray s 0 0 A) (F0 m 0 ls [])) :
    Met l y (Cond.code y cc maxL ret :: wsAll) rm (fun a U => Pwr av D cI cB cT w sz a U ∧ E (va_A w sz) U) (Qw r D w' (va_A w sz)) 0 0 (va_A w sz) := by
  refine Met.ofW (cc := cc) (maxL := maxL) (ret := ret) hy rfl ?_
  intro p e s m args below meth c s₁ B hml hv
  obtain ⟨⟨rfl, hsz, hG, hP, hD0⟩, hE⟩ := hv
  subst hsz
  have hts0 := atoms_spec (ws := Cond.code y cc maxL ret :: wsAll) B.pre
  have hts : ∀ w ∈ wsAll, w.before av.toArray s = true := fun w h => hts0 w (List.mem_cons_of_mem _ h)
  have hown : s.vm.findClass own = some m.cls := hoc ▸ findClass_of_methodNamed B.named
  rw [lg_entry_eq]
  exact body p e s m below meth c _ (va_A w s.heap.size) s.heap [] ⟨B.exec, B.bytes, hml, hown, hts⟩ B.returns B.notSynchronized hG hP hD0.self va_S.rf (fun q h => Or.inr h) hE (lv_entry av hn)
section LX
variable {p : Program} {l : Launch} {e : Env} {R : Room} {s : State} {m : MethodId} {args : Array Value} {below : List Frame} {meth : Method} {c : Code} {H : Heap} {locs : List Loc} {cells slots : Nat} {Q : State → Prop}
variable {pc : Nat} {ls : Array Slot} {rest st0 : List Value} {a : Array Value} {cc : ByteArray} {nL : Nat} {own : String} {D : va_G} {cI cB cT : ClassId}
variable {y : MethodName} {bytes : ByteArray} {maxL n index : Nat} {ret : Option FieldType} {rm : Room} {C : String} {b : Nat} {As : List Value} {wc wc' : va_W} {r : Option Value} {E : State → Prop}
theorem rx_T (CF : CallFix p m c cc nL s args wsAll own) (hM : Met l y (Cond.code y bytes maxL ret :: wsAll) rm (fun a U => Pro (.ref b :: As) D cI cB cT wc a U ∧ E U) (Qr r) 0 0 (fun _ => False)) (hEb : ∀ (U : State) (g : JFrame) (mk : MethodId) (a : Array Value), E U → E (U.calling g mk a)) (hEw : ∀ U : State, U.heap = H → s.WarmedH U.vm → E U) (ok : okV C y bytes maxL ret n) (lk : Cond.methodLink own index y ∈ wsAll) (hrm : rmOk rm R maxL) (hG : Gd D cI cB cT s) (hPc : va_P D vwCl wc H) (hrc : ∃ cell : Cell, H[b]? = some cell ∧ cell.vm.isStatics = false ∧ s.vm.findClass C = some cell.cls) (hn : As.length = n) (hl : ls.size = nL) (hst : st0 = As.reverse ++ .ref b :: rest) (hrest : (rest.map fun v => v.category).sum ≤ 8) (hcs : cells ≤ R.cells ∧ slots ≤ R.slots) (hdg : decode cc pc = .ok (.invokevirtual index, 3))
    (kk : W p l e R s m args below meth c H locs cells slots Q (F0 m (pc + 3) ls (r.toList ++ rest))) : W p l e R s m args below meth c H locs cells slots Q (F0 m pc ls st0) :=
  ro_core (va_runV CF hM ⟨mkB CF ok.1 ok.2.1 ok.2.2.1 lk hrm, CF.2.2.2.2 _ ok.2.2.2.1, CF.2.2.2.2 _ ok.2.2.2.2⟩ ⟨fun a U g mk q => ⟨Pro_blind a U g mk q.1, hEb U g mk a q.2⟩, hrc, fun U hU hW => ⟨⟨rfl, hG.warm hW, by rw [hU]; exact hPc⟩, hEw U hU hW⟩⟩ rfl hn hl hst (lv_room hrest) hdg hcs) kk
theorem rx_V (CF : CallFix p m c cc nL s args wsAll own) (hM : Met l y (Cond.code y bytes maxL ret :: wsAll) rm (fun a U => Pro (.ref b :: As) D cI cB cT wc a U ∧ E U) (Qr r) 0 0 (fun _ => False)) (hEb : ∀ (U : State) (g : JFrame) (mk : MethodId) (a : Array Value), E U → E (U.calling g mk a)) (hEw : ∀ U : State, U.heap = H → s.WarmedH U.vm → E U) (ok : okV C y bytes maxL ret n) (lk : Cond.methodLink own index y ∈ wsAll) (hrm : rmOk rm R maxL) (hG : Gd D cI cB cT s) (hPc : va_P D vwCl wc H) (q0 ci : Nat) {q : vw_C} {fs : List Value} (hq : vwCl[ci]? = some q) (hqC : q.1 = C) (he : wc[q0]? = some (b, .inr (ci, fs))) (hn : As.length = n) (hl : ls.size = nL) (hst : st0 = As.reverse ++ .ref b :: rest) (hrest : (rest.map fun v => v.category).sum ≤ 8) (hcs : cells ≤ R.cells ∧ slots ≤ R.slots) (hdg : decode cc pc = .ok (.invokevirtual index, 3))
    (kk : W p l e R s m args below meth c H locs cells slots Q (F0 m (pc + 3) ls (r.toList ++ rest))) : W p l e R s m args below meth c H locs cells slots Q (F0 m pc ls st0) :=
  ro_core (va_runV CF hM ⟨mkB CF ok.1 ok.2.1 ok.2.2.1 lk hrm, CF.2.2.2.2 _ ok.2.2.2.1, CF.2.2.2.2 _ ok.2.2.2.2⟩ ⟨fun a U g mk q => ⟨Pro_blind a U g mk q.1, hEb U g mk a q.2⟩, hqC ▸ va_recv hG.1 hPc hq he, fun U hU hW => ⟨⟨rfl, hG.warm hW, by rw [hU]; exact hPc⟩, hEw U hU hW⟩⟩ rfl hn hl hst (lv_room hrest) hdg hcs) kk
theorem rx_S (CF : CallFix p m c cc nL s args wsAll own) (hM : Met l y (Cond.code y bytes maxL ret :: wsAll) rm (fun a U => Pro As D cI cB cT wc a U ∧ E U) (Qr r) 0 0 (fun _ => False)) (hEb : ∀ (U : State) (g : JFrame) (mk : MethodId) (a : Array Value), E U → E (U.calling g mk a)) (hEw : ∀ U : State, U.heap = H → s.WarmedH U.vm → E U) (ok : okS y bytes maxL ret n) (lk : Cond.methodLink own index y ∈ wsAll) (hrm : rmOk rm R maxL) (hG : Gd D cI cB cT s) (hPc : va_P D vwCl wc H) (hn : As.length = n) (hl : ls.size = nL) (hst : st0 = As.reverse ++ rest) (hrest : (rest.map fun v => v.category).sum ≤ 8) (hcs : cells ≤ R.cells ∧ slots ≤ R.slots) (hdg : decode cc pc = .ok (.invokestatic index, 3))
    (kk : W p l e R s m args below meth c H locs cells slots Q (F0 m (pc + 3) ls (r.toList ++ rest))) : W p l e R s m args below meth c H locs cells slots Q (F0 m pc ls st0) :=
  ro_core (va_runS CF hM ⟨mkB CF ok.1 ok.2.1 ok.2.2.1 lk hrm, CF.2.2.2.2 _ ok.2.2.2⟩ ⟨fun a U g mk q => ⟨Pro_blind a U g mk q.1, hEb U g mk a q.2⟩, fun U hU hW => ⟨⟨rfl, hG.warm hW, by rw [hU]; exact hPc⟩, hEw U hU hW⟩⟩ rfl hn hl hst (lv_room hrest) hdg hcs) kk
theorem wx_V {ws ws' : va_W} {A : Nat → Prop} (CF : CallFix p m c cc nL s args wsAll own) (hM : Met l y (Cond.code y bytes maxL ret :: wsAll) rm (fun a U => Pwr (.ref b :: As) D cI cB cT wc H.size a U ∧ E U) (Qw r D wc' (va_A wc H.size)) 0 0 (va_A wc H.size)) (hEb : ∀ (U : State) (g : JFrame) (mk : MethodId) (a : Array Value), E U → E (U.calling g mk a)) (hEw : ∀ U : State, U.heap = H → s.WarmedH U.vm → E U) (ok : okV C y bytes maxL ret n) (lk : Cond.methodLink own index y ∈ wsAll) (hrm : rmOk rm R maxL) (hG : Gd D cI cB cT s) (hP : va_P D vwCl ws H) (hD : va_D A ws) (hS : va_S A s.heap H locs) (hA : ∀ q : Nat, s.heap.size ≤ q → A q) (isC : List Nat) (hPc : va_P D vwCl wc H) (hnd : va_nd isC = true) (hC : isC.map (fun i => ws[i]?) = wc.map some) (hlen : isC.length = wc'.length) (hpb : ws' = pb ws isC wc') (hfst : ws'.map Prod.fst = ws.map Prod.fst) (q0 ci : Nat) {q : vw_C} {fs : List Value} (hq : vwCl[ci]? = some q) (hqC : q.1 = C) (he : wc[q0]? = some (b, .inr (ci, fs))) (hn : As.length = n) (hl : ls.size = nL) (hst : st0 = As.reverse ++ .ref b :: rest) (hrest : (rest.map fun v => v.category).sum ≤ 8) (hcs : cells ≤ R.cells ∧ slots ≤ R.slots) (hdg : decode cc pc = .ok (.invokevirtual index, 3))
    (kk : ∀ (H1 : Heap) (locs1 : List Loc), va_P D vwCl ws' H1 → va_D A ws' → va_S A s.heap H1 locs1 → W p l e R s m args below meth c H1 locs1 cells slots Q (F0 m (pc + 3) ls (r.toList ++ rest))) : W p l e R s m args below meth c H locs cells slots Q (F0 m pc ls st0) :=
  wr_core (va_runV CF hM ⟨mkB CF ok.1 ok.2.1 ok.2.2.1 lk hrm, CF.2.2.2.2 _ ok.2.2.2.1, CF.2.2.2.2 _ ok.2.2.2.2⟩ ⟨fun a U g mk q => ⟨Pwr_blind a U g mk q.1, hEb U g mk a q.2⟩, hqC ▸ va_recv hG.1 hPc hq he, fun U hU hW => ⟨⟨rfl, by rw [hU], hG.warm hW, by rw [hU]; exact hPc, (hD.sub isC hnd hC).weaken (fun _ _ _ _ => trivial)⟩, hEw U hU hW⟩⟩ rfl hn hl hst (lv_room hrest) hdg hcs) hP hD hS hA isC hC hlen hpb hfst kk
theorem wx_W {ws ws' : va_W} {A : Nat → Prop} (CF : CallFix p m c cc nL s args wsAll own) (hM : Met l y (Cond.code y bytes maxL ret :: wsAll) rm (fun a U => Pwr (.ref b :: As) D cI cB cT ws H.size a U ∧ E U) (Qw r D ws' (va_A ws H.size)) 0 0 (va_A ws H.size)) (hEb : ∀ (U : State) (g : JFrame) (mk : MethodId) (a : Array Value), E U → E (U.calling g mk a)) (hEw : ∀ U : State, U.heap = H → s.WarmedH U.vm → E U) (ok : okV C y bytes maxL ret n) (lk : Cond.methodLink own index y ∈ wsAll) (hrm : rmOk rm R maxL) (hG : Gd D cI cB cT s) (hP : va_P D vwCl ws H) (hD : va_D A ws) (hS : va_S A s.heap H locs) (hA : ∀ q : Nat, s.heap.size ≤ q → A q) (hfst : ws'.map Prod.fst = ws.map Prod.fst) (q0 ci : Nat) {q : vw_C} {fs : List Value} (hq : vwCl[ci]? = some q) (hqC : q.1 = C) (he : ws[q0]? = some (b, .inr (ci, fs))) (hn : As.length = n) (hl : ls.size = nL) (hst : st0 = As.reverse ++ .ref b :: rest) (hrest : (rest.map fun v => v.category).sum ≤ 8) (hcs : cells ≤ R.cells ∧ slots ≤ R.slots) (hdg : decode cc pc = .ok (.invokevirtual index, 3))
    (kk : ∀ (H1 : Heap) (locs1 : List Loc), va_P D vwCl ws' H1 → va_D A ws' → va_S A s.heap H1 locs1 → W p l e R s m args below meth c H1 locs1 cells slots Q (F0 m (pc + 3) ls (r.toList ++ rest))) : W p l e R s m args below meth c H locs cells slots Q (F0 m pc ls st0) :=
  wr_self (va_runV CF hM ⟨mkB CF ok.1 ok.2.1 ok.2.2.1 lk hrm, CF.2.2.2.2 _ ok.2.2.2.1, CF.2.2.2.2 _ ok.2.2.2.2⟩ ⟨fun a U g mk q => ⟨Pwr_blind a U g mk q.1, hEb U g mk a q.2⟩, hqC ▸ va_recv hG.1 hP hq he, fun U hU hW => ⟨⟨rfl, by rw [hU], hG.warm hW, by rw [hU]; exact hP, hD.weaken (fun _ _ _ _ => trivial)⟩, hEw U hU hW⟩⟩ rfl hn hl hst (lv_room hrest) hdg hcs) hD hS hA hfst kk
theorem ro_nret {v : Int32} {ty : FieldType} (CF : CallFix p m c cc nL s args wsAll own) (hr : meth.sig.returnType = some ty) (hlk : meth.locks = false) (hv : narrow ty (.int v) = .int v) (hdg : decode cc pc = .ok (.ireturn, 1)) : W p l e R s m args below meth c s.heap [] cells slots (MQ below (Qr (some (.int v))) args s cells slots (fun _ => False)) (F0 m pc ls [.int v]) :=
  W.zret CF.1 CF.2.1 hr hv (fun t ht _ => ⟨rfl, ht⟩) (fun _ h => by cases h) hdg hlk
theorem ro_vret (CF : CallFix p m c cc nL s args wsAll own) (hr : meth.sig.returnType = none) (hlk : meth.locks = false) (hdg : decode cc pc = .ok (.return_, 1)) : W p l e R s m args below meth c s.heap [] cells slots (MQ below (Qr none) args s cells slots (fun _ => False)) (F0 m pc ls []) :=
  W.vret CF.1 CF.2.1 hr (fun t ht _ => ⟨rfl, ht⟩) (fun _ h => by cases h) hdg hlk
end LX
section LXV
variable {p : Program} {l : Launch} {e : Env} {R : Room} {s : State} {m : MethodId} {args : Array Value} {below : List Frame} {meth : Method} {c : Code} {H : Heap} {locs : List Loc} {cells slots : Nat} {Q : State → Prop}
variable {pc : Nat} {ls : Array Slot} {rest st0 : List Value} {a : Array Value} {cc : ByteArray} {nL : Nat} {own : String} {D : va_G} {cI cB cT : ClassId}
variable {y : MethodName} {bytes : ByteArray} {maxL n index : Nat} {ret : Option FieldType} {rm : Room} {C : String} {b : Nat} {As : List Value} {wc wc' : va_W} {E : State → Prop}
theorem rx_Vi {x : Int32} (CF : CallFix p m c cc nL s args wsAll own) (hM : Met l y (Cond.code y bytes maxL ret :: wsAll) rm (fun a U => Pro (.ref b :: As) D cI cB cT wc a U ∧ E U) (Qr (some (.int x))) 0 0 (fun _ => False)) (hEb : ∀ (U : State) (g : JFrame) (mk : MethodId) (a : Array Value), E U → E (U.calling g mk a)) (hEw : ∀ U : State, U.heap = H → s.WarmedH U.vm → E U) (ok : okV C y bytes maxL ret n) (lk : Cond.methodLink own index y ∈ wsAll) (hrm : rmOk rm R maxL) (hG : Gd D cI cB cT s) (hPc : va_P D vwCl wc H) (q0 ci : Nat) {q : vw_C} {fs : List Value} (hq : vwCl[ci]? = some q) (hqC : q.1 = C) (he : wc[q0]? = some (b, .inr (ci, fs))) (hn : As.length = n) (hl : ls.size = nL) (hst : st0 = As.reverse ++ .ref b :: rest) (hrest : (rest.map fun v => v.category).sum ≤ 8) (hcs : cells ≤ R.cells ∧ slots ≤ R.slots) (hdg : decode cc pc = .ok (.invokevirtual index, 3))
    (kk : W p l e R s m args below meth c H locs cells slots Q (F0 m (pc + 3) ls (.int x :: rest))) : W p l e R s m args below meth c H locs cells slots Q (F0 m pc ls st0) :=
  rx_V (r := (some (.int x))) CF hM hEb hEw ok lk hrm hG hPc q0 ci hq hqC he hn hl hst hrest hcs hdg kk
theorem rx_Vv (CF : CallFix p m c cc nL s args wsAll own) (hM : Met l y (Cond.code y bytes maxL ret :: wsAll) rm (fun a U => Pro (.ref b :: As) D cI cB cT wc a U ∧ E U) (Qr none) 0 0 (fun _ => False)) (hEb : ∀ (U : State) (g : JFrame) (mk : MethodId) (a : Array Value), E U → E (U.calling g mk a)) (hEw : ∀ U : State, U.heap = H → s.WarmedH U.vm → E U) (ok : okV C y bytes maxL ret n) (lk : Cond.methodLink own index y ∈ wsAll) (hrm : rmOk rm R maxL) (hG : Gd D cI cB cT s) (hPc : va_P D vwCl wc H) (q0 ci : Nat) {q : vw_C} {fs : List Value} (hq : vwCl[ci]? = some q) (hqC : q.1 = C) (he : wc[q0]? = some (b, .inr (ci, fs))) (hn : As.length = n) (hl : ls.size = nL) (hst : st0 = As.reverse ++ .ref b :: rest) (hrest : (rest.map fun v => v.category).sum ≤ 8) (hcs : cells ≤ R.cells ∧ slots ≤ R.slots) (hdg : decode cc pc = .ok (.invokevirtual index, 3))
    (kk : W p l e R s m args below meth c H locs cells slots Q (F0 m (pc + 3) ls rest)) : W p l e R s m args below meth c H locs cells slots Q (F0 m pc ls st0) :=
  rx_V (r := none) CF hM hEb hEw ok lk hrm hG hPc q0 ci hq hqC he hn hl hst hrest hcs hdg kk
theorem rx_Ti {x : Int32} (CF : CallFix p m c cc nL s args wsAll own) (hM : Met l y (Cond.code y bytes maxL ret :: wsAll) rm (fun a U => Pro (.ref b :: As) D cI cB cT wc a U ∧ E U) (Qr (some (.int x))) 0 0 (fun _ => False)) (hEb : ∀ (U : State) (g : JFrame) (mk : MethodId) (a : Array Value), E U → E (U.calling g mk a)) (hEw : ∀ U : State, U.heap = H → s.WarmedH U.vm → E U) (ok : okV C y bytes maxL ret n) (lk : Cond.methodLink own index y ∈ wsAll) (hrm : rmOk rm R maxL) (hG : Gd D cI cB cT s) (hPc : va_P D vwCl wc H) (hrc : ∃ cell : Cell, H[b]? = some cell ∧ cell.vm.isStatics = false ∧ s.vm.findClass C = some cell.cls) (hn : As.length = n) (hl : ls.size = nL) (hst : st0 = As.reverse ++ .ref b :: rest) (hrest : (rest.map fun v => v.category).sum ≤ 8) (hcs : cells ≤ R.cells ∧ slots ≤ R.slots) (hdg : decode cc pc = .ok (.invokevirtual index, 3))
    (kk : W p l e R s m args below meth c H locs cells slots Q (F0 m (pc + 3) ls (.int x :: rest))) : W p l e R s m args below meth c H locs cells slots Q (F0 m pc ls st0) :=
  rx_T (r := (some (.int x))) CF hM hEb hEw ok lk hrm hG hPc hrc hn hl hst hrest hcs hdg kk
theorem rx_Tv (CF : CallFix p m c cc nL s args wsAll own) (hM : Met l y (Cond.code y bytes maxL ret :: wsAll) rm (fun a U => Pro (.ref b :: As) D cI cB cT wc a U ∧ E U) (Qr none) 0 0 (fun _ => False)) (hEb : ∀ (U : State) (g : JFrame) (mk : MethodId) (a : Array Value), E U → E (U.calling g mk a)) (hEw : ∀ U : State, U.heap = H → s.WarmedH U.vm → E U) (ok : okV C y bytes maxL ret n) (lk : Cond.methodLink own index y ∈ wsAll) (hrm : rmOk rm R maxL) (hG : Gd D cI cB cT s) (hPc : va_P D vwCl wc H) (hrc : ∃ cell : Cell, H[b]? = some cell ∧ cell.vm.isStatics = false ∧ s.vm.findClass C = some cell.cls) (hn : As.length = n) (hl : ls.size = nL) (hst : st0 = As.reverse ++ .ref b :: rest) (hrest : (rest.map fun v => v.category).sum ≤ 8) (hcs : cells ≤ R.cells ∧ slots ≤ R.slots) (hdg : decode cc pc = .ok (.invokevirtual index, 3))
    (kk : W p l e R s m args below meth c H locs cells slots Q (F0 m (pc + 3) ls rest)) : W p l e R s m args below meth c H locs cells slots Q (F0 m pc ls st0) :=
  rx_T (r := none) CF hM hEb hEw ok lk hrm hG hPc hrc hn hl hst hrest hcs hdg kk
theorem rx_Si {x : Int32} (CF : CallFix p m c cc nL s args wsAll own) (hM : Met l y (Cond.code y bytes maxL ret :: wsAll) rm (fun a U => Pro As D cI cB cT wc a U ∧ E U) (Qr (some (.int x))) 0 0 (fun _ => False)) (hEb : ∀ (U : State) (g : JFrame) (mk : MethodId) (a : Array Value), E U → E (U.calling g mk a)) (hEw : ∀ U : State, U.heap = H → s.WarmedH U.vm → E U) (ok : okS y bytes maxL ret n) (lk : Cond.methodLink own index y ∈ wsAll) (hrm : rmOk rm R maxL) (hG : Gd D cI cB cT s) (hPc : va_P D vwCl wc H) (hn : As.length = n) (hl : ls.size = nL) (hst : st0 = As.reverse ++ rest) (hrest : (rest.map fun v => v.category).sum ≤ 8) (hcs : cells ≤ R.cells ∧ slots ≤ R.slots) (hdg : decode cc pc = .ok (.invokestatic index, 3))
    (kk : W p l e R s m args below meth c H locs cells slots Q (F0 m (pc + 3) ls (.int x :: rest))) : W p l e R s m args below meth c H locs cells slots Q (F0 m pc ls st0) :=
  rx_S (r := (some (.int x))) CF hM hEb hEw ok lk hrm hG hPc hn hl hst hrest hcs hdg kk
theorem rx_Sv (CF : CallFix p m c cc nL s args wsAll own) (hM : Met l y (Cond.code y bytes maxL ret :: wsAll) rm (fun a U => Pro As D cI cB cT wc a U ∧ E U) (Qr none) 0 0 (fun _ => False)) (hEb : ∀ (U : State) (g : JFrame) (mk : MethodId) (a : Array Value), E U → E (U.calling g mk a)) (hEw : ∀ U : State, U.heap = H → s.WarmedH U.vm → E U) (ok : okS y bytes maxL ret n) (lk : Cond.methodLink own index y ∈ wsAll) (hrm : rmOk rm R maxL) (hG : Gd D cI cB cT s) (hPc : va_P D vwCl wc H) (hn : As.length = n) (hl : ls.size = nL) (hst : st0 = As.reverse ++ rest) (hrest : (rest.map fun v => v.category).sum ≤ 8) (hcs : cells ≤ R.cells ∧ slots ≤ R.slots) (hdg : decode cc pc = .ok (.invokestatic index, 3))
    (kk : W p l e R s m args below meth c H locs cells slots Q (F0 m (pc + 3) ls rest)) : W p l e R s m args below meth c H locs cells slots Q (F0 m pc ls st0) :=
  rx_S (r := none) CF hM hEb hEw ok lk hrm hG hPc hn hl hst hrest hcs hdg kk
theorem wx_Vi {x : Int32} {ws ws' : va_W} {A : Nat → Prop} (CF : CallFix p m c cc nL s args wsAll own) (hM : Met l y (Cond.code y bytes maxL ret :: wsAll) rm (fun a U => Pwr (.ref b :: As) D cI cB cT wc H.size a U ∧ E U) (Qw (some (.int x)) D wc' (va_A wc H.size)) 0 0 (va_A wc H.size)) (hEb : ∀ (U : State) (g : JFrame) (mk : MethodId) (a : Array Value), E U → E (U.calling g mk a)) (hEw : ∀ U : State, U.heap = H → s.WarmedH U.vm → E U) (ok : okV C y bytes maxL ret n) (lk : Cond.methodLink own index y ∈ wsAll) (hrm : rmOk rm R maxL) (hG : Gd D cI cB cT s) (hP : va_P D vwCl ws H) (hD : va_D A ws) (hS : va_S A s.heap H locs) (hA : ∀ q : Nat, s.heap.size ≤ q → A q) (isC : List Nat) (hPc : va_P D vwCl wc H) (hnd : va_nd isC = true) (hC : isC.map (fun i => ws[i]?) = wc.map some) (hlen : isC.length = wc'.length) (hpb : ws' = pb ws isC wc') (hfst : ws'.map Prod.fst = ws.map Prod.fst) (q0 ci : Nat) {q : vw_C} {fs : List Value} (hq : vwCl[ci]? = some q) (hqC : q.1 = C) (he : wc[q0]? = some (b, .inr (ci, fs))) (hn : As.length = n) (hl : ls.size = nL) (hst : st0 = As.reverse ++ .ref b :: rest) (hrest : (rest.map fun v => v.category).sum ≤ 8) (hcs : cells ≤ R.cells ∧ slots ≤ R.slots) (hdg : decode cc pc = .ok (.invokevirtual index, 3))
    (kk : ∀ (H1 : Heap) (locs1 : List Loc), va_P D vwCl ws' H1 → va_D A ws' → va_S A s.heap H1 locs1 → W p l e R s m args below meth c H1 locs1 cells slots Q (F0 m (pc + 3) ls (.int x :: rest))) : W p l e R s m args below meth c H locs cells slots Q (F0 m pc ls st0) :=
  wx_V (r := (some (.int x))) CF hM hEb hEw ok lk hrm hG hP hD hS hA isC hPc hnd hC hlen hpb hfst q0 ci hq hqC he hn hl hst hrest hcs hdg kk
theorem wx_Vv {ws ws' : va_W} {A : Nat → Prop} (CF : CallFix p m c cc nL s args wsAll own) (hM : Met l y (Cond.code y bytes maxL ret :: wsAll) rm (fun a U => Pwr (.ref b :: As) D cI cB cT wc H.size a U ∧ E U) (Qw none D wc' (va_A wc H.size)) 0 0 (va_A wc H.size)) (hEb : ∀ (U : State) (g : JFrame) (mk : MethodId) (a : Array Value), E U → E (U.calling g mk a)) (hEw : ∀ U : State, U.heap = H → s.WarmedH U.vm → E U) (ok : okV C y bytes maxL ret n) (lk : Cond.methodLink own index y ∈ wsAll) (hrm : rmOk rm R maxL) (hG : Gd D cI cB cT s) (hP : va_P D vwCl ws H) (hD : va_D A ws) (hS : va_S A s.heap H locs) (hA : ∀ q : Nat, s.heap.size ≤ q → A q) (isC : List Nat) (hPc : va_P D vwCl wc H) (hnd : va_nd isC = true) (hC : isC.map (fun i => ws[i]?) = wc.map some) (hlen : isC.length = wc'.length) (hpb : ws' = pb ws isC wc') (hfst : ws'.map Prod.fst = ws.map Prod.fst) (q0 ci : Nat) {q : vw_C} {fs : List Value} (hq : vwCl[ci]? = some q) (hqC : q.1 = C) (he : wc[q0]? = some (b, .inr (ci, fs))) (hn : As.length = n) (hl : ls.size = nL) (hst : st0 = As.reverse ++ .ref b :: rest) (hrest : (rest.map fun v => v.category).sum ≤ 8) (hcs : cells ≤ R.cells ∧ slots ≤ R.slots) (hdg : decode cc pc = .ok (.invokevirtual index, 3))
    (kk : ∀ (H1 : Heap) (locs1 : List Loc), va_P D vwCl ws' H1 → va_D A ws' → va_S A s.heap H1 locs1 → W p l e R s m args below meth c H1 locs1 cells slots Q (F0 m (pc + 3) ls rest)) : W p l e R s m args below meth c H locs cells slots Q (F0 m pc ls st0) :=
  wx_V (r := none) CF hM hEb hEw ok lk hrm hG hP hD hS hA isC hPc hnd hC hlen hpb hfst q0 ci hq hqC he hn hl hst hrest hcs hdg kk
theorem wx_Wi {x : Int32} {ws ws' : va_W} {A : Nat → Prop} (CF : CallFix p m c cc nL s args wsAll own) (hM : Met l y (Cond.code y bytes maxL ret :: wsAll) rm (fun a U => Pwr (.ref b :: As) D cI cB cT ws H.size a U ∧ E U) (Qw (some (.int x)) D ws' (va_A ws H.size)) 0 0 (va_A ws H.size)) (hEb : ∀ (U : State) (g : JFrame) (mk : MethodId) (a : Array Value), E U → E (U.calling g mk a)) (hEw : ∀ U : State, U.heap = H → s.WarmedH U.vm → E U) (ok : okV C y bytes maxL ret n) (lk : Cond.methodLink own index y ∈ wsAll) (hrm : rmOk rm R maxL) (hG : Gd D cI cB cT s) (hP : va_P D vwCl ws H) (hD : va_D A ws) (hS : va_S A s.heap H locs) (hA : ∀ q : Nat, s.heap.size ≤ q → A q) (hfst : ws'.map Prod.fst = ws.map Prod.fst) (q0 ci : Nat) {q : vw_C} {fs : List Value} (hq : vwCl[ci]? = some q) (hqC : q.1 = C) (he : ws[q0]? = some (b, .inr (ci, fs))) (hn : As.length = n) (hl : ls.size = nL) (hst : st0 = As.reverse ++ .ref b :: rest) (hrest : (rest.map fun v => v.category).sum ≤ 8) (hcs : cells ≤ R.cells ∧ slots ≤ R.slots) (hdg : decode cc pc = .ok (.invokevirtual index, 3))
    (kk : ∀ (H1 : Heap) (locs1 : List Loc), va_P D vwCl ws' H1 → va_D A ws' → va_S A s.heap H1 locs1 → W p l e R s m args below meth c H1 locs1 cells slots Q (F0 m (pc + 3) ls (.int x :: rest))) : W p l e R s m args below meth c H locs cells slots Q (F0 m pc ls st0) :=
  wx_W (r := (some (.int x))) CF hM hEb hEw ok lk hrm hG hP hD hS hA hfst q0 ci hq hqC he hn hl hst hrest hcs hdg kk
theorem wx_Wv {ws ws' : va_W} {A : Nat → Prop} (CF : CallFix p m c cc nL s args wsAll own) (hM : Met l y (Cond.code y bytes maxL ret :: wsAll) rm (fun a U => Pwr (.ref b :: As) D cI cB cT ws H.size a U ∧ E U) (Qw none D ws' (va_A ws H.size)) 0 0 (va_A ws H.size)) (hEb : ∀ (U : State) (g : JFrame) (mk : MethodId) (a : Array Value), E U → E (U.calling g mk a)) (hEw : ∀ U : State, U.heap = H → s.WarmedH U.vm → E U) (ok : okV C y bytes maxL ret n) (lk : Cond.methodLink own index y ∈ wsAll) (hrm : rmOk rm R maxL) (hG : Gd D cI cB cT s) (hP : va_P D vwCl ws H) (hD : va_D A ws) (hS : va_S A s.heap H locs) (hA : ∀ q : Nat, s.heap.size ≤ q → A q) (hfst : ws'.map Prod.fst = ws.map Prod.fst) (q0 ci : Nat) {q : vw_C} {fs : List Value} (hq : vwCl[ci]? = some q) (hqC : q.1 = C) (he : ws[q0]? = some (b, .inr (ci, fs))) (hn : As.length = n) (hl : ls.size = nL) (hst : st0 = As.reverse ++ .ref b :: rest) (hrest : (rest.map fun v => v.category).sum ≤ 8) (hcs : cells ≤ R.cells ∧ slots ≤ R.slots) (hdg : decode cc pc = .ok (.invokevirtual index, 3))
    (kk : ∀ (H1 : Heap) (locs1 : List Loc), va_P D vwCl ws' H1 → va_D A ws' → va_S A s.heap H1 locs1 → W p l e R s m args below meth c H1 locs1 cells slots Q (F0 m (pc + 3) ls rest)) : W p l e R s m args below meth c H locs cells slots Q (F0 m pc ls st0) :=
  wx_W (r := none) CF hM hEb hEw ok lk hrm hG hP hD hS hA hfst q0 ci hq hqC he hn hl hst hrest hcs hdg kk
end LXV
def rm_J0_coder_7d493 : Room := { frames := 0, cells := 0, slots := 0, locals := 0 }
set_option maxHeartbeats 4000000 in
set_option maxRecDepth 100000 in
theorem c_J0_coder_7d493 (l : Launch) (D : va_G) (cI cB cT : ClassId) (adK adV : Nat → Nat) (i : Nat) (hi : i < 4) : Met l yJ0_coder_7d493 (Cond.code yJ0_coder_7d493 cJ0_coder_7d493 1 (some .byte) :: wsAll) rm_J0_coder_7d493 (fun a U => Pro [.ref (adK i)] D cI cB cT wd_E a U ∧ SE adK adV (fun _ => False) U U.heap) (Qr (some (.int 0))) 0 0 (fun _ => False) := by
  refine rx_intro RJ0 (by decide +kernel) rfl (Nat.le_of_ble_eq_true rfl) ?_
  intro p e s m below meth c ls CF hr hlk hG hP hE hl
  obtain ⟨hx, hb, hml, hown, hts⟩ := id CF
  have hl : lv_has ls 1 [(0, .ref (adK i))] := hl
  refine va_gets hx hb hE.2.1 (va_S.rf (A := fun _ => False)) hown (hts _ wm_441) (fun _ h9 => h9) dJ0_coder_7d493_0 ?_
  refine lv_if_eq (tgt := 13) hx hb dJ0_coder_7d493_3 (by decide) (fun c1 => absurd c1 (by decide)) (fun c1 => ?_)
  refine lv_aload_n hx hb dJ0_coder_7d493_6 rfl (lv_at hl 0 rfl) ?_
  refine vk_getf hx hb (hE.1.1 i hi).2.1 (va_S.rf (A := fun _ => False)) hown (hts _ wm_1414) (fun _ h9 => h9) dJ0_coder_7d493_7 ?_
  refine lv_goto (tgt := 14) hx hb dJ0_coder_7d493_10 (by decide) ?_
  exact ro_nret CF hr hlk rfl dJ0_coder_7d493_14
def rm_J0_isLatin1_aae02 : Room := { frames := 0, cells := 0, slots := 0, locals := 0 }
set_option maxHeartbeats 4000000 in
set_option maxRecDepth 100000 in
theorem c_J0_isLatin1_aae02 (l : Launch) (D : va_G) (cI cB cT : ClassId) (adK adV : Nat → Nat) (i : Nat) (hi : i < 4) : Met l yJ0_isLatin1_aae02 (Cond.code yJ0_isLatin1_aae02 cJ0_isLatin1_aae02 1 (some .boolean) :: wsAll) rm_J0_isLatin1_aae02 (fun a U => Pro [.ref (adK i)] D cI cB cT wd_E a U ∧ SE adK adV (fun _ => False) U U.heap) (Qr (some (.int 1))) 0 0 (fun _ => False) := by
  refine rx_intro RJ0 (by decide +kernel) rfl (Nat.le_of_ble_eq_true rfl) ?_
  intro p e s m below meth c ls CF hr hlk hG hP hE hl
  obtain ⟨hx, hb, hml, hown, hts⟩ := id CF
  have hl : lv_has ls 1 [(0, .ref (adK i))] := hl
  refine va_gets hx hb hE.2.1 (va_S.rf (A := fun _ => False)) hown (hts _ wm_441) (fun _ h9 => h9) dJ0_isLatin1_aae02_0 ?_
  refine lv_if_eq (tgt := 17) hx hb dJ0_isLatin1_aae02_3 (by decide) (fun c1 => absurd c1 (by decide)) (fun c1 => ?_)
  refine lv_aload_n hx hb dJ0_isLatin1_aae02_6 rfl (lv_at hl 0 rfl) ?_
  refine vk_getf hx hb (hE.1.1 i hi).2.1 (va_S.rf (A := fun _ => False)) hown (hts _ wm_1414) (fun _ h9 => h9) dJ0_isLatin1_aae02_7 ?_
  refine lv_if_ne (tgt := 17) hx hb dJ0_isLatin1_aae02_10 (by decide) (fun c1 => absurd rfl c1) (fun c1 => ?_)
  refine lv_iconst (v := (1 : Int32)) hx hb dJ0_isLatin1_aae02_13 (by decide) ?_
  refine lv_goto (tgt := 18) hx hb dJ0_isLatin1_aae02_14 (by decide) ?_
  exact ro_nret CF hr hlk rfl dJ0_isLatin1_aae02_18
def rm_J0_length_8abf5 : Room := { frames := 1, cells := 0, slots := 0, locals := 20 }
set_option maxHeartbeats 4000000 in
set_option maxRecDepth 100000 in
theorem c_J0_length_8abf5 (l : Launch) (D : va_G) (cI cB cT : ClassId) (adK adV : Nat → Nat) (i : Nat) (hi : i < 4) : Met l yJ0_length_8abf5 (Cond.code yJ0_length_8abf5 cJ0_length_8abf5 1 (some .int) :: wsAll) rm_J0_length_8abf5 (fun a U => Pro [.ref (adK i)] D cI cB cT wd_E a U ∧ SE adK adV (fun _ => False) U U.heap) (Qr (some (.int (Int32.ofNat (stL.getD i 0))))) 0 0 (fun _ => False) := by
  refine rx_intro RJ0 (by decide +kernel) rfl (Nat.le_of_ble_eq_true rfl) ?_
  intro p e s m below meth c ls CF hr hlk hG hP hE hl
  obtain ⟨hx, hb, hml, hown, hts⟩ := id CF
  have hl : lv_has ls 1 [(0, .ref (adK i))] := hl
  refine lv_aload_n hx hb dJ0_length_8abf5_0 rfl (lv_at hl 0 rfl) ?_
  refine vk_getf hx hb (hE.1.1 i hi).2.2.1 (va_S.rf (A := fun _ => False)) hown (hts _ wm_1413) (fun _ h9 => h9) dJ0_length_8abf5_1 ?_
  refine va_tlen (v := Int32.ofNat (stL.getD i 0)) hx hb (hE.1.1 i hi).2.2.2 (va_S.rf (A := fun _ => False)) rfl dJ0_length_8abf5_4 ?_
  refine lv_aload_n hx hb dJ0_length_8abf5_5 rfl (lv_at hl 0 rfl) ?_
  refine rx_Ti (x := (0 : Int32)) (As := []) (rest := [.int (Int32.ofNat (stL.getD i 0))]) CF (c_J0_coder_7d493 l D cI cB cT adK adV i hi) SE.blind hE.atR ok_J0_coder_7d493 wm_437 ⟨rfl, rfl, Nat.le_of_ble_eq_true rfl, Nat.le_of_ble_eq_true rfl⟩ hG wd_E_P (vk_recv hE.1 hi (va_S.rf (A := fun _ => False))) rfl hl.1 rfl (Nat.le_of_ble_eq_true rfl) ⟨Nat.zero_le _, Nat.zero_le _⟩ dJ0_length_8abf5_6 ?_
  refine lv_ishr hx hb dJ0_length_8abf5_9 ?_
  rw [sb_shr0]
  exact ro_iret CF hr hlk dJ0_length_8abf5_10
def rm_J3_checkIndex_8e157 : Room := { frames := 0, cells := 0, slots := 0, locals := 0 }
set_option maxHeartbeats 4000000 in
set_option maxRecDepth 100000 in
theorem c_J3_checkIndex_8e157 (l : Launch) (D : va_G) (cI cB cT : ClassId) (k n : Int32) (o : Option Nat) (h1 : ¬ k < 0) (h2 : k < n) : Met l yJ3_checkIndex_8e157 (Cond.code yJ3_checkIndex_8e157 cJ3_checkIndex_8e157 3 (some .int) :: wsAll) rm_J3_checkIndex_8e157 (Pro [.int k, .int n, va_rf o] D cI cB cT wd_E) (Qr (some (.int k))) 0 0 (fun _ => False) := by
  refine ro_intro RJ3 (by decide +kernel) rfl (by cases o <;> exact Nat.le_of_ble_eq_true rfl) ?_
  intro p e s m below meth c ls CF hr hlk hG hP hl
  obtain ⟨hx, hb, hml, hown, hts⟩ := id CF
  have hl : lv_has ls 3 [(0, .int k), (1, .int n), (2, va_rf o)] := hl
  refine lv_iload_n hx hb dJ3_checkIndex_8e157_0 rfl (lv_at hl 0 rfl) ?_
  refine lv_if_lt (tgt := 9) hx hb dJ3_checkIndex_8e157_1 (by decide) (fun c1 => absurd c1 h1) (fun c1 => ?_)
  refine lv_iload_n hx hb dJ3_checkIndex_8e157_4 rfl (lv_at hl 0 rfl) ?_
  refine lv_iload_n hx hb dJ3_checkIndex_8e157_5 rfl (lv_at hl 1 rfl) ?_
  refine lv_icmp_lt (tgt := 16) hx hb dJ3_checkIndex_8e157_6 (by decide) (fun c2 => ?_) (fun c2 => absurd h2 c2)
  refine lv_iload_n hx hb dJ3_checkIndex_8e157_16 rfl (lv_at hl 0 rfl) ?_
  exact ro_iret CF hr hlk dJ3_checkIndex_8e157_17
def rm_J0_checkIndex_df160 : Room := { frames := 1, cells := 0, slots := 0, locals := 22 }
set_option maxHeartbeats 4000000 in
set_option maxRecDepth 100000 in
theorem c_J0_checkIndex_df160 (l : Launch) (D : va_G) (cI cB cT : ClassId) (adK adV : Nat → Nat) (k n : Int32) (h1 : ¬ k < 0) (h2 : k < n) : Met l yJ0_checkIndex_df160 (Cond.code yJ0_checkIndex_df160 cJ0_checkIndex_df160 2 none :: wsAll) rm_J0_checkIndex_df160 (fun a U => Pro [.int k, .int n] D cI cB cT wd_E a U ∧ SE adK adV (fun _ => False) U U.heap) (Qr none) 0 0 (fun _ => False) := by
  refine rx_intro RJ0 (by decide +kernel) rfl (Nat.le_of_ble_eq_true rfl) ?_
  intro p e s m below meth c ls CF hr hlk hG hP hE hl
  obtain ⟨hx, hb, hml, hown, hts⟩ := id CF
  have hl : lv_has ls 2 [(0, .int k), (1, .int n)] := hl
  refine lv_iload_n hx hb dJ0_checkIndex_df160_0 rfl (lv_at hl 0 rfl) ?_
  refine lv_iload_n hx hb dJ0_checkIndex_df160_1 rfl (lv_at hl 1 rfl) ?_
  rcases hE.2.2.1 with hz | ⟨t, hz⟩
  · refine va_gets hx hb hz (va_S.rf (A := fun _ => False)) hown (hts _ wm_457) (fun _ h9 => h9) dJ0_checkIndex_df160_2 ?_
    refine ro_Si (x := k) (As := [.int k, .int n, .null]) (rest := []) CF (c_J3_checkIndex_8e157 l D cI cB cT k n none h1 h2) ok_J3_checkIndex_8e157 wm_459 ⟨rfl, rfl, Nat.le_of_ble_eq_true rfl, Nat.le_of_ble_eq_true rfl⟩ hG wd_E_P rfl hl.1 rfl (Nat.le_of_ble_eq_true rfl) ⟨Nat.zero_le _, Nat.zero_le _⟩ dJ0_checkIndex_df160_5 ?_
    refine lv_pop hx hb dJ0_checkIndex_df160_8 rfl ?_
    exact ro_vret CF hr hlk dJ0_checkIndex_df160_9
  · refine va_gets hx hb hz (va_S.rf (A := fun _ => False)) hown (hts _ wm_457) (fun _ h9 => h9) dJ0_checkIndex_df160_2 ?_
    refine ro_Si (x := k) (As := [.int k, .int n, .ref t]) (rest := []) CF (c_J3_checkIndex_8e157 l D cI cB cT k n (some t) h1 h2) ok_J3_checkIndex_8e157 wm_459 ⟨rfl, rfl, Nat.le_of_ble_eq_true rfl, Nat.le_of_ble_eq_true rfl⟩ hG wd_E_P rfl hl.1 rfl (Nat.le_of_ble_eq_true rfl) ⟨Nat.zero_le _, Nat.zero_le _⟩ dJ0_checkIndex_df160_5 ?_
    refine lv_pop hx hb dJ0_checkIndex_df160_8 rfl ?_
    exact ro_vret CF hr hlk dJ0_checkIndex_df160_9
theorem st_lt {k : Int32} {n : Nat} (hn : n < 100) (hk : ¬ oob k n) : ¬ k < 0 ∧ k < Int32.ofNat n := by
  refine ⟨fun h => hk (Or.inl h), ?_⟩
  obtain ⟨j, hj, rfl⟩ := vp_in_of (n := n) hk (by omega)
  exact nI_lt hj (by omega)
theorem stL_lt {i : Nat} (hi : i < 4) : stL.getD i 0 < 100 := by
  rcases (show i = 0 ∨ i = 1 ∨ i = 2 ∨ i = 3 by omega) with rfl | rfl | rfl | rfl <;> decide
def rm_J1_charAt_3b067 : Room := { frames := 2, cells := 0, slots := 0, locals := 43 }
set_option maxHeartbeats 4000000 in
set_option maxRecDepth 100000 in
theorem c_J1_charAt_3b067 (l : Launch) (D : va_G) (cI cB cT : ClassId) (adK adV : Nat → Nat) (i : Nat) (hi : i < 4) (k : Int32) (hk : ¬ oob k (stL.getD i 0)) : Met l yJ1_charAt_3b067 (Cond.code yJ1_charAt_3b067 cJ1_charAt_3b067 2 (some .char) :: wsAll) rm_J1_charAt_3b067 (fun a U => Pro [.ref (adV i), .int k] D cI cB cT wd_E a U ∧ SE adK adV (fun _ => False) U U.heap) (Qr (some (.int (((stB.getD i []).getD k.toNatClampNeg 0) &&& 255)))) 0 0 (fun _ => False) := by
  refine rx_intro RJ1 (by decide +kernel) rfl (Nat.le_of_ble_eq_true rfl) ?_
  intro p e s m below meth c ls CF hr hlk hG hP hE hl
  obtain ⟨hx, hb, hml, hown, hts⟩ := id CF
  have hl : lv_has ls 2 [(0, .ref (adV i)), (1, .int k)] := hl
  have hkk := st_lt (stL_lt hi) hk
  refine lv_iload_n hx hb dJ1_charAt_3b067_0 rfl (lv_at hl 1 rfl) ?_
  refine lv_aload_n hx hb dJ1_charAt_3b067_1 rfl (lv_at hl 0 rfl) ?_
  refine va_tlen (v := Int32.ofNat (stL.getD i 0)) hx hb (hE.1.1 i hi).2.2.2 (va_S.rf (A := fun _ => False)) rfl dJ1_charAt_3b067_2 ?_
  refine rx_Sv (As := [.int k, .int (Int32.ofNat (stL.getD i 0))]) (rest := []) CF (c_J0_checkIndex_df160 l D cI cB cT adK adV k (Int32.ofNat (stL.getD i 0)) hkk.1 hkk.2) SE.blind hE.atR ok_J0_checkIndex_df160 wm_454 ⟨rfl, rfl, Nat.le_of_ble_eq_true rfl, Nat.le_of_ble_eq_true rfl⟩ hG wd_E_P rfl hl.1 rfl (Nat.le_of_ble_eq_true rfl) ⟨Nat.zero_le _, Nat.zero_le _⟩ dJ1_charAt_3b067_3 ?_
  refine lv_aload_n hx hb dJ1_charAt_3b067_6 rfl (lv_at hl 0 rfl) ?_
  refine lv_iload_n hx hb dJ1_charAt_3b067_7 rfl (lv_at hl 1 rfl) ?_
  refine va_tb (v := .int ((stB.getD i []).getD k.toNatClampNeg 0)) hx hb (hE.1.1 i hi).2.2.2 (va_S.rf (A := fun _ => False)) hk rfl dJ1_charAt_3b067_8 ?_
  refine lv_sipush (v := (255 : Int32)) hx hb dJ1_charAt_3b067_9 (by decide) ?_
  refine lv_iand hx hb dJ1_charAt_3b067_12 ?_
  refine lv_i2c hx hb dJ1_charAt_3b067_13 (sc_c2 _) ?_
  exact ro_nret CF hr hlk (sc_nar _) dJ1_charAt_3b067_14
def rm_J0_charAt_5068e : Room := { frames := 3, cells := 0, slots := 0, locals := 64 }
set_option maxHeartbeats 4000000 in
set_option maxRecDepth 100000 in
theorem c_J0_charAt_5068e (l : Launch) (D : va_G) (cI cB cT : ClassId) (adK adV : Nat → Nat) (i : Nat) (hi : i < 4) (k : Int32) (hk : ¬ oob k (stL.getD i 0)) : Met l yJ0_charAt_5068e (Cond.code yJ0_charAt_5068e cJ0_charAt_5068e 2 (some .char) :: wsAll) rm_J0_charAt_5068e (fun a U => Pro [.ref (adK i), .int k] D cI cB cT wd_E a U ∧ SE adK adV (fun _ => False) U U.heap) (Qr (some (.int (((stB.getD i []).getD k.toNatClampNeg 0) &&& 255)))) 0 0 (fun _ => False) := by
  refine rx_intro RJ0 (by decide +kernel) rfl (Nat.le_of_ble_eq_true rfl) ?_
  intro p e s m below meth c ls CF hr hlk hG hP hE hl
  obtain ⟨hx, hb, hml, hown, hts⟩ := id CF
  have hl : lv_has ls 2 [(0, .ref (adK i)), (1, .int k)] := hl
  refine lv_aload_n hx hb dJ0_charAt_5068e_0 rfl (lv_at hl 0 rfl) ?_
  refine rx_Ti (x := (1 : Int32)) (As := []) (rest := []) CF (c_J0_isLatin1_aae02 l D cI cB cT adK adV i hi) SE.blind hE.atR ok_J0_isLatin1_aae02 wm_447 ⟨rfl, rfl, Nat.le_of_ble_eq_true rfl, Nat.le_of_ble_eq_true rfl⟩ hG wd_E_P (vk_recv hE.1 hi (va_S.rf (A := fun _ => False))) rfl hl.1 rfl (Nat.le_of_ble_eq_true rfl) ⟨Nat.zero_le _, Nat.zero_le _⟩ dJ0_charAt_5068e_1 ?_
  refine lv_if_eq (tgt := 16) hx hb dJ0_charAt_5068e_4 (by decide) (fun c1 => absurd c1 (by decide)) (fun c1 => ?_)
  refine lv_aload_n hx hb dJ0_charAt_5068e_7 rfl (lv_at hl 0 rfl) ?_
  refine vk_getf hx hb (hE.1.1 i hi).2.2.1 (va_S.rf (A := fun _ => False)) hown (hts _ wm_1413) (fun _ h9 => h9) dJ0_charAt_5068e_8 ?_
  refine lv_iload_n hx hb dJ0_charAt_5068e_11 rfl (lv_at hl 1 rfl) ?_
  refine rx_Si (x := (((stB.getD i []).getD k.toNatClampNeg 0) &&& 255)) (As := [.ref (adV i), .int k]) (rest := []) CF (c_J1_charAt_3b067 l D cI cB cT adK adV i hi k hk) SE.blind hE.atR ok_J1_charAt_3b067 wm_451 ⟨rfl, rfl, Nat.le_of_ble_eq_true rfl, Nat.le_of_ble_eq_true rfl⟩ hG wd_E_P rfl hl.1 rfl (Nat.le_of_ble_eq_true rfl) ⟨Nat.zero_le _, Nat.zero_le _⟩ dJ0_charAt_5068e_12 ?_
  exact ro_nret CF hr hlk (sc_nar _) dJ0_charAt_5068e_15
