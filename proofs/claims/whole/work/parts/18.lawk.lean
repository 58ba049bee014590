-- ===== end of PART A; then your names; then what follows =====
/-! THE CLAIM OUT OF ONE WALK OF THE LAW'S BODY. Your part is whole_start (and what it stands on); all else here is the same for every law, but numbers. -/
def R_law : String := "HangedWordsLaw"
def lw_P (b : Addr) (xs : List Int32) (args : Array Value) (s : State) : Prop := args = #[.ref b] ∧ s.IntsAt b xs ∧ xs.length ≤ 2560 ∧ (Jvm.Cond.and given_1 narrow_1).before args s = true
def lw_Q (_ : Array Value) (s : State) (o : Outcome) (t : State) : Prop := o = .returned (some (.int 1)) ∧ Framed s o t [] 600000 7302250
def lw_Z (below : List Frame) (a : Array Value) (s : State) : State → Prop := fun t => ∃ o, t.status = .running ∧ Ended t below o ∧ lw_Q a s o t
/-- the law's own end, with 1 on the stack, nothing written that was there before, its room as the claim has it -/
theorem lw_ret {p : Program} {l : Launch} {e : Env} {s : State} {m : MethodId} {below : List Frame} {meth : Method} {c : Code} {b : Nat} (hx : p.tables.exec = Jvm.exec) (hb : c.code = code) (hr : meth.sig.returnType = ret) (hlocks : meth.locks = false) {pc : Nat} {H : Heap} {ls : Array Slot} (hdg : decode code pc = .ok (.ireturn, 1)) : W p l e room_1 s m #[Value.ref b] below meth c H [] 600000 7302250 (lw_Z below #[Value.ref b] s) (F0 m pc ls [.int 1]) := by
  intro T hT X
  obtain ⟨fs, hret, hrun, hended, hW, hframe⟩ := X.leave (v := some (.int 1)) (hlocks := hlocks) (fun h => by rw [hr] at h; cases h)
  have hmeth' : T.vm.method? m = some meth := X.method'
  refine ⟨T.setFrames fs, ?_, .returned (some (.int 1)), hrun, hended, rfl, ⟨_, rfl⟩, hW, hframe⟩
  jvm_step X.here [X.here.top, hx, hb, hdg, hmeth', hr, ret, narrow_b1]
  (try refine ⟨rfl, ?_⟩); (try refine ⟨rfl, ?_⟩)
  first | (intro acts; rw [hret _ acts rfl rfl rfl]) | rw [hret _ _ rfl rfl rfl]
  exact Steps.refl _
/-- what holds at the law's entry: the machine, the code, the tables' words (any of lw_tbl by 'hts w (by decide +kernel)'), the script of L ints xs at the cell b, what the Statement gives of the start (any of its parts by flat_of_before) -/
def lw_At (p : Program) (s : State) (m : MethodId) (meth : Method) (c : Code) (b L : Nat) (xs : Nat → Int32) : Prop :=
  p.tables.exec = Jvm.exec ∧ c.code = code ∧ meth.sig.returnType = ret ∧ c.maxLocals = 4 ∧ s.vm.findClass R_law = some m.cls ∧ (∀ w ∈ lw_tbl, w.before #[Value.ref b] s = true) ∧ va_X b L xs s s.heap ∧ b < s.heap.size ∧ meth.locks = false ∧ (Jvm.Cond.and given_1 narrow_1).before #[Value.ref b] s = true
/-! worlds side by side -/
theorem va_P_left {D : va_G} {cl : List vw_C} {w1 w2 : va_W} {H : Heap} (h : va_P D cl (w1 ++ w2) H) : va_P D cl w1 H := by
  intro k q hk
  have hl : k < w1.length := (List.getElem?_eq_some_iff.mp hk).1
  exact h k q (by rw [List.getElem?_append_left hl]; exact hk)
theorem va_P_mem {D : va_G} {cl : List vw_C} {ws : va_W} {H : Heap} : va_P D cl ws H ↔ ∀ q ∈ ws, va_at D cl q H := by
  constructor
  · intro h q hq
    obtain ⟨k, hk⟩ := List.mem_iff_getElem?.mp hq
    exact h k q hk
  · intro h k q hk
    exact h q (List.mem_of_getElem? hk)
theorem va_D_nd {A : Nat → Prop} {ws : va_W} : va_D A ws ↔ (ws.map Prod.fst).Nodup ∧ ∀ q ∈ ws, A q.1 := by
  constructor
  · intro h
    refine ⟨?_, fun q hq => ?_⟩
    · refine List.pairwise_iff_getElem.mpr (fun i j hi hj hij he => ?_)
      have hi' : i < ws.length := by simpa using hi
      have hj' : j < ws.length := by simpa using hj
      have e := h.1 i j ws[i] ws[j] (List.getElem?_eq_getElem hi') (List.getElem?_eq_getElem hj') (by simpa using he)
      omega
    · obtain ⟨k, hk⟩ := List.mem_iff_getElem?.mp hq
      exact h.2 k q hk
  · intro h
    refine ⟨fun i j x y hx hy hxy => ?_, fun k q hk => h.2 q (List.mem_of_getElem? hk)⟩
    obtain ⟨hi, ei⟩ := List.getElem?_eq_some_iff.mp hx
    obtain ⟨hj, ej⟩ := List.getElem?_eq_some_iff.mp hy
    have hp := List.pairwise_iff_getElem.mp h.1
    have hi' : i < (ws.map Prod.fst).length := by simpa using hi
    have hj' : j < (ws.map Prod.fst).length := by simpa using hj
    rcases Nat.lt_trichotomy i j with q | q | q
    · exact absurd (by simp [ei, ej, hxy]) (hp i j hi' hj' q)
    · exact q
    · exact absurd (by simp [ei, ej, hxy]) (hp j i hj' hi' q)
theorem va_P_perm {D : va_G} {cl : List vw_C} {ws ws' : va_W} {H : Heap} (hp : ws.Perm ws') (h : va_P D cl ws H) : va_P D cl ws' H := va_P_mem.mpr (fun q hq => va_P_mem.mp h q (hp.mem_iff.mpr hq))
theorem va_D_perm {A : Nat → Prop} {ws ws' : va_W} (hp : ws.Perm ws') (h : va_D A ws) : va_D A ws' := va_D_nd.mpr ⟨(hp.map Prod.fst).nodup_iff.mp (va_D_nd.mp h).1, fun q hq => (va_D_nd.mp h).2 q (hp.mem_iff.mpr hq)⟩
theorem pm_swap {α : Type} (a b c : List α) : (a ++ (b ++ c)).Perm (b ++ (a ++ c)) := by
  rw [← List.append_assoc, ← List.append_assoc]
  exact List.perm_append_comm.append_right c
theorem pm_in {α : Type} (a b c d : List α) : (a ++ (b ++ (c ++ d))).Perm ((a ++ c) ++ (b ++ d)) := by
  rw [List.append_assoc]
  exact List.Perm.append_left a (pm_swap b c d)
theorem pm_in2 {α : Type} (a b c d : List α) : (a ++ (b ++ (c ++ d))).Perm ((a ++ d) ++ (b ++ c)) := by
  rw [List.append_assoc]
  refine List.Perm.append_left a ?_
  rw [← List.append_assoc]
  exact List.perm_append_comm
section LW
variable {p : Program} {l : Launch} {e : Env} {R : Room} {s : State} {m : MethodId} {args : Array Value} {below : List Frame} {meth : Method} {c : Code} {H : Heap} {locs : List Loc} {cells slots : Nat} {Q : State → Prop}
variable {pc : Nat} {ls : Array Slot} {rest st0 : List Value} {a : Array Value} {cc : ByteArray} {nL : Nat} {own : String} {D : va_G} {cI cB cT : ClassId} {A : Nat → Prop} {P P' Rr : va_W} {r : Option Value}
theorem app_free (hD : va_D A (P ++ Rr)) (hS : va_S A s.heap H locs) (hA : ∀ q : Nat, s.heap.size ≤ q → A q) : ∀ q : Nat, va_A P H.size q → A q := by
  intro q hq
  rcases hq with ⟨k, ee, hk⟩ | hq
  · have hl : k < P.length := (List.getElem?_eq_some_iff.mp hk).1
    exact hD.2 k (q, ee) (by rw [List.getElem?_append_left hl]; exact hk)
  · exact hA q (Nat.le_trans hS.1 hq)
theorem app_rest {H1 : Heap} (hP : va_P D vwCl (P ++ Rr) H) (hD : va_D A (P ++ Rr)) (hk : ∀ q : Nat, q < H.size → ¬ va_A P H.size q → H1[q]? = H[q]?) : va_P D vwCl Rr H1 := by
  intro k q hq
  have hr : (P ++ Rr)[P.length + k]? = some q := by
    rw [List.getElem?_append_right (by omega), Nat.add_sub_cancel_left]
    exact hq
  have hlt := (hP _ q hr).lt
  refine (hP _ q hr).kept (hk q.1 hlt (fun hin => ?_))
  rcases hin with ⟨k2, ee, hk2⟩ | hin
  · have hl : k2 < P.length := (List.getElem?_eq_some_iff.mp hk2).1
    have h5 := hD.1 k2 (P.length + k) (q.1, ee) q (by rw [List.getElem?_append_left hl]; exact hk2) hr rfl
    omega
  · omega
theorem wr_app (hr : va_Run p l e R s m args below meth c H locs cells slots 0 0 (F0 m pc ls st0) rest (Qw r D P' (va_A P H.size) a) (va_A P H.size)) (hP : va_P D vwCl (P ++ Rr) H) (hD : va_D A (P ++ Rr)) (hS : va_S A s.heap H locs) (hA : ∀ q : Nat, s.heap.size ≤ q → A q) (hfst : P'.map Prod.fst = P.map Prod.fst)
    (kk : ∀ (H1 : Heap) (locs1 : List Loc), va_P D vwCl (P' ++ Rr) H1 → va_D A (P' ++ Rr) → va_S A s.heap H1 locs1 → W p l e R s m args below meth c H1 locs1 cells slots Q (F0 m (pc + 3) ls (r.toList ++ rest))) : W p l e R s m args below meth c H locs cells slots Q (F0 m pc ls st0) := by
  intro T hT X
  obtain ⟨v, st₀, t, T', L, h0, X', hL, e1, e2, ⟨hv, hP1, hz, hk⟩, st⟩ := hr T hT X
  cases hv
  rw [h0] at hz hk
  have hF := app_free (Rr := Rr) hD hS hA
  obtain ⟨t2, a1, b1⟩ := kk T'.heap (locs ++ L) (va_P.app (by rw [e1]; exact hP1) (app_rest hP hD (fun q h1 h2 => by rw [e1]; exact hk q h1 h2))) (va_D_fst (by rw [List.map_append, List.map_append, hfst]) hD)
    ⟨Nat.le_trans hS.1 (by rw [e1]; exact hz), fun q h1 h2 => by rw [e1, hk q (Nat.lt_of_lt_of_le h1 hS.1) (fun z => h2 (hF q z))]; exact hS.2.1 q h1 h2, fun q hq => by
      rcases List.mem_append.mp hq with h | h
      · exact hS.2.2 q h
      · exact hF _ (hL q h)⟩ T' rfl X'
  exact ⟨t2, st t2 a1, b1⟩
theorem na_app {mc ms : Nat} {Wn : (Nat → Nat) → va_W} (hr : va_Run p l e R s m args below meth c H locs cells slots mc ms (F0 m pc ls st0) rest (Qa r D Wn (va_A P H.size) a) (va_A P H.size)) (hP : va_P D vwCl (P ++ Rr) H) (hD : va_D A (P ++ Rr)) (hS : va_S A s.heap H locs) (hA : ∀ q : Nat, s.heap.size ≤ q → A q)
    (kk : ∀ (ad : Nat → Nat) (H1 : Heap) (locs1 : List Loc), va_P D vwCl (Rr ++ Wn ad) H1 → va_D A (Rr ++ Wn ad) → va_S A s.heap H1 locs1 → W p l e R s m args below meth c H1 locs1 (cells + mc) (slots + ms) Q (F0 m (pc + 3) ls (r.toList ++ rest))) : W p l e R s m args below meth c H locs cells slots Q (F0 m pc ls st0) := by
  intro T hT X
  obtain ⟨v, st₀, t, T', L, h0, X', hL, e1, e2, ⟨hv, ⟨ad, hP1, hD1⟩, hz, hk⟩, st⟩ := hr T hT X
  cases hv
  rw [h0] at hz hk
  have hF := app_free (Rr := Rr) hD hS hA
  have hPr : va_P D vwCl Rr T'.heap := app_rest hP hD (fun q h1 h2 => by rw [e1]; exact hk q h1 h2)
  have hDn : va_D A (Rr ++ Wn ad) := by
    refine va_D.app ?_ (hD1.weaken (fun k q _ h => hF q.1 h)) (fun i j x y hx hy hxy => ?_)
    · refine va_D_nd.mpr ⟨?_, fun q hq => (va_D_nd.mp hD).2 q (List.mem_append_right _ hq)⟩
      have := (va_D_nd.mp hD).1
      rw [List.map_append] at this
      exact (List.nodup_append.mp this).2.1
    · have h2 := hD1.2 j y hy
      rw [← hxy] at h2
      have hr1 : (P ++ Rr)[P.length + i]? = some x := by
        rw [List.getElem?_append_right (by omega), Nat.add_sub_cancel_left]
        exact hx
      rcases h2 with ⟨k2, ee, hk2⟩ | h2
      · have hl : k2 < P.length := (List.getElem?_eq_some_iff.mp hk2).1
        have h5 := hD.1 k2 (P.length + i) (x.1, ee) x (by rw [List.getElem?_append_left hl]; exact hk2) hr1 rfl
        omega
      · have hlt := (hP _ x hr1).lt
        omega
  obtain ⟨t2, a1, b1⟩ := kk ad T'.heap (locs ++ L) (va_P.app hPr (by rw [e1]; exact hP1)) hDn
    ⟨Nat.le_trans hS.1 (by rw [e1]; exact hz), fun q h1 h2 => by rw [e1, hk q (Nat.lt_of_lt_of_le h1 hS.1) (fun z => h2 (hF q z))]; exact hS.2.1 q h1 h2, fun q hq => by
      rcases List.mem_append.mp hq with h | h
      · exact hS.2.2 q h
      · exact hF _ (hL q h)⟩ T' rfl X'
  exact ⟨t2, st t2 a1, b1⟩
variable {y : MethodName} {bytes : ByteArray} {maxL n index : Nat} {ret : Option FieldType} {rm : Room} {C : String} {b : Nat} {As : List Value} {E : State → Prop}
theorem D_left (hD : va_D A (P ++ Rr)) : va_D (fun _ => True) P := by
  refine va_D_nd.mpr ⟨?_, fun _ _ => trivial⟩
  have := (va_D_nd.mp hD).1
  rw [List.map_append] at this
  exact (List.nodup_append.mp this).1
theorem lw_V (CF : CallFix p m c cc nL s args wsAll own) (hM : Met l y (Cond.code y bytes maxL ret :: wsAll) rm (Pwr (.ref b :: As) D cI cB cT P H.size) (Qw r D P' (va_A P H.size)) 0 0 (va_A P H.size)) (ok : okV C y bytes maxL ret n) (lk : Cond.methodLink own index y ∈ wsAll) (hrm : rmOk rm R maxL) (hG : Gd D cI cB cT s) (hP : va_P D vwCl (P ++ Rr) H) (hD : va_D A (P ++ Rr)) (hS : va_S A s.heap H locs) (hA : ∀ q : Nat, s.heap.size ≤ q → A q) (hfst : P'.map Prod.fst = P.map Prod.fst) (q0 ci : Nat) {q : vw_C} {fs : List Value} (hq : vwCl[ci]? = some q) (hqC : q.1 = C) (he : P[q0]? = some (b, .inr (ci, fs))) (hn : As.length = n) (hl : ls.size = nL) (hst : st0 = As.reverse ++ .ref b :: rest) (hrest : (rest.map fun v => v.category).sum ≤ 8) (hcs : cells ≤ R.cells ∧ slots ≤ R.slots) (hdg : decode cc pc = .ok (.invokevirtual index, 3))
    (kk : ∀ (H1 : Heap) (locs1 : List Loc), va_P D vwCl (P' ++ Rr) H1 → va_D A (P' ++ Rr) → va_S A s.heap H1 locs1 → W p l e R s m args below meth c H1 locs1 cells slots Q (F0 m (pc + 3) ls (r.toList ++ rest))) : W p l e R s m args below meth c H locs cells slots Q (F0 m pc ls st0) :=
  wr_app (va_runV CF hM ⟨mkB CF ok.1 ok.2.1 ok.2.2.1 lk hrm, CF.2.2.2.2 _ ok.2.2.2.1, CF.2.2.2.2 _ ok.2.2.2.2⟩ ⟨Pwr_blind, hqC ▸ va_recv hG.1 (va_P_left hP) hq he, fun U hU hW => ⟨rfl, by rw [hU], hG.warm hW, by rw [hU]; exact va_P_left hP, D_left hD⟩⟩ rfl hn hl hst (lv_room hrest) hdg hcs) hP hD hS hA hfst kk
theorem lx_V (CF : CallFix p m c cc nL s args wsAll own) (hM : Met l y (Cond.code y bytes maxL ret :: wsAll) rm (fun a U => Pwr (.ref b :: As) D cI cB cT P H.size a U ∧ E U) (Qw r D P' (va_A P H.size)) 0 0 (va_A P H.size)) (hEb : ∀ (U : State) (g : JFrame) (mk : MethodId) (a : Array Value), E U → E (U.calling g mk a)) (hEw : ∀ U : State, U.heap = H → s.WarmedH U.vm → E U) (ok : okV C y bytes maxL ret n) (lk : Cond.methodLink own index y ∈ wsAll) (hrm : rmOk rm R maxL) (hG : Gd D cI cB cT s) (hP : va_P D vwCl (P ++ Rr) H) (hD : va_D A (P ++ Rr)) (hS : va_S A s.heap H locs) (hA : ∀ q : Nat, s.heap.size ≤ q → A q) (hfst : P'.map Prod.fst = P.map Prod.fst) (q0 ci : Nat) {q : vw_C} {fs : List Value} (hq : vwCl[ci]? = some q) (hqC : q.1 = C) (he : P[q0]? = some (b, .inr (ci, fs))) (hn : As.length = n) (hl : ls.size = nL) (hst : st0 = As.reverse ++ .ref b :: rest) (hrest : (rest.map fun v => v.category).sum ≤ 8) (hcs : cells ≤ R.cells ∧ slots ≤ R.slots) (hdg : decode cc pc = .ok (.invokevirtual index, 3))
    (kk : ∀ (H1 : Heap) (locs1 : List Loc), va_P D vwCl (P' ++ Rr) H1 → va_D A (P' ++ Rr) → va_S A s.heap H1 locs1 → W p l e R s m args below meth c H1 locs1 cells slots Q (F0 m (pc + 3) ls (r.toList ++ rest))) : W p l e R s m args below meth c H locs cells slots Q (F0 m pc ls st0) :=
  wr_app (va_runV CF hM ⟨mkB CF ok.1 ok.2.1 ok.2.2.1 lk hrm, CF.2.2.2.2 _ ok.2.2.2.1, CF.2.2.2.2 _ ok.2.2.2.2⟩ ⟨fun a U g mk q => ⟨Pwr_blind a U g mk q.1, hEb U g mk a q.2⟩, hqC ▸ va_recv hG.1 (va_P_left hP) hq he, fun U hU hW => ⟨⟨rfl, by rw [hU], hG.warm hW, by rw [hU]; exact va_P_left hP, D_left hD⟩, hEw U hU hW⟩⟩ rfl hn hl hst (lv_room hrest) hdg hcs) hP hD hS hA hfst kk
theorem la_V {mc ms : Nat} {Wn : (Nat → Nat) → va_W} (CF : CallFix p m c cc nL s args wsAll own) (hM : Met l y (Cond.code y bytes maxL ret :: wsAll) rm (Pwr (.ref b :: As) D cI cB cT P H.size) (Qa r D Wn (va_A P H.size)) mc ms (va_A P H.size)) (ok : okV C y bytes maxL ret n) (lk : Cond.methodLink own index y ∈ wsAll) (hrm : rmOkN rm R maxL mc ms) (hG : Gd D cI cB cT s) (hP : va_P D vwCl (P ++ Rr) H) (hD : va_D A (P ++ Rr)) (hS : va_S A s.heap H locs) (hA : ∀ q : Nat, s.heap.size ≤ q → A q) (q0 ci : Nat) {q : vw_C} {fs : List Value} (hq : vwCl[ci]? = some q) (hqC : q.1 = C) (he : P[q0]? = some (b, .inr (ci, fs))) (hn : As.length = n) (hl : ls.size = nL) (hst : st0 = As.reverse ++ .ref b :: rest) (hrest : (rest.map fun v => v.category).sum ≤ 8) (hcs : cells + mc ≤ R.cells ∧ slots + ms ≤ R.slots) (hdg : decode cc pc = .ok (.invokevirtual index, 3))
    (kk : ∀ (ad : Nat → Nat) (H1 : Heap) (locs1 : List Loc), va_P D vwCl (Rr ++ Wn ad) H1 → va_D A (Rr ++ Wn ad) → va_S A s.heap H1 locs1 → W p l e R s m args below meth c H1 locs1 (cells + mc) (slots + ms) Q (F0 m (pc + 3) ls (r.toList ++ rest))) : W p l e R s m args below meth c H locs cells slots Q (F0 m pc ls st0) :=
  na_app (va_runV CF hM ⟨callB_of n CF.2.2.2.2 (wsAll_good ok.1) rfl hrm.1 hrm.2.1 (CF.2.2.2.2 _ ok.2.1) (CF.2.2.2.2 _ lk) ok.2.2.1 hrm.2.2, CF.2.2.2.2 _ ok.2.2.2.1, CF.2.2.2.2 _ ok.2.2.2.2⟩ ⟨Pwr_blind, hqC ▸ va_recv hG.1 (va_P_left hP) hq he, fun U hU hW => ⟨rfl, by rw [hU], hG.warm hW, by rw [hU]; exact va_P_left hP, D_left hD⟩⟩ rfl hn hl hst (lv_room hrest) hdg hcs) hP hD hS hA kk
end LW
section LWV
variable {p : Program} {l : Launch} {e : Env} {R : Room} {s : State} {m : MethodId} {args : Array Value} {below : List Frame} {meth : Method} {c : Code} {H : Heap} {locs : List Loc} {cells slots : Nat} {Q : State → Prop}
variable {pc : Nat} {ls : Array Slot} {rest st0 : List Value} {a : Array Value} {cc : ByteArray} {nL : Nat} {own : String} {D : va_G} {cI cB cT : ClassId} {A : Nat → Prop} {P P' Rr : va_W}
variable {y : MethodName} {bytes : ByteArray} {maxL n index : Nat} {ret : Option FieldType} {rm : Room} {C : String} {b : Nat} {As : List Value} {E : State → Prop}
theorem lw_Vi {x : Int32} (CF : CallFix p m c cc nL s args wsAll own) (hM : Met l y (Cond.code y bytes maxL ret :: wsAll) rm (Pwr (.ref b :: As) D cI cB cT P H.size) (Qw (some (.int x)) D P' (va_A P H.size)) 0 0 (va_A P H.size)) (ok : okV C y bytes maxL ret n) (lk : Cond.methodLink own index y ∈ wsAll) (hrm : rmOk rm R maxL) (hG : Gd D cI cB cT s) (hP : va_P D vwCl (P ++ Rr) H) (hD : va_D A (P ++ Rr)) (hS : va_S A s.heap H locs) (hA : ∀ q : Nat, s.heap.size ≤ q → A q) (hfst : P'.map Prod.fst = P.map Prod.fst) (q0 ci : Nat) {q : vw_C} {fs : List Value} (hq : vwCl[ci]? = some q) (hqC : q.1 = C) (he : P[q0]? = some (b, .inr (ci, fs))) (hn : As.length = n) (hl : ls.size = nL) (hst : st0 = As.reverse ++ .ref b :: rest) (hrest : (rest.map fun v => v.category).sum ≤ 8) (hcs : cells ≤ R.cells ∧ slots ≤ R.slots) (hdg : decode cc pc = .ok (.invokevirtual index, 3))
    (kk : ∀ (H1 : Heap) (locs1 : List Loc), va_P D vwCl (P' ++ Rr) H1 → va_D A (P' ++ Rr) → va_S A s.heap H1 locs1 → W p l e R s m args below meth c H1 locs1 cells slots Q (F0 m (pc + 3) ls (.int x :: rest))) : W p l e R s m args below meth c H locs cells slots Q (F0 m pc ls st0) :=
  lw_V (r := (some (.int x))) CF hM ok lk hrm hG hP hD hS hA hfst q0 ci hq hqC he hn hl hst hrest hcs hdg kk
theorem lw_Vl {x : Int64} (CF : CallFix p m c cc nL s args wsAll own) (hM : Met l y (Cond.code y bytes maxL ret :: wsAll) rm (Pwr (.ref b :: As) D cI cB cT P H.size) (Qw (some (.long x)) D P' (va_A P H.size)) 0 0 (va_A P H.size)) (ok : okV C y bytes maxL ret n) (lk : Cond.methodLink own index y ∈ wsAll) (hrm : rmOk rm R maxL) (hG : Gd D cI cB cT s) (hP : va_P D vwCl (P ++ Rr) H) (hD : va_D A (P ++ Rr)) (hS : va_S A s.heap H locs) (hA : ∀ q : Nat, s.heap.size ≤ q → A q) (hfst : P'.map Prod.fst = P.map Prod.fst) (q0 ci : Nat) {q : vw_C} {fs : List Value} (hq : vwCl[ci]? = some q) (hqC : q.1 = C) (he : P[q0]? = some (b, .inr (ci, fs))) (hn : As.length = n) (hl : ls.size = nL) (hst : st0 = As.reverse ++ .ref b :: rest) (hrest : (rest.map fun v => v.category).sum ≤ 8) (hcs : cells ≤ R.cells ∧ slots ≤ R.slots) (hdg : decode cc pc = .ok (.invokevirtual index, 3))
    (kk : ∀ (H1 : Heap) (locs1 : List Loc), va_P D vwCl (P' ++ Rr) H1 → va_D A (P' ++ Rr) → va_S A s.heap H1 locs1 → W p l e R s m args below meth c H1 locs1 cells slots Q (F0 m (pc + 3) ls (.long x :: rest))) : W p l e R s m args below meth c H locs cells slots Q (F0 m pc ls st0) :=
  lw_V (r := (some (.long x))) CF hM ok lk hrm hG hP hD hS hA hfst q0 ci hq hqC he hn hl hst hrest hcs hdg kk
theorem lx_Vi {x : Int32} (CF : CallFix p m c cc nL s args wsAll own) (hM : Met l y (Cond.code y bytes maxL ret :: wsAll) rm (fun a U => Pwr (.ref b :: As) D cI cB cT P H.size a U ∧ E U) (Qw (some (.int x)) D P' (va_A P H.size)) 0 0 (va_A P H.size)) (hEb : ∀ (U : State) (g : JFrame) (mk : MethodId) (a : Array Value), E U → E (U.calling g mk a)) (hEw : ∀ U : State, U.heap = H → s.WarmedH U.vm → E U) (ok : okV C y bytes maxL ret n) (lk : Cond.methodLink own index y ∈ wsAll) (hrm : rmOk rm R maxL) (hG : Gd D cI cB cT s) (hP : va_P D vwCl (P ++ Rr) H) (hD : va_D A (P ++ Rr)) (hS : va_S A s.heap H locs) (hA : ∀ q : Nat, s.heap.size ≤ q → A q) (hfst : P'.map Prod.fst = P.map Prod.fst) (q0 ci : Nat) {q : vw_C} {fs : List Value} (hq : vwCl[ci]? = some q) (hqC : q.1 = C) (he : P[q0]? = some (b, .inr (ci, fs))) (hn : As.length = n) (hl : ls.size = nL) (hst : st0 = As.reverse ++ .ref b :: rest) (hrest : (rest.map fun v => v.category).sum ≤ 8) (hcs : cells ≤ R.cells ∧ slots ≤ R.slots) (hdg : decode cc pc = .ok (.invokevirtual index, 3))
    (kk : ∀ (H1 : Heap) (locs1 : List Loc), va_P D vwCl (P' ++ Rr) H1 → va_D A (P' ++ Rr) → va_S A s.heap H1 locs1 → W p l e R s m args below meth c H1 locs1 cells slots Q (F0 m (pc + 3) ls (.int x :: rest))) : W p l e R s m args below meth c H locs cells slots Q (F0 m pc ls st0) :=
  lx_V (r := (some (.int x))) CF hM hEb hEw ok lk hrm hG hP hD hS hA hfst q0 ci hq hqC he hn hl hst hrest hcs hdg kk
theorem la_Vi {x : Int32} {mc ms : Nat} {Wn : (Nat → Nat) → va_W} (CF : CallFix p m c cc nL s args wsAll own) (hM : Met l y (Cond.code y bytes maxL ret :: wsAll) rm (Pwr (.ref b :: As) D cI cB cT P H.size) (Qa (some (.int x)) D Wn (va_A P H.size)) mc ms (va_A P H.size)) (ok : okV C y bytes maxL ret n) (lk : Cond.methodLink own index y ∈ wsAll) (hrm : rmOkN rm R maxL mc ms) (hG : Gd D cI cB cT s) (hP : va_P D vwCl (P ++ Rr) H) (hD : va_D A (P ++ Rr)) (hS : va_S A s.heap H locs) (hA : ∀ q : Nat, s.heap.size ≤ q → A q) (q0 ci : Nat) {q : vw_C} {fs : List Value} (hq : vwCl[ci]? = some q) (hqC : q.1 = C) (he : P[q0]? = some (b, .inr (ci, fs))) (hn : As.length = n) (hl : ls.size = nL) (hst : st0 = As.reverse ++ .ref b :: rest) (hrest : (rest.map fun v => v.category).sum ≤ 8) (hcs : cells + mc ≤ R.cells ∧ slots + ms ≤ R.slots) (hdg : decode cc pc = .ok (.invokevirtual index, 3))
    (kk : ∀ (ad : Nat → Nat) (H1 : Heap) (locs1 : List Loc), va_P D vwCl (Rr ++ Wn ad) H1 → va_D A (Rr ++ Wn ad) → va_S A s.heap H1 locs1 → W p l e R s m args below meth c H1 locs1 (cells + mc) (slots + ms) Q (F0 m (pc + 3) ls (.int x :: rest))) : W p l e R s m args below meth c H locs cells slots Q (F0 m pc ls st0) :=
  la_V (r := (some (.int x))) CF hM ok lk hrm hG hP hD hS hA q0 ci hq hqC he hn hl hst hrest hcs hdg kk
end LWV
theorem lcmp_eq {x y : Int64} (h : x = y) : lg_cmp x y = 0 := by subst h; simp [lg_cmp]
