theorem rr_init : (RR 0 0 0 (fun _ => 0) (fun _ => 0) (fun _ => 0) (fun _ => 0) 0 0 0 0 (fun _ => 0) 0 (fun _ => 0) 0 (fun _ => 0) 0 (fun _ => 0) (fun _ => none) (0 : Int64) (1 : Int64) 0 0 0 (0 : Int32) (0 : Int32) (0 : Int32) (0 : Int32) (((1 : Int32) <<< ((0 : Int32) &&& 31)) - (1 : Int32)) (0 : Int32) (0 : Int32) (0 : Int32) (0 : Int32) (fun _ => 0) (fun _ => 0) (fun _ => 0) (fun _ => 0) (fun _ => 0) 0 (fun _ => 0) 0 (1 : Int64) (fun _ => 0) (fun _ => 0) 0 0 0 (fun _ => 0) (fun _ => 0) (fun _ => 0) (fun _ => 0) 0 0 0 0 (fun _ => 0) 0 (fun _ => 0) 0 (fun _ => 0) 0 0 0 (fun _ => 0) (fun _ => 0) (fun _ => 0) (fun _ => 0) 0 0 0 0 (fun _ => 0) 0 (fun _ => 0) 0 (fun _ => 0)) := by
  refine ⟨?_, ?_, ?_, ⟨rfl, rfl⟩, ⟨rfl, rfl, rfl⟩, ⟨fun _ => rfl, fun a h => by cases h⟩, ⟨fun _ => rfl, fun a h => by cases h⟩⟩
  · refine ⟨0, 0, 0, 0, 0, 0, 0, 0, fun _ => 0, ⟨by decide, rfl, rfl⟩, ⟨⟨fun w h => absurd h (by omega), fun w h => absurd h (by omega), fun w h => absurd h (by omega), fun l _ => rfl, fun v w h => absurd h (by omega)⟩, fun w h => absurd h (by omega)⟩, ⟨by decide, rfl, rfl⟩, ⟨by decide, Or.inr rfl, rfl, rfl⟩, ⟨by decide, rfl, by decide⟩, ⟨gs_0 _ _, rfl, rfl⟩, rfl, ⟨by decide, rfl, rfl, fun k h => absurd h (by omega)⟩, ⟨by decide, rfl, rfl, fun k h => absurd h (by omega)⟩, ⟨by decide, rfl, rfl, fun k h => absurd h (by omega)⟩⟩
  · intro w hw
    exact absurd hw (by rw [show (0 : Int32).toNatClampNeg = 0 from by decide]; omega)
  · exact ⟨0, by decide, rfl, rfl, fun j h => absurd h (by omega)⟩
theorem gd_of {s : State} {b : Nat} (hts : ∀ w ∈ lw_tbl, w.before #[Value.ref b] s = true) : ∃ (D : va_G) (cI cB cT : ClassId), Gd D cI cB cT s := by
  obtain ⟨c0, iS0, hKn0⟩ := u_known (C := RX0) (T := TX0) (N := 2) (n := 2) hts (fun w h => wsAll_sub w (fin_X0 w h)) (hts _ (wsAll_sub _ wm_266))
  obtain ⟨c1, iS1, hKn1⟩ := u_known (C := RX1) (T := TX1) (N := 3) (n := 3) hts (fun w h => wsAll_sub w (fin_X1 w h)) (hts _ (wsAll_sub _ wm_144))
  obtain ⟨c2, iS2, hKn2⟩ := u_known (C := RX4) (T := TX4) (N := 2) (n := 2) hts (fun w h => wsAll_sub w (fin_X4 w h)) (hts _ (wsAll_sub _ wm_219))
  obtain ⟨c3, iS3, hKn3⟩ := u_known (C := RX5) (T := TX5) (N := 2) (n := 2) hts (fun w h => wsAll_sub w (fin_X5 w h)) (hts _ (wsAll_sub _ wm_167))
  obtain ⟨c4, iS4, hKn4⟩ := u_known (C := RX6) (T := TX6) (N := 1) (n := 1) hts (fun w h => wsAll_sub w (fin_X6 w h)) (hts _ (wsAll_sub _ wm_281))
  obtain ⟨c5, iS5, hKn5⟩ := u_known (C := RX7) (T := TX7) (N := 7) (n := 7) hts (fun w h => wsAll_sub w (fin_X7 w h)) (hts _ (wsAll_sub _ wm_112))
  obtain ⟨c6, iS6, hKn6⟩ := u_known (C := RX8) (T := TX8) (N := 6) (n := 6) hts (fun w h => wsAll_sub w (fin_X8 w h)) (hts _ (wsAll_sub _ wm_225))
  obtain ⟨c7, iS7, hKn7⟩ := u_known (C := RX9) (T := TX9) (N := 5) (n := 5) hts (fun w h => wsAll_sub w (fin_X9 w h)) (hts _ (wsAll_sub _ wm_118))
  obtain ⟨c8, iS8, hKn8⟩ := u_known (C := RX10) (T := TX10) (N := 11) (n := 11) hts (fun w h => wsAll_sub w (fin_X10 w h)) (hts _ (wsAll_sub _ wm_104))
  obtain ⟨c9, iS9, hKn9⟩ := u_known (C := RX11) (T := TX11) (N := 29) (n := 29) hts (fun w h => wsAll_sub w (fin_X11 w h)) (hts _ (wsAll_sub _ wm_909))
  obtain ⟨cI, kI, pI, i1, i2, i3⟩ := Cond.arrayClass_spec (hts _ (wsAll_sub _ wm_142))
  obtain ⟨cB, kB, pB, b1, b2, b3⟩ := Cond.arrayClass_spec (hts _ (wsAll_sub _ wm_253))
  have hAO : (Cond.arrayOver (.object RX7)).before #[Value.ref b] s = true := hts _ (by decide +kernel)
  obtain ⟨pT, cT, kT, t1, t2, t3, t4, t5⟩ := Cond.arrayOver_spec hAO
  refine ⟨(fun k => [c0, c1, c2, c3, c4, c5, c6, c7, c8, c9].getD k c0, fun k => [iS0, iS1, iS2, iS3, iS4, iS5, iS6, iS7, iS8, iS9].getD k iS0), cI, cB, cT, ⟨?_, ?_⟩, ?_, va_AO.of hAO⟩
  · intro k q hq
    match k, hq with
    | 0, hq => cases hq; exact hKn0
    | 1, hq => cases hq; exact hKn1
    | 2, hq => cases hq; exact hKn2
    | 3, hq => cases hq; exact hKn3
    | 4, hq => cases hq; exact hKn4
    | 5, hq => cases hq; exact hKn5
    | 6, hq => cases hq; exact hKn6
    | 7, hq => cases hq; exact hKn7
    | 8, hq => cases hq; exact hKn8
    | 9, hq => cases hq; exact hKn9
    | k + 10, hq => simp [vwCl] at hq
  · intro k q hq
    match k, hq with
    | 0, hq => cases hq; exact ⟨fun n z => ⟨fun k h => (by cases h), kI, i2, pI, i3⟩, i1⟩
    | 1, hq => cases hq; exact ⟨fun n z => ⟨fun k h => (by cases h), kB, b2, pB, b3⟩, b1⟩
    | 2, hq => cases hq; exact ⟨fun n z => ⟨fun k h => (by cases h), kT, t3, pT, t4⟩, kT, pT, t3, t4, t1, t5⟩
    | k + 3, hq => simp [tyL] at hq
  · intro t ht
    have hm : ∀ t ∈ nestT, Cond.methodLinkNest t.1 t.2.1 t.2.2.1 t.2.2.2 ∈ lw_tbl := by decide +kernel
    exact va_Nw.of rfl (hts _ (hm t ht))
set_option maxHeartbeats 4000000 in
set_option maxRecDepth 100000 in
theorem se_of {s : State} {b : Nat} (hts : ∀ w ∈ lw_tbl, w.before #[Value.ref b] s = true) (hgv : (Jvm.Cond.and given_1 narrow_1).before #[Value.ref b] s = true) : ∃ adK adV : Nat → Nat, SE adK adV (fun q : Nat => s.heap.size ≤ q) s s.heap := by
  have hs := flat_of_before _ hgv
  have hA : ∀ a : Nat, a < s.heap.size → ¬ (fun q : Nat => s.heap.size ≤ q) a := fun a h => Nat.not_le.mpr h
  obtain ⟨adK, adV, hSt, hev⟩ := vk_Sof (args := #[Value.ref b]) (s := s) (N := 4) (tm := fun i => Term.string "HangedWords$Reader" ([43, 53, 58, 63].getD i 0)) (len := stL) (byt := stB) (A := fun q : Nat => s.heap.size ≤ q) (fun i hi => by rcases (show i = 0 ∨ i = 1 ∨ i = 2 ∨ i = 3 by omega) with rfl | rfl | rfl | rfl <;> decide)
    (fun i hi => by rcases (show i = 0 ∨ i = 1 ∨ i = 2 ∨ i = 3 by omega) with rfl | rfl | rfl | rfl <;> exact hs _ (by decide +kernel))
    (fun i hi => by rcases (show i = 0 ∨ i = 1 ∨ i = 2 ∨ i = 3 by omega) with rfl | rfl | rfl | rfl <;> exact hs _ (by decide +kernel))
    (fun i hi => by rcases (show i = 0 ∨ i = 1 ∨ i = 2 ∨ i = 3 by omega) with rfl | rfl | rfl | rfl <;> exact hs _ (by decide +kernel))
    (fun i hi => by rcases (show i = 0 ∨ i = 1 ∨ i = 2 ∨ i = 3 by omega) with rfl | rfl | rfl | rfl <;> exact hs _ (by decide +kernel))
    (fun i hi j hj => by
      rcases (show i = 0 ∨ i = 1 ∨ i = 2 ∨ i = 3 by omega) with rfl | rfl | rfl | rfl
      · have hj : j < 4 := hj
        rcases (show j = 0 ∨ j = 1 ∨ j = 2 ∨ j = 3 by omega) with rfl | rfl | rfl | rfl <;> exact hs _ (by decide +kernel)
      · have hj : j < 4 := hj
        rcases (show j = 0 ∨ j = 1 ∨ j = 2 ∨ j = 3 by omega) with rfl | rfl | rfl | rfl <;> exact hs _ (by decide +kernel)
      · have hj : j < 6 := hj
        rcases (show j = 0 ∨ j = 1 ∨ j = 2 ∨ j = 3 ∨ j = 4 ∨ j = 5 by omega) with rfl | rfl | rfl | rfl | rfl | rfl <;> exact hs _ (by decide +kernel)
      · have hj : j < 5 := hj
        rcases (show j = 0 ∨ j = 1 ∨ j = 2 ∨ j = 3 ∨ j = 4 by omega) with rfl | rfl | rfl | rfl | rfl <;> exact hs _ (by decide +kernel))
    (fun i j hi hj hij => by
      rcases (show i = 0 ∨ i = 1 ∨ i = 2 ∨ i = 3 by omega) with rfl | rfl | rfl | rfl <;> rcases (show j = 0 ∨ j = 1 ∨ j = 2 ∨ j = 3 by omega) with rfl | rfl | rfl | rfl <;> first | exact absurd rfl hij | exact Or.inl (hs _ (by decide +kernel)) | exact Or.inr (hs _ (by decide +kernel))) hA
  refine ⟨adK, adV, hSt, va_Zof (hts _ (by decide +kernel)) (hts _ (wsAll_sub _ wm_95)) (va_eqt (hs (Cond.eq (.static "java/lang/String" "COMPACT_STRINGS" "Z") (.int 1)) (by decide +kernel))) hA, va_Zqof (hts _ (by decide +kernel)) (hts _ (wsAll_sub _ wm_97)) (hs _ (by decide +kernel)) hA, ?_⟩
  intro t ht
  have h4 : t = (43, "game", 0) ∨ t = (53, "word", 1) ∨ t = (58, "secret", 2) ∨ t = (63, "guess", 3) := by simpa [stT] using ht
  rcases h4 with rfl | rfl | rfl | rfl
  · exact vk_R.of (hts _ (by decide +kernel)) (hev 0 (by decide))
  · exact vk_R.of (hts _ (by decide +kernel)) (hev 1 (by decide))
  · exact vk_R.of (hts _ (by decide +kernel)) (hev 2 (by decide))
  · exact vk_R.of (hts _ (by decide +kernel)) (hev 3 (by decide))
set_option maxHeartbeats 8000000 in
set_option maxRecDepth 100000 in
theorem whole_start {p : Program} {e : Env} {s : State} {m : MethodId} {below : List Frame} {meth : Method} {c : Code} (l : Launch) {b L : Nat} {xs : Nat → Int32} (hL : L ≤ 2560) (C0 : lw_At p s m meth c b L xs) : W p l e room_1 s m #[Value.ref b] below meth c s.heap [] 0 0 (lw_Z below #[Value.ref b] s) (entryFrame m ([Value.ref b] : List Value).toArray 4) := by
  obtain ⟨hx, hb, hr, hml, hown, hts0, hX, hbl, hlocks, hgv⟩ := id C0
  have hts : ∀ w ∈ wsAll, w.before #[Value.ref b] s = true := fun w h => hts0 w (wsAll_sub w h)
  have CF : CallFix p m c cL_law 4 s #[Value.ref b] wsAll R_law := ⟨hx, hb, hml, hown, hts⟩
  obtain ⟨D, cI, cB, cT, hG⟩ := gd_of hts0
  obtain ⟨adK, adV, hE⟩ := se_of hts0 hgv
  have hA : ∀ q : Nat, s.heap.size ≤ q → (fun q : Nat => s.heap.size ≤ q) q := fun _ h => h
  have hS : va_S (fun q : Nat => s.heap.size ≤ q) s.heap s.heap [] := va_S.rf
  have hP : va_P D vwCl [] s.heap := fun k q h => by simp at h
  have hD : va_D (fun q : Nat => s.heap.size ≤ q) [] := ⟨fun i j p q h => by simp at h, fun k q h => by simp at h⟩
  have hl := lv_entry ([.ref b]) (n := 4) (Nat.le_of_ble_eq_true rfl)
  rw [lg_entry_eq]
  generalize (lg_sl ([.ref b]) ++ List.replicate (4 - (lg_sl ([.ref b])).length) Slot.unset).toArray = ls at hl ⊢
  have hl : lv_has ls 4 [(0, .ref b)] := hl
  refine va_new (ci := 8) (fs := [.null, .null, .null, .null, .null, .null, .null, .null, .int 0, .int 0, .int 0]) (C := RX10) (T := TX10) (N := 11) hx hb hts fin_X10 tyX10 tyX10_ok hown (hts _ wm_103) (hts _ wm_104) (hts _ wm_84) hG.1 hP hD hS hA vq_8 (fun j hj => by rcases (show j = 0 ∨ j = 1 ∨ j = 2 ∨ j = 3 ∨ j = 4 ∨ j = 5 ∨ j = 6 ∨ j = 7 ∨ j = 8 ∨ j = 9 ∨ j = 10 by omega) with rfl | rfl | rfl | rfl | rfl | rfl | rfl | rfl | rfl | rfl | rfl <;> rfl) (Nat.le_of_ble_eq_true rfl) (Nat.le_of_ble_eq_true rfl) dL_law_0 (fun qh H hP hD hS => ?_)
  refine W.widen (k := 1) (n := 11) (by decide) (by decide) ?_
  have hP : va_P D vwCl [(qh, .inr (8, [.null, .null, .null, .null, .null, .null, .null, .null, .int 0, .int 0, .int 0]))] H := hP
  have hD : va_D (fun q : Nat => s.heap.size ≤ q) [(qh, .inr (8, [.null, .null, .null, .null, .null, .null, .null, .null, .int 0, .int 0, .int 0]))] := hD
  refine lv_dup hx hb dL_law_3 rfl ?_
  have hPc := hP
  refine nw_I (wc := [(qh, .inr (8, [.null, .null, .null, .null, .null, .null, .null, .null, .int 0, .int 0, .int 0]))]) (wr := []) (As := []) (rest := [.ref qh]) CF (c_X10_init l D cI cB cT H.size qh) oki_X10_init wm_105 ⟨rfl, rfl, Nat.le_of_ble_eq_true rfl, Nat.le_of_ble_eq_true rfl⟩ hG hP hD hS hA [0] [] hPc rfl rfl rfl rfl (by decide) rfl hl.1 rfl (Nat.le_of_ble_eq_true rfl) ⟨Nat.le_of_ble_eq_true rfl, Nat.le_of_ble_eq_true rfl⟩ dL_law_4 (fun ah H locs hP hD hS => ?_)
  refine W.widen (k := 37) (n := 1034) (by decide) (by decide) ?_
  have hP : va_P D vwCl (wd_h qh (ah 0) (ah 1) (ah 2) (ah 3) (ah 4) (ah 5) (ah 6) (ah 7) (ah 8) (ah 9) (ah 10) (ah 11) (ah 12) (ah 13) (ah 14) (ah 15) (ah 16) (ah 17) (ah 18) (ah 19) (ah 20) (ah 21) (ah 22) (ah 23) (ah 24) (ah 25) (ah 26) (ah 27) (ah 28) (ah 29) (ah 30) (ah 31) (ah 32) (ah 33) (ah 34) (ah 35) cI cB cT 0 0 0 0 0 0 (fun _ => 0) (fun _ => 0) (fun _ => 0) (fun _ => 0) 0 0 0 0 (fun _ => 0) 0 (fun _ => 0) 0 (fun _ => 0) (fun _ => none) 0 0 0 0 0 (fun _ => 0) 0 0 0 (fun _ => 0) (fun _ => 0) (fun _ => 0) (fun _ => 0) 0 0 0 0 (fun _ => 0) 0 (fun _ => 0) 0 (fun _ => 0) (0 : Int64) (1 : Int64) (fun _ => 0) 0 0 0 (fun _ => 0) (fun _ => 0)) H := hP
  have hD : va_D (fun q : Nat => s.heap.size ≤ q) (wd_h qh (ah 0) (ah 1) (ah 2) (ah 3) (ah 4) (ah 5) (ah 6) (ah 7) (ah 8) (ah 9) (ah 10) (ah 11) (ah 12) (ah 13) (ah 14) (ah 15) (ah 16) (ah 17) (ah 18) (ah 19) (ah 20) (ah 21) (ah 22) (ah 23) (ah 24) (ah 25) (ah 26) (ah 27) (ah 28) (ah 29) (ah 30) (ah 31) (ah 32) (ah 33) (ah 34) (ah 35) cI cB cT 0 0 0 0 0 0 (fun _ => 0) (fun _ => 0) (fun _ => 0) (fun _ => 0) 0 0 0 0 (fun _ => 0) 0 (fun _ => 0) 0 (fun _ => 0) (fun _ => none) 0 0 0 0 0 (fun _ => 0) 0 0 0 (fun _ => 0) (fun _ => 0) (fun _ => 0) (fun _ => 0) 0 0 0 0 (fun _ => 0) 0 (fun _ => 0) 0 (fun _ => 0) (0 : Int64) (1 : Int64) (fun _ => 0) 0 0 0 (fun _ => 0) (fun _ => 0)) := hD
  refine lv_astore_n (lv' := [(1, .ref qh), (0, .ref b)]) hx hb dL_law_7 rfl hl (by decide) rfl (fun ls hl => ?_)
  refine va_new (ci := 9) (fs := [.null, .int 0, .int 0, .int 0, .int 0, .int 0, .int 0, .int 0, .int 0, .null, .null, .null, .null, .null, .int 0, .int 0, .int 0, .null, .null, .int 0, .null, .null, .int 0, .long 0, .long 0, .null, .null, .null, .null]) (C := RX11) (T := TX11) (N := 29) hx hb hts fin_X11 tyX11 tyX11_ok hown (hts _ wm_908) (hts _ wm_909) (hts _ wm_94) hG.1 hP hD hS hA vq_9 (fun j hj => by rcases (show j = 0 ∨ j = 1 ∨ j = 2 ∨ j = 3 ∨ j = 4 ∨ j = 5 ∨ j = 6 ∨ j = 7 ∨ j = 8 ∨ j = 9 ∨ j = 10 ∨ j = 11 ∨ j = 12 ∨ j = 13 ∨ j = 14 ∨ j = 15 ∨ j = 16 ∨ j = 17 ∨ j = 18 ∨ j = 19 ∨ j = 20 ∨ j = 21 ∨ j = 22 ∨ j = 23 ∨ j = 24 ∨ j = 25 ∨ j = 26 ∨ j = 27 ∨ j = 28 by omega) with rfl | rfl | rfl | rfl | rfl | rfl | rfl | rfl | rfl | rfl | rfl | rfl | rfl | rfl | rfl | rfl | rfl | rfl | rfl | rfl | rfl | rfl | rfl | rfl | rfl | rfl | rfl | rfl | rfl <;> rfl) (Nat.le_of_ble_eq_true rfl) (Nat.le_of_ble_eq_true rfl) dL_law_8 (fun qm H hP hD hS => ?_)
  refine W.widen (k := 38) (n := 1063) (by decide) (by decide) ?_
  refine lv_dup hx hb dL_law_11 rfl ?_
  have hPc : va_P D vwCl [(qm, .inr (9, [.null, .int 0, .int 0, .int 0, .int 0, .int 0, .int 0, .int 0, .int 0, .null, .null, .null, .null, .null, .int 0, .int 0, .int 0, .null, .null, .int 0, .null, .null, .int 0, .long 0, .long 0, .null, .null, .null, .null]))] H := va_P_right hP
  refine nw_I (wc := [(qm, .inr (9, [.null, .int 0, .int 0, .int 0, .int 0, .int 0, .int 0, .int 0, .int 0, .null, .null, .null, .null, .null, .int 0, .int 0, .int 0, .null, .null, .int 0, .null, .null, .int 0, .long 0, .long 0, .null, .null, .null, .null]))]) (wr := (wd_h qh (ah 0) (ah 1) (ah 2) (ah 3) (ah 4) (ah 5) (ah 6) (ah 7) (ah 8) (ah 9) (ah 10) (ah 11) (ah 12) (ah 13) (ah 14) (ah 15) (ah 16) (ah 17) (ah 18) (ah 19) (ah 20) (ah 21) (ah 22) (ah 23) (ah 24) (ah 25) (ah 26) (ah 27) (ah 28) (ah 29) (ah 30) (ah 31) (ah 32) (ah 33) (ah 34) (ah 35) cI cB cT 0 0 0 0 0 0 (fun _ => 0) (fun _ => 0) (fun _ => 0) (fun _ => 0) 0 0 0 0 (fun _ => 0) 0 (fun _ => 0) 0 (fun _ => 0) (fun _ => none) 0 0 0 0 0 (fun _ => 0) 0 0 0 (fun _ => 0) (fun _ => 0) (fun _ => 0) (fun _ => 0) 0 0 0 0 (fun _ => 0) 0 (fun _ => 0) 0 (fun _ => 0) (0 : Int64) (1 : Int64) (fun _ => 0) 0 0 0 (fun _ => 0) (fun _ => 0))) (As := []) (rest := [.ref qm]) CF (c_X11_init l D cI cB cT H.size qm) oki_X11_init wm_910 ⟨rfl, rfl, Nat.le_of_ble_eq_true rfl, Nat.le_of_ble_eq_true rfl⟩ hG hP hD hS hA [37] (List.range 37) hPc rfl hcA hcB (by decide) (by decide) rfl hl.1 rfl (Nat.le_of_ble_eq_true rfl) ⟨Nat.le_of_ble_eq_true rfl, Nat.le_of_ble_eq_true rfl⟩ dL_law_12 (fun am H locs hP hD hS => ?_)
  refine W.widen (k := 52) (n := 1960) (by decide) (by decide) ?_
  refine lv_astore_n (lv' := [(2, .ref qm), (1, .ref qh), (0, .ref b)]) hx hb dL_law_15 rfl hl (by decide) rfl (fun ls hl => ?_)
  refine lv_iconst (v := (0 : Int32)) hx hb dL_law_16 (by decide) ?_
  refine lv_istore_n (lv' := [(3, .int (0 : Int32)), (2, .ref qm), (1, .ref qh), (0, .ref b)]) hx hb dL_law_17 rfl hl (by decide) rfl (fun ls hl => ?_)
  have hP : va_P D vwCl ((wd_h qh (ah 0) (ah 1) (ah 2) (ah 3) (ah 4) (ah 5) (ah 6) (ah 7) (ah 8) (ah 9) (ah 10) (ah 11) (ah 12) (ah 13) (ah 14) (ah 15) (ah 16) (ah 17) (ah 18) (ah 19) (ah 20) (ah 21) (ah 22) (ah 23) (ah 24) (ah 25) (ah 26) (ah 27) (ah 28) (ah 29) (ah 30) (ah 31) (ah 32) (ah 33) (ah 34) (ah 35) cI cB cT 0 0 0 0 0 0 (fun _ => 0) (fun _ => 0) (fun _ => 0) (fun _ => 0) 0 0 0 0 (fun _ => 0) 0 (fun _ => 0) 0 (fun _ => 0) (fun _ => none) 0 0 0 0 0 (fun _ => 0) 0 0 0 (fun _ => 0) (fun _ => 0) (fun _ => 0) (fun _ => 0) 0 0 0 0 (fun _ => 0) 0 (fun _ => 0) 0 (fun _ => 0) (0 : Int64) (1 : Int64) (fun _ => 0) 0 0 0 (fun _ => 0) (fun _ => 0)) ++ ((wd_m qm (am 0) (am 1) (am 2) (am 3) (am 4) (am 5) (am 6) (am 7) (am 8) (am 9) (am 10) (am 11) (am 12) (am 13) cI cB cT (0 : Int32) (0 : Int32) (0 : Int32) (0 : Int32) (((1 : Int32) <<< ((0 : Int32) &&& 31)) - (1 : Int32)) (0 : Int32) (0 : Int32) (0 : Int32) 0 0 0 (0 : Int32) 0 0 (1 : Int64) (fun _ => 0) (fun _ => 0) (fun _ => 0) (fun _ => 0) (fun _ => 0) (fun _ => 0) (fun _ => 0) (fun _ => 0) (fun _ => 0) (fun _ => 0) (fun _ => 0) (fun _ => 0) (fun _ => 0) (fun _ => 0)) ++ ([] ++ []))) H := hP
  have hD : va_D (fun q : Nat => s.heap.size ≤ q) ((wd_h qh (ah 0) (ah 1) (ah 2) (ah 3) (ah 4) (ah 5) (ah 6) (ah 7) (ah 8) (ah 9) (ah 10) (ah 11) (ah 12) (ah 13) (ah 14) (ah 15) (ah 16) (ah 17) (ah 18) (ah 19) (ah 20) (ah 21) (ah 22) (ah 23) (ah 24) (ah 25) (ah 26) (ah 27) (ah 28) (ah 29) (ah 30) (ah 31) (ah 32) (ah 33) (ah 34) (ah 35) cI cB cT 0 0 0 0 0 0 (fun _ => 0) (fun _ => 0) (fun _ => 0) (fun _ => 0) 0 0 0 0 (fun _ => 0) 0 (fun _ => 0) 0 (fun _ => 0) (fun _ => none) 0 0 0 0 0 (fun _ => 0) 0 0 0 (fun _ => 0) (fun _ => 0) (fun _ => 0) (fun _ => 0) 0 0 0 0 (fun _ => 0) 0 (fun _ => 0) 0 (fun _ => 0) (0 : Int64) (1 : Int64) (fun _ => 0) 0 0 0 (fun _ => 0) (fun _ => 0)) ++ ((wd_m qm (am 0) (am 1) (am 2) (am 3) (am 4) (am 5) (am 6) (am 7) (am 8) (am 9) (am 10) (am 11) (am 12) (am 13) cI cB cT (0 : Int32) (0 : Int32) (0 : Int32) (0 : Int32) (((1 : Int32) <<< ((0 : Int32) &&& 31)) - (1 : Int32)) (0 : Int32) (0 : Int32) (0 : Int32) 0 0 0 (0 : Int32) 0 0 (1 : Int64) (fun _ => 0) (fun _ => 0) (fun _ => 0) (fun _ => 0) (fun _ => 0) (fun _ => 0) (fun _ => 0) (fun _ => 0) (fun _ => 0) (fun _ => 0) (fun _ => 0) (fun _ => 0) (fun _ => 0) (fun _ => 0)) ++ ([] ++ []))) := hD
  exact law_loop hL C0 hG hE (L + 1) 0 0 (Nat.zero_le _) (by omega) rfl [] [] H locs rr_init (Or.inl ⟨rfl, rfl⟩) (Or.inl ⟨rfl, rfl⟩) hP hD hS ls (lv_sub hl [3, 2, 1, 0] rfl)
