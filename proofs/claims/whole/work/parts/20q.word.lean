/-! the digest; a word that comes -/
def hsN (f : Nat → Int32) (h : Int64) : Nat → Int64
  | 0 => h
  | t + 1 => (31 : Int64) * hsN f h t + (f t).toInt64
theorem hsN_cong {f g : Nat → Int32} {h : Int64} : ∀ {n : Nat}, (∀ k, k < n → f k = g k) → hsN f h n = hsN g h n
  | 0, _ => rfl
  | n + 1, e => by
    show (31 : Int64) * hsN f h n + (f n).toInt64 = (31 : Int64) * hsN g h n + (g n).toInt64
    rw [hsN_cong (fun k hk => e k (by omega)), e n (by omega)]
theorem digestOn_eq {C m : Nat} {f : Nat → Int32} {h : Int64} (hC : 0 < C) (hC4 : C ≤ 4) (hm : m ≤ 6) : f_X5_digestOn 24 (nI m) f h (nI C) = some (hsN (fun t => f (4 * (t / C) + t % C)) h (C * m)) := by
  unfold f_X5_digestOn
  refine b_some (lp_run (o := hsN (fun t => f (4 * (t / C) + t % C)) h (C * m)) (fun k => (hsN (fun t => f (4 * (t / C) + t % C)) h (C * k), nI k)) m rfl (by omega) (fun k hk => ?_) ?_) rfl
  · show B_X5_digestOn_6 24 (nI m) f (nI C) (hsN (fun t => f (4 * (t / C) + t % C)) h (C * k)) (nI k) = some (.inl (hsN (fun t => f (4 * (t / C) + t % C)) h (C * k + C), nI (k + 1)))
    unfold B_X5_digestOn_6
    rw [nI_1]
    refine ino (nI_ge hk (by omega)) (b_some (lp_run (o := hsN (fun t => f (4 * (t / C) + t % C)) h (C * k + C)) (fun c => (hsN (fun t => f (4 * (t / C) + t % C)) h (C * k + c), nI c)) C rfl (by omega) (fun c hc => ?_) ?_) rfl)
    · show B_X5_digestOn_18 24 f (nI C) (nI k) (hsN (fun t => f (4 * (t / C) + t % C)) h (C * k + c)) (nI c) = some (.inl ((31 : Int64) * hsN (fun t => f (4 * (t / C) + t % C)) h (C * k + c) + (f (4 * ((C * k + c) / C) + (C * k + c) % C)).toInt64, nI (c + 1)))
      unfold B_X5_digestOn_18
      rw [nI_1, Nat.mul_add_div hC, Nat.div_eq_of_lt hc, Nat.mul_add_mod, Nat.mod_eq_of_lt hc, Nat.add_zero]
      exact ino (nI_ge hc (by omega)) (b_some (cell_eq (by decide) (by omega)) rfl)
    · show B_X5_digestOn_18 24 f (nI C) (nI k) (hsN (fun t => f (4 * (t / C) + t % C)) h (C * k + C)) (nI C) = _
      unfold B_X5_digestOn_18
      exact ip (nI_le (Nat.le_refl C) (by omega)) rfl
  · show B_X5_digestOn_6 24 (nI m) f (nI C) (hsN (fun t => f (4 * (t / C) + t % C)) h (C * m)) (nI m) = _
    unfold B_X5_digestOn_6
    exact ip (nI_le (Nat.le_refl m) (by omega)) rfl
theorem dg87 {m : Nat} {f : Nat → Int32} {h : Int64} (hm : m ≤ 6) : lp (fun v => B_X11_digest_87 (nI m) f v.1 v.2) KN (h, (0 : Int32)) = some (hsN f h (4 * m)) := by
  refine lp_run (fun k => (hsN f h k, nI k)) (4 * m) rfl (by omega) (fun k hk => ?_) ?_
  · show B_X11_digest_87 (nI m) f (hsN f h k) (nI k) = some (.inl ((31 : Int64) * hsN f h k + (f k).toInt64, nI (k + 1)))
    unfold B_X11_digest_87
    rw [mul4, nI_1]
    refine ino (nI_ge hk (by omega)) (ino (vp_in_nI (by omega) (by decide)) ?_)
    rw [nI_clamp (by omega)]
  · show B_X11_digest_87 (nI m) f (hsN f h (4 * m)) (nI (4 * m)) = _
    unfold B_X11_digest_87
    rw [mul4]
    exact ip (nI_le (Nat.le_refl _) (by omega)) rfl
theorem dg119 {m : Nat} {f : Nat → Int32} {h : Int64} (hm : m ≤ 6) : lp (fun v => B_X11_digest_119 (nI m) f v.1 v.2) KN (h, (0 : Int32)) = some (hsN f h (3 * m)) := by
  refine lp_run (fun k => (hsN f h k, nI k)) (3 * m) rfl (by omega) (fun k hk => ?_) ?_
  · show B_X11_digest_119 (nI m) f (hsN f h k) (nI k) = some (.inl ((31 : Int64) * hsN f h k + (f k).toInt64, nI (k + 1)))
    unfold B_X11_digest_119
    rw [mul3, nI_1]
    refine ino (nI_ge hk (by omega)) (ino (vp_in_nI (by omega) (by decide)) ?_)
    rw [nI_clamp (by omega)]
  · show B_X11_digest_119 (nI m) f (hsN f h (3 * m)) (nI (3 * m)) = _
    unfold B_X11_digest_119
    rw [mul3]
    exact ip (nI_le (Nat.le_refl _) (by omega)) rfl
theorem dg33c {n : Nat} {f : Nat → Int32} {h : Int64} (hn : n ≤ 8) : lp (fun v => B_X10_digest_33 (nI n) f v.1 v.2) KN (h, (0 : Int32)) = some (hsN f h n) := by
  refine lp_run (fun k => (hsN f h k, nI k)) n rfl (by omega) (fun k hk => ?_) ?_
  · show B_X10_digest_33 (nI n) f (hsN f h k) (nI k) = some (.inl ((31 : Int64) * hsN f h k + (f k).toInt64, nI (k + 1)))
    unfold B_X10_digest_33
    rw [nI_1]
    exact ino (nI_ge hk (by omega)) (b_some (codeOf_eq hn hk) rfl)
  · show B_X10_digest_33 (nI n) f (hsN f h n) (nI n) = _
    unfold B_X10_digest_33
    exact ip (nI_le (Nat.le_refl _) (by omega)) rfl
theorem dg33m {n : Nat} {f : Nat → Int32} {h : Int64} (hn : n ≤ 8) : lp (fun v => B_X11_digest_33 (nI n) f v.1 v.2) KN (h, (0 : Int32)) = some (hsN f h n) := by
  refine lp_run (fun k => (hsN f h k, nI k)) n rfl (by omega) (fun k hk => ?_) ?_
  · show B_X11_digest_33 (nI n) f (hsN f h k) (nI k) = some (.inl ((31 : Int64) * hsN f h k + (f k).toInt64, nI (k + 1)))
    unfold B_X11_digest_33
    rw [nI_1]
    refine ino (nI_ge hk (by omega)) (ino (vp_in_nI (by omega) (by decide)) ?_)
    rw [nI_clamp (by omega)]
  · show B_X11_digest_33 (nI n) f (hsN f h n) (nI n) = _
    unfold B_X11_digest_33
    exact ip (nI_le (Nat.le_refl _) (by omega)) rfl
/-- a code that is there, or not, on both sides -/
theorem there_eq {n c : Nat} {cd : Nat → Nat} {codes mcodes : Nat → Int32} (hn : n ≤ 8) (hc : c < 10000) (h4 : ∀ w, w < n → cd w < 10000) (h1 : ∀ w, w < n → codes w = nI (cd w)) (h2 : ∀ w, w < n → mcodes w = nI (cd w)) : (f_X9_numberOf (nI n) codes (nI c) = some (-1) ∧ f_X11_isThere (nI n) mcodes (nI c) = some 0 ∧ ∀ w, w < n → cd w ≠ c) ∨ (∃ r, f_X9_numberOf (nI n) codes (nI c) = some r ∧ r ≠ -1 ∧ f_X11_isThere (nI n) mcodes (nI c) = some 1) := by
  have C : ∃ r, f_X9_numberOf (nI n) codes (nI c) = some r ∧ ((r = -1 ∧ ∀ w, w < n → cd w ≠ c) ∨ (r ≠ -1 ∧ ∃ w, w < n ∧ cd w = c)) := by
    unfold f_X9_numberOf
    refine b_ex (lp_inv (fun i v => v = nI i ∧ ∀ w, w < i → cd w ≠ c) (fun o => (o.1 = 1 ∧ ∀ w, w < n → cd w ≠ c) ∨ (o.1 = 0 ∧ o.2 ≠ -1 ∧ ∃ w, w < n ∧ cd w = c)) n (by omega) ⟨rfl, fun w hw => absurd hw (by omega)⟩ (fun i v hi hv => ?_) (fun v hv => ?_)) (fun o q => ?_)
    · obtain ⟨rfl, hv⟩ := hv
      show (∃ u, B_X9_numberOf_2 (nI n) codes (nI c) (nI i) = some (.inl u) ∧ _) ∨ (∃ o, B_X9_numberOf_2 (nI n) codes (nI c) (nI i) = some (.inr o) ∧ _)
      unfold B_X9_numberOf_2
      have := h4 i hi
      rw [if_neg (nI_ge hi (by omega)), if_neg (show ¬ oob (nI i) 8 from vp_in_nI (by omega) (by decide)), nI_clamp (by omega), h1 i hi, nI_1]
      by_cases e : cd i = c
      · exact Or.inr ⟨_, ip (by rw [e]) rfl, Or.inr ⟨rfl, m1_ne i (by omega), i, hi, e⟩⟩
      · refine Or.inl ⟨_, ino (fun q => e ((nI_eq (by omega) (by omega)).mp q)) rfl, rfl, fun w hw => ?_⟩
        by_cases x : w = i
        · subst x; exact e
        · exact hv w (by omega)
    · obtain ⟨rfl, hv⟩ := hv
      exact ⟨_, ip (nI_le (Nat.le_refl n) (by omega)) rfl, Or.inl ⟨rfl, hv⟩⟩
    · rcases q with ⟨q, k⟩ | ⟨q, k, x⟩
      · exact ⟨_, ino (by rw [q]; decide) rfl, Or.inl ⟨rfl, k⟩⟩
      · exact ⟨_, ip q rfl, Or.inr ⟨k, x⟩⟩
  have M : ∃ r, f_X11_isThere (nI n) mcodes (nI c) = some r ∧ ((r = 0 ∧ ∀ w, w < n → cd w ≠ c) ∨ (r = 1 ∧ ∃ w, w < n ∧ cd w = c)) := by
    unfold f_X11_isThere
    refine b_ex (lp_inv (fun i v => ∃ r, v = (r, nI i) ∧ ((r = 0 ∧ ∀ w, w < i → cd w ≠ c) ∨ (r = 1 ∧ ∃ w, w < i ∧ cd w = c))) (fun o => (o = 0 ∧ ∀ w, w < n → cd w ≠ c) ∨ (o = 1 ∧ ∃ w, w < n ∧ cd w = c)) n (by omega) ⟨0, rfl, Or.inl ⟨rfl, fun w hw => absurd hw (by omega)⟩⟩ (fun i v hi hv => ?_) (fun v hv => ?_)) (fun o q => ?_)
    · obtain ⟨r, rfl, hv⟩ := hv
      refine Or.inl ?_
      show ∃ u, B_X11_isThere_4 (nI n) mcodes (nI c) r (nI i) = some (.inl u) ∧ _
      unfold B_X11_isThere_4
      have := h4 i hi
      rw [if_neg (nI_ge hi (by omega)), if_neg (show ¬ oob (nI i) 8 from vp_in_nI (by omega) (by decide)), nI_clamp (by omega), h2 i hi, nI_1]
      rcases hv with ⟨rfl, hv⟩ | ⟨rfl, w, hw, hv⟩
      · by_cases e : cd i = c
        · exact ⟨_, ip rfl (ip (by rw [e]) rfl), 1, rfl, Or.inr ⟨rfl, i, by omega, e⟩⟩
        · refine ⟨_, ip rfl (ino (fun q => e ((nI_eq (by omega) (by omega)).mp q)) rfl), 0, rfl, Or.inl ⟨rfl, fun w hw => ?_⟩⟩
          by_cases x : w = i
          · subst x; exact e
          · exact hv w (by omega)
      · exact ⟨_, ino i10 rfl, 1, rfl, Or.inr ⟨rfl, w, by omega, hv⟩⟩
    · obtain ⟨r, rfl, hv⟩ := hv
      exact ⟨_, ip (nI_le (Nat.le_refl n) (by omega)) rfl, hv⟩
    · rcases q with ⟨rfl, q⟩ | ⟨rfl, q⟩
      · exact ⟨_, ip (Or.inl rfl) rfl, Or.inl ⟨rfl, q⟩⟩
      · exact ⟨_, ip (Or.inr rfl) rfl, Or.inr ⟨rfl, q⟩⟩
  obtain ⟨r, e1, q1⟩ := C
  obtain ⟨s, e2, q2⟩ := M
  rcases q1 with ⟨rfl, q1⟩ | ⟨q1, k, hk, q3⟩ <;> rcases q2 with ⟨rfl, q2⟩ | ⟨rfl, x, hx, q2⟩
  · exact Or.inl ⟨e1, e2, q1⟩
  · exact absurd q2 (q1 x hx)
  · exact absurd q3 (q2 k hk)
  · exact Or.inr ⟨r, e1, q1, e2⟩
/-- the mask of a letter, place by place from behind -/
def mkBk (c l : Nat) : Nat → Nat
  | 0 => 0
  | i + 1 => mkBk c l i ||| (if c / 10 ^ i % 10 = l then 2 ^ (3 - i) else 0)
theorem mkBk_eq (c l : Nat) : mkBk c l 4 = mkm c l := by
  show (((0 ||| (if c / 10 ^ 0 % 10 = l then 2 ^ 3 else 0)) ||| (if c / 10 ^ 1 % 10 = l then 2 ^ 2 else 0)) ||| (if c / 10 ^ 2 % 10 = l then 2 ^ 1 else 0)) ||| (if c / 10 ^ 3 % 10 = l then 2 ^ 0 else 0) = _
  unfold mkm
  rw [show 10 ^ 0 = 1 from rfl, show 10 ^ 1 = 10 from rfl, show 10 ^ 2 = 100 from rfl, show 10 ^ 3 = 1000 from rfl, Nat.div_one]
  split <;> split <;> split <;> split <;> rfl
theorem dn4 : ∀ i : Fin 4, nI (3 - i.val) + (-1 : Int32) = (if i.val = 3 then (-1 : Int32) else nI (3 - (i.val + 1))) := by decide
theorem reckonMask_eq {c l : Nat} (hc : c < 10000) (hl : l < 10) : f_X9_reckonMask (nI c) (nI l) = some (nI (mkm c l)) := by
  unfold f_X9_reckonMask
  rw [← mkBk_eq]
  refine b_some (lp_run (o := nI (mkBk c l 4)) (fun i => (nI (mkBk c l i), nI (c / 10 ^ i), (if i = 4 then (-1 : Int32) else nI (3 - i)))) 4 ?_ (by decide) (fun i hi => ?_) ?_) rfl
  · show ((0 : Int32), nI c, (3 : Int32)) = (nI 0, nI (c / 1), nI 3)
    rw [Nat.div_one]
    rfl
  · show B_X9_reckonMask_7 (nI l) (nI (mkBk c l i)) (nI (c / 10 ^ i)) (if i = 4 then (-1 : Int32) else nI (3 - i)) = some (.inl (nI (mkBk c l i ||| (if c / 10 ^ i % 10 = l then 2 ^ (3 - i) else 0)), nI (c / 10 ^ (i + 1)), (if i + 1 = 4 then (-1 : Int32) else nI (3 - (i + 1)))))
    have hd : c / 10 ^ i < 10000 := Nat.lt_of_le_of_lt (Nat.div_le_self _ _) hc
    have e1 : nI (c / 10 ^ i) / (10 : Int32) = nI (c / 10 ^ (i + 1)) := by
      rw [show (10 : Int32) = nI 10 from rfl, pk_div (by omega) (by decide) (by decide), Nat.div_div_eq_div_mul, ← Nat.pow_succ]
    have e2 : nI (c / 10 ^ i) - nI (c / 10 ^ i) / (10 : Int32) * (10 : Int32) = nI (c / 10 ^ i % 10) := pk_rem (d := 10) (by omega) (by decide) (by decide)
    have e3 : nI (3 - i) + (-1 : Int32) = (if i + 1 = 4 then (-1 : Int32) else nI (3 - (i + 1))) := by
      have d := dn4 ⟨i, hi⟩
      dsimp only at d
      rw [d]
      by_cases z : i = 3
      · subst z; rfl
      · rw [if_neg z, if_neg (by omega)]
    unfold B_X9_reckonMask_7
    rw [if_neg (show ¬ i = 4 by omega), e2, e1, e3, shl1 (3 - i) (by omega), fa_or]
    have := Nat.mod_lt (c / 10 ^ i) (show 10 > 0 by decide)
    refine ino (nI_pos (by omega)) ?_
    by_cases e : c / 10 ^ i % 10 = l
    · rw [if_pos e]
      exact ip (by rw [e]) rfl
    · rw [if_neg e, Nat.or_zero]
      exact ino (fun q => e ((nI_eq (by omega) (by omega)).mp q)) rfl
  · exact ip (show (-1 : Int32) < 0 from by decide) rfl
theorem ix10 (w l : Nat) : nI w * (10 : Int32) + nI l = nI (w * 10 + l) := by rw [show (10 : Int32) = nI 10 from rfl, pk_mul, nI_add]
theorem ix10b (w l : Nat) : (10 : Int32) * nI w + nI l = nI (10 * w + l) := by rw [show (10 : Int32) = nI 10 from rfl, pk_mul, nI_add]
/-- one letter of a word that comes -/
theorem reckonLetter_eq {n l c : Nat} {cd a : Nat → Nat} {codes masks alike havers : Nat → Int32} (hn : n < 8) (hl : l < 10) (hc : c < 10000) (hcd : codes n = nI c) (hm : ∀ w, w < n → masks (w * 10 + l) = nI (mkm (cd w) l)) (ha : ∀ w, w < n → alike (w * 10 + l) = nI (a w)) : ∃ al2, f_X9_reckonLetter codes masks alike havers (nI n) (nI l) = some (upd masks (n * 10 + l) (nI (mkm c l)), al2, (if mkm c l = 0 then havers else upd havers l (havers l ||| nI (2 ^ n)))) ∧ (∀ t, t % 10 ≠ l → al2 t = alike t) ∧ (∀ w, w < n → al2 (w * 10 + l) = nI (a w ||| (if mkm (cd w) l = mkm c l then 2 ^ n else 0))) ∧ al2 (n * 10 + l) = nI (sN (fun v => mkm (cd v) l == mkm c l) n ||| 2 ^ n) := by
  have m16 := mkm_lt c l
  have J : ∀ hv, ∃ al2, J_X9_reckonLetter_39 (upd masks (n * 10 + l) (nI (mkm c l))) alike hv (nI n) (nI l) (nI (mkm c l)) = some (upd masks (n * 10 + l) (nI (mkm c l)), al2, hv) ∧ (∀ t, t % 10 ≠ l → al2 t = alike t) ∧ (∀ w, w < n → al2 (w * 10 + l) = nI (a w ||| (if mkm (cd w) l = mkm c l then 2 ^ n else 0))) ∧ al2 (n * 10 + l) = nI (sN (fun v => mkm (cd v) l == mkm c l) n ||| 2 ^ n) := by
    intro hv
    have L : ∃ o, lp (fun v => B_X9_reckonLetter_47 (upd masks (n * 10 + l) (nI (mkm c l))) (nI n) (nI l) (nI (mkm c l)) v.1 v.2.1 v.2.2) KN (((1 : Int32) <<< (nI n &&& 31)), (0 : Int32), alike) = some o ∧ (o.1 = nI (sN (fun v => mkm (cd v) l == mkm c l) n ||| 2 ^ n) ∧ (∀ t, t % 10 ≠ l → o.2 t = alike t) ∧ (∀ w, w < n → o.2 (w * 10 + l) = nI (a w ||| (if mkm (cd w) l = mkm c l then 2 ^ n else 0)))) := by
      refine lp_inv (fun i v => ∃ al, v = (nI (sN (fun v => mkm (cd v) l == mkm c l) i ||| 2 ^ n), nI i, al) ∧ (∀ t, t % 10 ≠ l → al t = alike t) ∧ (∀ w, w < i → al (w * 10 + l) = nI (a w ||| (if mkm (cd w) l = mkm c l then 2 ^ n else 0))) ∧ (∀ w, i ≤ w → w < n → al (w * 10 + l) = nI (a w))) _ n (by omega) ⟨alike, ?_, fun t _ => rfl, fun w hw => absurd hw (by omega), fun w _ hw => ha w hw⟩ (fun i v hi hv => ?_) (fun v hv => ?_)
      · rw [shl1 n (by omega)]
        show _ = (nI (0 ||| 2 ^ n), nI 0, alike)
        rw [Nat.zero_or]
        rfl
      · obtain ⟨al, rfl, q1, q2, q3⟩ := hv
        refine Or.inl ?_
        show ∃ u, B_X9_reckonLetter_47 (upd masks (n * 10 + l) (nI (mkm c l))) (nI n) (nI l) (nI (mkm c l)) (nI (sN (fun v => mkm (cd v) l == mkm c l) i ||| 2 ^ n)) (nI i) al = some (.inl u) ∧ _
        unfold B_X9_reckonLetter_47
        have o1 : ¬ oob (nI (i * 10 + l)) 80 := vp_in_nI (by omega) (by decide)
        have mi := mkm_lt (cd i) l
        rw [ix10, if_neg (nI_ge hi (by omega)), if_neg o1, if_neg o1, if_neg o1, nI_clamp (by omega), pk_un (show i * 10 + l ≠ n * 10 + l by omega), hm i hi, nI_1, shl1 n (by omega), shl1 i (by omega), q3 i (Nat.le_refl _) hi, fa_or, fa_or]
        have so : sN (fun v => mkm (cd v) l == mkm c l) (i + 1) = sN (fun v => mkm (cd v) l == mkm c l) i ||| (if (mkm (cd i) l == mkm c l) then 2 ^ i else 0) := sN_or _ i
        by_cases e : mkm (cd i) l = mkm c l
        · refine ⟨_, ip (by rw [e]) rfl, upd al (i * 10 + l) (nI (a i ||| 2 ^ n)), ?_, fun t ht => ?_, fun w hw => ?_, fun w h1 h2 => ?_⟩
          · rw [so, e, beq_self_eq_true, if_pos rfl]
            rw [Nat.or_assoc, Nat.or_comm (2 ^ n), ← Nat.or_assoc]
          · rw [pk_un (fun z => ht (by omega))]
            exact q1 t ht
          · by_cases z : w = i
            · subst z
              rw [pk_us, if_pos e]
            · rw [pk_un (by omega)]
              exact q2 w (by omega)
          · rw [pk_un (by omega)]
            exact q3 w (by omega) h2
        · refine ⟨_, ino (fun q => e ((nI_eq (by omega) (by omega)).mp q)) rfl, al, ?_, q1, fun w hw => ?_, fun w h1 h2 => q3 w (by omega) h2⟩
          · have : (mkm (cd i) l == mkm c l) = false := by simpa using e
            rw [so, this]
            simp
          · by_cases z : w = i
            · subst z
              rw [if_neg e, Nat.or_zero]
              exact q3 w (Nat.le_refl _) hi
            · exact q2 w (by omega)
      · obtain ⟨al, rfl, q1, q2, q3⟩ := hv
        exact ⟨_, ip (nI_le (Nat.le_refl n) (by omega)) rfl, rfl, q1, q2⟩
    obtain ⟨o, e, q0, q1, q2⟩ := L
    refine ⟨upd o.2 (n * 10 + l) o.1, ?_, fun t ht => ?_, fun w hw => ?_, ?_⟩
    · unfold J_X9_reckonLetter_39
      refine b_some e ?_
      rw [ix10]
      refine ino (vp_in_nI (by omega) (by decide)) ?_
      rw [nI_clamp (by omega)]
    · rw [pk_un (fun z => ht (by omega))]
      exact q1 t ht
    · rw [pk_un (by omega)]
      exact q2 w hw
    · rw [pk_us]
      exact q0
  obtain ⟨al2, e, q⟩ := J (if mkm c l = 0 then havers else upd havers l (havers l ||| nI (2 ^ n)))
  refine ⟨al2, ?_, q⟩
  unfold f_X9_reckonLetter
  have on : ¬ oob (nI n) 8 := vp_in_nI hn (by decide)
  have ol : ¬ oob (nI l) 10 := vp_in_nI hl (by decide)
  have oi : ¬ oob (nI (n * 10 + l)) 80 := vp_in_nI (by omega) (by decide)
  rw [if_neg on, nI_clamp (show n < 2 ^ 31 by omega), hcd, reckonMask_eq hc hl, Option.bind_some, ix10, if_neg oi, if_neg ol, if_neg ol, nI_clamp (show n * 10 + l < 2 ^ 31 by omega), nI_clamp (show l < 2 ^ 31 by omega), shl1 n (by omega)]
  by_cases z : mkm c l = 0
  · rw [if_pos z] at e
    refine ip (by rw [z]; rfl) ?_
    rw [if_pos z]
    exact e
  · rw [if_neg z] at e
    refine ino (nI_ne0 (by omega) (by omega)) ?_
    rw [if_neg z]
    exact e
/-- codes, one more -/
def cdP (cd : Nat → Nat) (n c : Nat) : Nat → Nat := fun w => if w = n then c else cd w
theorem cdP_n (cd : Nat → Nat) (n c : Nat) : cdP cd n c n = c := if_pos rfl
theorem cdP_o {cd : Nat → Nat} {n c w : Nat} (h : w < n) : cdP cd n c w = cd w := if_neg (by omega)
theorem add_eq {n c : Nat} {cd : Nat → Nat} {codes masks alike havers : Nat → Int32} (hn : n < 8) (hc : c < 10000) (hW : WordsOK n cd codes masks alike havers) (hd : ∀ w, w < n → cd w ≠ c) : ∃ ms al hv, f_X9_add (nI n) codes masks alike havers (nI c) = some (nI (n + 1), upd codes n (nI c), ms, al, hv) ∧ WordsOK (n + 1) (cdP cd n c) (upd codes n (nI c)) ms al hv := by
  obtain ⟨w1, w2, w3, w4, w5⟩ := hW
  have L : ∃ o, lp (fun v => B_X9_add_31 (nI (n + 1)) (upd codes n (nI c)) v.1 v.2.1 v.2.2.1 v.2.2.2) KN ((0 : Int32), masks, alike, havers) = some o ∧ ((∀ w, w < n → ∀ l, l < 10 → o.1 (w * 10 + l) = nI (mkm (cd w) l)) ∧ (∀ l, l < 10 → o.1 (n * 10 + l) = nI (mkm c l)) ∧ (∀ w, w < n → ∀ l, l < 10 → o.2.1 (w * 10 + l) = nI (sN (fun v => mkm (cd v) l == mkm (cd w) l) n ||| (if mkm (cd w) l = mkm c l then 2 ^ n else 0))) ∧ (∀ l, l < 10 → o.2.1 (n * 10 + l) = nI (sN (fun v => mkm (cd v) l == mkm c l) n ||| 2 ^ n)) ∧ (∀ l, l < 10 → o.2.2 l = nI (sN (fun v => mkm (cd v) l != 0) n ||| (if mkm c l = 0 then 0 else 2 ^ n)))) := by
    refine lp_inv (fun i v => ∃ ms al hv, v = (nI i, ms, al, hv) ∧ (∀ w, w < n → ∀ l, l < 10 → ms (w * 10 + l) = nI (mkm (cd w) l)) ∧ (∀ l, l < i → ms (n * 10 + l) = nI (mkm c l)) ∧ (∀ w, w < n → ∀ l, l < 10 → al (w * 10 + l) = nI (sN (fun v => mkm (cd v) l == mkm (cd w) l) n ||| (if l < i then (if mkm (cd w) l = mkm c l then 2 ^ n else 0) else 0))) ∧ (∀ l, l < i → al (n * 10 + l) = nI (sN (fun v => mkm (cd v) l == mkm c l) n ||| 2 ^ n)) ∧ (∀ l, l < 10 → hv l = nI (sN (fun v => mkm (cd v) l != 0) n ||| (if l < i then (if mkm c l = 0 then 0 else 2 ^ n) else 0)))) _ 10 (by decide) ⟨masks, alike, havers, rfl, w2, fun l hl => absurd hl (by omega), fun w hw l hl => by rw [if_neg (by omega), Nat.or_zero]; exact w3 w hw l hl, fun l hl => absurd hl (by omega), fun l hl => by rw [if_neg (by omega), Nat.or_zero]; exact w4 l hl⟩ (fun i v hi hv => ?_) (fun v hv => ?_)
    · obtain ⟨ms, al, hv, rfl, q1, q2, q3, q4, q5⟩ := hv
      refine Or.inl ?_
      show ∃ u, B_X9_add_31 (nI (n + 1)) (upd codes n (nI c)) (nI i) ms al hv = some (.inl u) ∧ _
      unfold B_X9_add_31
      obtain ⟨al2, e, r1, r2, r3⟩ := reckonLetter_eq (cd := cd) (a := fun w => sN (fun v => mkm (cd v) i == mkm (cd w) i) n) (codes := upd codes n (nI c)) (masks := ms) (alike := al) (havers := hv) hn hi hc pk_us (fun w hw => q1 w hw i hi) (fun w hw => by rw [q3 w hw i hi, if_neg (by omega), Nat.or_zero])
      rw [if_neg (show ¬ (10 : Int32) ≤ nI i from nI_ge (b := 10) hi (by decide)), show nI (n + 1) - (1 : Int32) = nI n from nI_pred n, e, Option.bind_some, nI_1]
      refine ⟨_, rfl, upd ms (n * 10 + i) (nI (mkm c i)), al2, (if mkm c i = 0 then hv else upd hv i (hv i ||| nI (2 ^ n))), rfl, fun w hw l hl => ?_, fun l hl => ?_, fun w hw l hl => ?_, fun l hl => ?_, fun l hl => ?_⟩
      · rw [pk_un (by omega)]
        exact q1 w hw l hl
      · by_cases z : l = i
        · subst z; rw [pk_us]
        · rw [pk_un (by omega)]
          exact q2 l (by omega)
      · by_cases z : l = i
        · subst z
          rw [r2 w hw, if_pos (show l < l + 1 by omega)]
        · rw [r1 _ (by omega), q3 w hw l hl]
          by_cases y : l < i
          · rw [if_pos y, if_pos (show l < i + 1 by omega)]
          · rw [if_neg y, if_neg (show ¬ l < i + 1 by omega)]
      · by_cases z : l = i
        · subst z; exact r3
        · rw [r1 _ (by omega)]
          exact q4 l (by omega)
      · by_cases z : l = i
        · subst z
          rw [if_pos (show l < l + 1 by omega)]
          have q := q5 l hl
          rw [if_neg (show ¬ l < l by omega), Nat.or_zero] at q
          by_cases y : mkm c l = 0
          · rw [if_pos y, if_pos y, Nat.or_zero]
            exact q
          · rw [if_neg y, if_neg y, pk_us, q, fa_or]
        · have q := q5 l hl
          have e2 : (if mkm c i = 0 then hv else upd hv i (hv i ||| nI (2 ^ n))) l = hv l := by
            by_cases y : mkm c i = 0
            · rw [if_pos y]
            · rw [if_neg y, pk_un z]
          rw [e2, q]
          by_cases y : l < i
          · rw [if_pos y, if_pos (show l < i + 1 by omega)]
          · rw [if_neg y, if_neg (show ¬ l < i + 1 by omega)]
    · obtain ⟨ms, al, hv, rfl, q1, q2, q3, q4, q5⟩ := hv
      refine ⟨_, ip (show (10 : Int32) ≤ nI 10 from by decide) rfl, q1, q2, fun w hw l hl => ?_, q4, fun l hl => ?_⟩
      · have := q3 w hw l hl
        rw [if_pos hl] at this
        exact this
      · have := q5 l hl
        rw [if_pos hl] at this
        exact this
  obtain ⟨o, e, q1, q2, q3, q4, q5⟩ := L
  refine ⟨o.1, o.2.1, o.2.2, ?_, fun w hw => ?_, fun w hw l hl => ?_, fun w hw l hl => ?_, fun l hl => ?_, fun v w hv hw he => ?_⟩
  · unfold f_X9_add
    rw [nI_1]
    refine ino (nI_ge (b := 8) hn (by decide)) (ino (vp_in_nI (by omega) (by decide)) ?_)
    rw [nI_clamp (by omega), e]
    rfl
  · by_cases z : w = n
    · subst z
      rw [cdP_n, pk_us]
      exact ⟨hc, rfl⟩
    · rw [cdP_o (by omega), pk_un z]
      exact w1 w (by omega)
  · by_cases z : w = n
    · subst z
      rw [cdP_n]
      exact q2 l hl
    · rw [cdP_o (by omega)]
      exact q1 w (by omega) l hl
  · rw [sN_or, cdP_n, sN_cong (q := fun v => mkm (cd v) l == mkm (cdP cd n c w) l) (fun k hk => by show (mkm (cdP cd n c k) l == mkm (cdP cd n c w) l) = _; rw [cdP_o hk])]
    by_cases z : w = n
    · subst z
      rw [cdP_n, beq_self_eq_true, if_pos rfl]
      exact q4 l hl
    · rw [cdP_o (by omega), q3 w (by omega) l hl]
      by_cases y : mkm (cd w) l = mkm c l
      · rw [if_pos y, y, beq_self_eq_true, if_pos rfl]
      · have : (mkm c l == mkm (cd w) l) = false := by
          rw [beq_eq_false_iff_ne]
          exact fun h => y h.symm
        rw [if_neg y, this]
        rfl
  · rw [sN_or, cdP_n, sN_cong (q := fun v => mkm (cd v) l != 0) (fun k hk => by show (mkm (cdP cd n c k) l != 0) = _; rw [cdP_o hk]), q5 l hl]
    by_cases y : mkm c l = 0
    · rw [if_pos y, y]
      rfl
    · have : (mkm c l != 0) = true := by simpa using y
      rw [if_neg y, this]
      rfl
  · by_cases z : v = n
    · by_cases y : w = n
      · rw [z, y]
      · rw [z, cdP_n, cdP_o (show w < n by omega)] at he
        exact absurd he.symm (hd w (by omega))
    · by_cases y : w = n
      · rw [y, cdP_n, cdP_o (show v < n by omega)] at he
        exact absurd he (hd v (by omega))
      · rw [cdP_o (show v < n by omega), cdP_o (show w < n by omega)] at he
        exact w5 v w (by omega) (by omega) he
theorem addWord_eq {n c : Nat} {cd : Nat → Nat} {codes masks alike havers : Nat → Int32} (hn : n < 8) (hc : c < 10000) (hW : WordsOK n cd codes masks alike havers) (hd : ∀ w, w < n → cd w ≠ c) : ∃ ms al hv, f_X7_addWord (nI n) codes masks alike havers (nI c) = some (nI (n + 1), upd codes n (nI c), ms, al, hv, nI (2 ^ (n + 1) - 1), 0, 0, 0) ∧ WordsOK (n + 1) (cdP cd n c) (upd codes n (nI c)) ms al hv := by
  obtain ⟨ms, al, hv, e, h⟩ := add_eq hn hc hW hd
  refine ⟨ms, al, hv, b_some e (b_some (x := nI (2 ^ (n + 1) - 1)) ?_ (b_some rfl rfl)), h⟩
  unfold f_X9_all
  rw [all_eq (by omega)]
/-- the masks of one word, of any code -/
def mkFr (c l : Nat) : Nat → Nat
  | 0 => 0
  | i + 1 => mkFr c l i ||| (if c / 10 ^ (3 - i) % 10 = l then 2 ^ i else 0)
theorem mkFr_eq (c l : Nat) : mkFr c l 4 = mkm c l := by
  show (((0 ||| (if c / 10 ^ 3 % 10 = l then 2 ^ 0 else 0)) ||| (if c / 10 ^ 2 % 10 = l then 2 ^ 1 else 0)) ||| (if c / 10 ^ 1 % 10 = l then 2 ^ 2 else 0)) ||| (if c / 10 ^ 0 % 10 = l then 2 ^ 3 else 0) = _
  unfold mkm
  rw [show 10 ^ 0 = 1 from rfl, show 10 ^ 1 = 10 from rfl, show 10 ^ 2 = 100 from rfl, show 10 ^ 3 = 1000 from rfl, Nat.div_one]
  split <;> split <;> split <;> split <;> rfl
theorem letterAt_eq (x : Int32) {p : Nat} (hp : p < 4) : ∃ r, f_X11_letterAt x (nI p) = some r ∧ ∀ c, c < 10000 → x = nI c → r = nI (c / 10 ^ (3 - p) % 10) := by
  have key : ∀ c d : Nat, c < 10000 → 0 < d → d < 2 ^ 31 → nI c / nI d - nI c / nI d / (10 : Int32) * (10 : Int32) = nI (c / d % 10) := fun c d hc h0 hd => by
    rw [pk_div (by omega) h0 hd]
    have := Nat.div_le_self c d
    exact pk_rem (d := 10) (by omega) (by decide) (by decide)
  unfold f_X11_letterAt
  rcases (show p = 0 ∨ p = 1 ∨ p = 2 ∨ p = 3 by omega) with rfl | rfl | rfl | rfl
  · exact ⟨_, ip (by decide) rfl, fun c hc e => by subst e; exact key c 1000 hc (by decide) (by decide)⟩
  · exact ⟨_, ino (by decide) (ip (by decide) rfl), fun c hc e => by subst e; exact key c 100 hc (by decide) (by decide)⟩
  · exact ⟨_, ino (by decide) (ino (by decide) (ip (by decide) rfl)), fun c hc e => by subst e; exact key c 10 hc (by decide) (by decide)⟩
  · exact ⟨_, ino (by decide) (ino (by decide) (ino (by decide) rfl)), fun c hc e => by subst e; exact key c 1 hc (by decide) (by decide)⟩
theorem setMasks_eq {w : Nat} (codes masks : Nat → Int32) (hw : w < 8) : ∃ ms, f_X11_setMasks codes masks (nI w) = some ms ∧ (∀ t, t / 10 ≠ w → ms t = masks t) ∧ ∀ c, c < 10000 → codes w = nI c → ∀ l, l < 10 → ms (10 * w + l) = nI (mkm c l) := by
  unfold f_X11_setMasks
  refine b_ex (lp_inv (fun i v => v.1 = nI i ∧ (∀ t, t / 10 ≠ w → v.2 t = masks t) ∧ ∀ c, c < 10000 → codes w = nI c → ∀ l, l < i → v.2 (10 * w + l) = nI (mkm c l)) (fun o => (∀ t, t / 10 ≠ w → o t = masks t) ∧ ∀ c, c < 10000 → codes w = nI c → ∀ l, l < 10 → o (10 * w + l) = nI (mkm c l)) 10 (by decide) ⟨rfl, fun t _ => rfl, fun c _ _ l hl => absurd hl (by omega)⟩ (fun i v hi hv => ?_) (fun v hv => ?_)) (fun o q => ⟨o, rfl, q⟩)
  · obtain ⟨v1, v2⟩ := v
    obtain ⟨q0, q1, q2⟩ := hv
    have q0 : v1 = nI i := q0
    subst q0
    refine Or.inl ?_
    show ∃ u, B_X11_setMasks_2 codes (nI w) (nI i) v2 = some (.inl u) ∧ _
    have inner : ∃ o, lp (fun v => B_X11_setMasks_13 codes (nI w) (nI i) v.1 v.2) KN ((0 : Int32), (0 : Int32)) = some o ∧ ∀ c, c < 10000 → codes w = nI c → o = nI (mkm c i) := by
      refine lp_inv (fun p v => v.2 = nI p ∧ ∀ c, c < 10000 → codes w = nI c → v.1 = nI (mkFr c i p)) _ 4 (by decide) ⟨rfl, fun c _ _ => rfl⟩ (fun p v hp hv => ?_) (fun v hv => ?_)
      · obtain ⟨x, y⟩ := v
        obtain ⟨r0, r1⟩ := hv
        have r0 : y = nI p := r0
        subst r0
        have r1 : ∀ c, c < 10000 → codes w = nI c → x = nI (mkFr c i p) := r1
        refine Or.inl ?_
        show ∃ u, B_X11_setMasks_13 codes (nI w) (nI i) x (nI p) = some (.inl u) ∧ _
        unfold B_X11_setMasks_13
        obtain ⟨r, e, er⟩ := letterAt_eq (codes w) hp
        rw [if_neg (show ¬ (4 : Int32) ≤ nI p from nI_ge (b := 4) hp (by decide)), if_neg (show ¬ oob (nI w) 8 from vp_in_nI hw (by decide)), nI_clamp (by omega), e, Option.bind_some, nI_1, shl1 p (by omega)]
        by_cases z : r = nI i
        · refine ⟨_, ip z rfl, rfl, fun c hc h => ?_⟩
          have h1 := er c hc h
          rw [h1] at z
          have := Nat.mod_lt (c / 10 ^ (3 - p)) (show 10 > 0 by decide)
          have z := (nI_eq (by omega) (by omega)).mp z
          show x ||| nI (2 ^ p) = nI (mkFr c i p ||| (if c / 10 ^ (3 - p) % 10 = i then 2 ^ p else 0))
          rw [if_pos z, r1 c hc h, fa_or]
        · refine ⟨_, ino z rfl, rfl, fun c hc h => ?_⟩
          have h1 := er c hc h
          rw [h1] at z
          show x ||| nI 0 = nI (mkFr c i p ||| (if c / 10 ^ (3 - p) % 10 = i then 2 ^ p else 0))
          rw [if_neg (fun y => z (by rw [y])), r1 c hc h, fa_or]
      · obtain ⟨x, y⟩ := v
        obtain ⟨r0, r1⟩ := hv
        have r0 : y = nI 4 := r0
        subst r0
        exact ⟨_, ip (show (4 : Int32) ≤ nI 4 from by decide) rfl, fun c hc h => by rw [← mkFr_eq]; exact r1 c hc h⟩
    obtain ⟨o, e, eo⟩ := inner
    unfold B_X11_setMasks_2
    rw [if_neg (show ¬ (10 : Int32) ≤ nI i from nI_ge (b := 10) hi (by decide)), e, Option.bind_some, ix10b, if_neg (show ¬ oob (nI (10 * w + i)) 80 from vp_in_nI (by omega) (by decide)), nI_clamp (by omega), nI_1]
    refine ⟨_, rfl, rfl, fun t ht => ?_, fun c hc h l hl => ?_⟩
    · show upd v2 (10 * w + i) o t = _
      rw [pk_un (fun z => ht (by omega))]
      exact q1 t ht
    · show upd v2 (10 * w + i) o (10 * w + l) = _
      by_cases z : l = i
      · subst z
        rw [pk_us]
        exact eo c hc h
      · rw [pk_un (by omega)]
        exact q2 c hc h l (by omega)
  · obtain ⟨v1, v2⟩ := v
    obtain ⟨q0, q1, q2⟩ := hv
    have q0 : v1 = nI 10 := q0
    subst q0
    exact ⟨_, ip (show (10 : Int32) ≤ nI 10 from by decide) rfl, q1, q2⟩
theorem maddWord_eq {n c : Nat} (codes masks : Nat → Int32) (hn : n < 8) (hc : c < 10000) : ∃ ms, f_X11_addWord (nI n) codes masks (nI c) = some (nI n, nI (n + 1), 0, nI (2 ^ (n + 1) - 1), 0, 0, upd codes n (nI c), ms) ∧ (∀ t, t / 10 ≠ n → ms t = masks t) ∧ ∀ l, l < 10 → ms (10 * n + l) = nI (mkm c l) := by
  obtain ⟨ms, e, q1, q2⟩ := setMasks_eq (upd codes n (nI c)) masks hn
  refine ⟨ms, ?_, q1, q2 c hc pk_us⟩
  unfold f_X11_addWord
  rw [nI_1, show nI (n + 1) - (1 : Int32) = nI n from nI_pred n]
  refine ino (vp_in_nI hn (by decide)) ?_
  rw [nI_clamp (by omega)]
  refine (b_some e (b_some (x := ((0 : Int32), nI (2 ^ (n + 1) - 1), (0 : Int32))) ?_ rfl))
  unfold f_X11_beginsAnew
  rw [all_eq (by omega)]
