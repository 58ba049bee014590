/-! the table behind a game that is read -/
theorem DR.tab {kind secret w_size : Int32} {codes masks alike havers : Nat → Int32} {left guessed wrong p_size words kindNow secretNow mguessed mleft mwrong undoMany : Int32} {mcodes mmasks : Nat → Int32} (hD : DR kind secret w_size codes masks alike havers left guessed wrong p_size words kindNow secretNow mguessed mleft mwrong undoMany mcodes mmasks) (x1 x2 x3 x4 x5 x6 x7 nc mc pc no ma ah : Nat → Int32) : TabR kind secret w_size (va_cpy codes x1 0 0 8) (va_cpy masks x2 0 0 80) (va_cpy alike x3 0 0 80) (va_cpy havers x4 0 0 10) left guessed wrong 0 (va_cpy nc x5 0 0 24) 0 (va_cpy mc x6 0 0 24) p_size (va_cpy pc x7 0 0 32) words kindNow secretNow mguessed mleft mwrong 0 0 0 mcodes no ma ah ∧ ∀ w, w < words.toNatClampNeg → ∀ l, l < 10 → mmasks (10 * w + l) = nI (mkm (mcodes w).toNatClampNeg l) := by
  obtain ⟨n, kd, sc, lf, gs, cd, W, ⟨rfl, rfl⟩, hk, hs, ⟨hlf, -, rfl, rfl⟩, hg, hw, rfl, -⟩ := hD
  have hn := W.hn
  have hWo : WordsOK n cd codes masks alike havers := ⟨fun w hw => ⟨W.cd4 w hw, W.cod w hw⟩, W.mas, W.ali, W.hav, W.dis⟩
  have base : TabR kind secret (nI n) codes masks alike havers (nI lf) guessed wrong 0 nc 0 mc 0 pc (nI n) kindNow secretNow mguessed (nI lf) mwrong 0 0 0 mcodes no ma ah := ⟨n, kd, sc, lf, gs, 0, 0, 0, cd, ⟨hn, rfl, rfl⟩, ⟨hWo, W.mco⟩, hk, hs, ⟨hlf, rfl, rfl⟩, hg, hw, ⟨by decide, rfl, rfl, fun k hk => absurd hk (by omega)⟩, ⟨by decide, rfl, rfl, fun k hk => absurd hk (by omega)⟩, by decide, rfl, rfl, fun k hk => absurd hk (by omega)⟩
  refine ⟨TabR.cong base (fun t ht => cpy_at ht) (fun t ht => cpy_at ht) (fun t ht => cpy_at ht) (fun t ht => cpy_at ht) (fun t ht => cpy_at ht) (fun t ht => cpy_at ht) (fun t ht => cpy_at ht) (fun t _ => rfl) (fun t _ => rfl) (fun t _ => rfl) (fun t _ => rfl), ?_⟩
  rw [nI_clamp (by omega)]
  intro w hw l hl
  have := W.cd4 w hw
  rw [W.mma w hw l hl, W.mco w hw, nI_clamp (by omega)]
