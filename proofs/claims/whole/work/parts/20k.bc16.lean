/-! the bits of sixteen, counted -/
def bcN (x : Nat) : Nat :=
  let a := x - (x / 2 &&& 1431655765)
  let b := (a &&& 858993459) + (a / 4 &&& 858993459)
  let c := (b + b / 16) &&& 252645135
  let d := c + c / 256
  let e := d + d / 65536
  e &&& 63
theorem bcN_eq {x : Nat} (h : x < 65536) : f_J6_bitCount_0f7a4 (nI x) = some (nI (bcN x)) := by
  have U : ∀ (y k : Nat) (s : Int32), y < 2 ^ 32 → ((s.toUInt32 &&& Int32.toUInt32 31).toBitVec % 32).toNat = k → ((nI y).toUInt32 >>> (s.toUInt32 &&& Int32.toUInt32 31)).toInt32 = nI (y / 2 ^ k) := fun y k s hy hs => pk_ushrN hy s k hs
  have L : ∀ y m : Nat, y &&& m ≤ y := fun y m => Nat.and_le_left
  unfold f_J6_bitCount_0f7a4
  simp only [Option.bind_some]
  rw [U x 1 1 (by omega) (by decide), show (1431655765 : Int32) = nI 1431655765 from rfl, fa_and, pk_sub (Nat.le_trans (L _ _) (Nat.div_le_self _ _))]
  have a1 := L (x / 2 ^ 1) 1431655765
  generalize ha : x - (x / 2 ^ 1 &&& 1431655765) = a
  have ax : a ≤ x := by rw [← ha]; exact Nat.sub_le _ _
  rw [U a 2 2 (by omega) (by decide), show (858993459 : Int32) = nI 858993459 from rfl, fa_and, fa_and, nI_add]
  have b1 := L a 858993459
  have b2 := L (a / 2 ^ 2) 858993459
  generalize hb : (a &&& 858993459) + (a / 2 ^ 2 &&& 858993459) = b
  have bx : b ≤ 131072 := by omega
  rw [U b 4 4 (by omega) (by decide), show (252645135 : Int32) = nI 252645135 from rfl, nI_add, fa_and]
  have c1 := L (b + b / 2 ^ 4) 252645135
  generalize hc : (b + b / 2 ^ 4) &&& 252645135 = c
  have cx : c ≤ 262144 := by omega
  rw [U c 8 8 (by omega) (by decide), nI_add]
  generalize hd : c + c / 2 ^ 8 = d
  have dx : d ≤ 524288 := by omega
  rw [U d 16 16 (by omega) (by decide), nI_add, show (63 : Int32) = nI 63 from rfl, fa_and]
  unfold bcN
  rw [← hd, ← hc, ← hb, ← ha]
theorem bcN_all : ∀ k : Fin 256, ∀ L : Fin 256, bcN (256 * k.val + L.val) = bcN k.val + bcN L.val := by decide +kernel
theorem bcN_8 : ∀ L : Fin 256, bcN L.val = pcN L.val 8 := by decide +kernel
theorem pcN_split (b a : Nat) (ha : a < 256) : ∀ k, pcN (256 * b + a) (8 + k) = pcN a 8 + pcN b k
  | 0 => by
    have : ∀ i, i < 8 → (256 * b + a) / 2 ^ i % 2 = a / 2 ^ i % 2 := by
      intro i hi
      rcases (show i = 0 ∨ i = 1 ∨ i = 2 ∨ i = 3 ∨ i = 4 ∨ i = 5 ∨ i = 6 ∨ i = 7 by omega) with rfl | rfl | rfl | rfl | rfl | rfl | rfl | rfl <;> omega
    show pcN (256 * b + a) 8 = pcN a 8 + 0
    simp only [pcN]
    rw [this 0 (by decide), this 1 (by decide), this 2 (by decide), this 3 (by decide), this 4 (by decide), this 5 (by decide), this 6 (by decide), this 7 (by decide)]
    omega
  | k + 1 => by
    show pcN (256 * b + a) (8 + k) + (256 * b + a) / 2 ^ (8 + k) % 2 = pcN a 8 + (pcN b k + b / 2 ^ k % 2)
    rw [pcN_split b a ha k, Nat.pow_add, ← Nat.div_div_eq_div_mul, show (256 * b + a) / 2 ^ 8 = b by omega]
    omega
theorem bc16 {x : Nat} (h : x < 65536) : f_J6_bitCount_0f7a4 (nI x) = some (nI (pcN x 16)) := by
  have e : x = 256 * (x / 256) + x % 256 := by omega
  have hb : x / 256 < 256 := by omega
  have ha : x % 256 < 256 := by omega
  rw [bcN_eq h]
  congr 2
  rw [e, bcN_all ⟨x / 256, hb⟩ ⟨x % 256, ha⟩, bcN_8 ⟨x / 256, hb⟩, bcN_8 ⟨x % 256, ha⟩, pcN_split _ _ ha 8]
  exact Nat.add_comm _ _
