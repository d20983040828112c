/-! bits of small numbers; what a table holds, told apart from how it is held -/
theorem bt_shr0 : ∀ c : Fin 64, ∀ k : Fin 6, (Int32.ofInt ((Int32.ofInt (c.val : Int) >>> (Int32.ofInt (k.val : Int) &&& 31)).toInt) &&& Int32.ofInt 1).toInt = (c.val : Int) / 2 ^ k.val % 2 := by decide +kernel
theorem bt_shl0 : ∀ k : Fin 11, (Int32.ofInt 1 <<< (Int32.ofInt (k.val : Int) &&& 31)).toInt = 2 ^ k.val := by decide +kernel
theorem bt_or0 : ∀ c : Fin 64, ∀ k : Fin 6, (Int32.ofInt (c.val : Int) ||| Int32.ofInt (2 ^ k.val)).toInt = if (c.val : Int) / 2 ^ k.val % 2 = 1 then (c.val : Int) else c.val + 2 ^ k.val := by decide +kernel
theorem bt_shr {c k : Int} (h0 : 0 ≤ c) (h1 : c < 64) (h2 : 0 ≤ k) (h3 : k < 6) : (Int32.ofInt ((Int32.ofInt c >>> (Int32.ofInt k &&& 31)).toInt) &&& Int32.ofInt 1).toInt = c / 2 ^ k.toNat % 2 := by
  have h := bt_shr0 ⟨c.toNat, by omega⟩ ⟨k.toNat, by omega⟩
  simp only [Int.toNat_of_nonneg h0, Int.toNat_of_nonneg h2] at h
  exact h
theorem bt_shl {k : Int} (h2 : 0 ≤ k) (h3 : k < 11) : (Int32.ofInt 1 <<< (Int32.ofInt k &&& 31)).toInt = 2 ^ k.toNat := by
  have h := bt_shl0 ⟨k.toNat, by omega⟩
  simp only [Int.toNat_of_nonneg h2] at h
  exact h
theorem bt_or {c k : Int} (h0 : 0 ≤ c) (h1 : c < 64) (h2 : 0 ≤ k) (h3 : k < 6) : (Int32.ofInt c ||| Int32.ofInt (2 ^ k.toNat)).toInt = if c / 2 ^ k.toNat % 2 = 1 then c else c + 2 ^ k.toNat := by
  have h := bt_or0 ⟨c.toNat, by omega⟩ ⟨k.toNat, by omega⟩
  simp only [Int.toNat_of_nonneg h0] at h
  exact h
/-- dice, hands, heats and lots as they stand: WEIGHTS, salt (0, 1), HEAT, the die by lot (-1) -/
abbrev vS : Type := (Int → Int → Int) × (Int → Int) × (Int → Int) × (Int → Int)
/-- LINES, DICE, HANDS, ants, THROWS; the table now; of each THROW the die, the hand, the face; the table ahead of each -/
abbrev vV : Type := (Nat → Int) × vS × (Int → Int) × (Int → Int) × (Int → Int) × (Int → vS)
def vSb (s : vS) : Prop := (∀ d f, 0 ≤ s.1 d f ∧ s.1 d f ≤ 20) ∧ (∀ d, s.2.1 d = 0 ∨ s.2.1 d = 1) ∧ (∀ k, 0 ≤ s.2.2.1 k ∧ s.2.2.1 k ≤ 9) ∧ (∀ k, -1 ≤ s.2.2.2 k ∧ s.2.2.2 k ≤ 4)
def vVb (v : vV) : Prop := (0 ≤ v.1 0 ∧ v.1 0 ≤ 600) ∧ (0 ≤ v.1 1 ∧ v.1 1 ≤ 5) ∧ (0 ≤ v.1 2 ∧ v.1 2 ≤ 4) ∧ (1 ≤ v.1 3 ∧ v.1 3 ≤ 6) ∧ (0 ≤ v.1 4 ∧ v.1 4 ≤ 60) ∧ vSb v.2.1 ∧ ∀ k, 0 ≤ k → k < v.1 4 → (0 ≤ v.2.2.1 k ∧ v.2.2.1 k < v.1 1) ∧ (0 ≤ v.2.2.2.1 k ∧ v.2.2.2.1 k < v.1 2) ∧ (1 ≤ v.2.2.2.2.1 k ∧ v.2.2.2.2.1 k ≤ 6) ∧ vSb (v.2.2.2.2.2 k)
/-- a row of 39 cells, from its place a on, holds the table s of n hands -/
def vRow (c : Nat → Int) (a : Nat) (n : Int) (s : vS) : Prop := (∀ d f : Int, 0 ≤ d → d < 5 → 1 ≤ f → f ≤ 6 → c (a + (d * 6 + f - 1).toNat) = s.1 d f) ∧ c (a + 30) = s.2.1 0 + 2 * s.2.1 1 + 4 * s.2.1 2 + 8 * s.2.1 3 + 16 * s.2.1 4 ∧ (∀ k : Int, 0 ≤ k → k < 4 → c (a + (31 + k).toNat) = s.2.2.1 k) ∧ ∀ k : Int, 0 ≤ k → k < n → c (a + (35 + k).toNat) = s.2.2.2 k
/-- the system's cells hold v -/
def vX (S : sS) (v : vV) : Prop := vVb v ∧ S.1 12 = v.1 0 ∧ S.1 13 = v.1 1 ∧ S.1 14 = v.1 2 ∧ S.1 15 = v.1 3 ∧ S.1 16 = v.1 4 ∧ vRow (S.2.1 2) 0 (v.1 2) v.2.1 ∧ ∀ k : Int, 0 ≤ k → k < v.1 4 → S.2.1 3 k.toNat = 100 * v.2.2.1 k + 10 * v.2.2.2.1 k + v.2.2.2.2.1 k ∧ vRow (S.2.1 4) (39 * k.toNat) (v.1 2) (v.2.2.2.2.2 k)
def vTot (s : vS) (d : Int) : Int := s.1 d 1 + s.1 d 2 + s.1 d 3 + s.1 d 4 + s.1 d 5 + s.1 d 6
theorem vTot_b {s : vS} (h : vSb s) (d : Int) : 0 ≤ vTot s d ∧ vTot s d ≤ 120 := by
  have h1 := h.1 d 1
  have h2 := h.1 d 2
  have h3 := h.1 d 3
  have h4 := h.1 d 4
  have h5 := h.1 d 5
  have h6 := h.1 d 6
  simp only [vTot]
  omega
theorem vBit {s : vS} (h : vSb s) {d : Int} (h0 : 0 ≤ d) (h1 : d < 5) : (s.2.1 0 + 2 * s.2.1 1 + 4 * s.2.1 2 + 8 * s.2.1 3 + 16 * s.2.1 4) / 2 ^ d.toNat % 2 = s.2.1 d ∧ 0 ≤ s.2.1 0 + 2 * s.2.1 1 + 4 * s.2.1 2 + 8 * s.2.1 3 + 16 * s.2.1 4 ∧ s.2.1 0 + 2 * s.2.1 1 + 4 * s.2.1 2 + 8 * s.2.1 3 + 16 * s.2.1 4 < 32 := by
  have b0 := h.2.1 0
  have b1 := h.2.1 1
  have b2 := h.2.1 2
  have b3 := h.2.1 3
  have b4 := h.2.1 4
  have hd : d = 0 ∨ d = 1 ∨ d = 2 ∨ d = 3 ∨ d = 4 := by omega
  rcases hd with rfl | rfl | rfl | rfl | rfl
  · have e : (2 : Int) ^ (0 : Int).toNat = 1 := rfl
    rw [e]; omega
  · have e : (2 : Int) ^ (1 : Int).toNat = 2 := rfl
    rw [e]; omega
  · have e : (2 : Int) ^ (2 : Int).toNat = 4 := rfl
    rw [e]; omega
  · have e : (2 : Int) ^ (3 : Int).toNat = 8 := rfl
    rw [e]; omega
  · have e : (2 : Int) ^ (4 : Int).toNat = 16 := rfl
    rw [e]; omega
