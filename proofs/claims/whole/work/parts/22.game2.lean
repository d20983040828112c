/-! sums, changes of a state; Game's writes -/
def vSum (f : Int → Int) : Nat → Int
  | 0 => 0
  | k + 1 => vSum f k + f k
def zSum (f : Int → Int) (i : Int) : Int := vSum f i.toNat
theorem zSum_0 (f : Int → Int) : zSum f 0 = 0 := rfl
theorem zSum_s {f : Int → Int} {i : Int} (h : 0 ≤ i) : zSum f (i + 1) = zSum f i + f i := by
  have e : (i + 1).toNat = i.toNat + 1 := by omega
  have e2 : ((i.toNat : Nat) : Int) = i := by omega
  simp only [zSum, e, vSum, e2]
theorem zSum_b {f : Int → Int} {c : Int} (h : ∀ i, 0 ≤ f i ∧ f i ≤ c) : ∀ k : Nat, 0 ≤ vSum f k ∧ vSum f k ≤ k * c
  | 0 => by simp [vSum]
  | k + 1 => by
    have h1 := zSum_b h k
    have h2 := h k
    have e : ((k + 1 : Nat) : Int) * c = k * c + c := by rw [Int.natCast_succ, Int.add_mul, Int.one_mul]
    simp only [vSum]
    omega
theorem zSum_bd {f : Int → Int} {c i n : Int} (h : ∀ i, 0 ≤ f i ∧ f i ≤ c) (h0 : 0 ≤ i) (hi : i ≤ n) (hc : 0 ≤ c) : 0 ≤ zSum f i ∧ zSum f i ≤ n * c := by
  have h1 := zSum_b h i.toNat
  have e2 : ((i.toNat : Nat) : Int) = i := by omega
  rw [e2] at h1
  exact ⟨h1.1, Int.le_trans h1.2 (Int.mul_le_mul_of_nonneg_right hi hc)⟩
def sA (S : sS) (r : Nat) (f : Nat → Int) : sS := (S.1, va_up S.2.1 r f, S.2.2)
def sI (S : sS) (i : Nat) (z : Int) : sS := (va_up S.1 i z, S.2.1, S.2.2)
def vW (v : vV) (d f z : Int) : vV := (v.1, (fun d1 f1 => if d1 = d ∧ f1 = f then z else v.2.1.1 d1 f1, v.2.1.2), v.2.2)
def vHt (v : vV) (k z : Int) : vV := (v.1, (v.2.1.1, v.2.1.2.1, fun k1 => if k1 = k then z else v.2.1.2.2.1 k1, v.2.1.2.2.2), v.2.2)
def vSl (v : vV) (d : Int) : vV := (v.1, (v.2.1.1, fun d1 => if d1 = d then 1 else v.2.1.2.1 d1, v.2.1.2.2), v.2.2)
theorem va_up_s {α : Type} (f : Nat → α) (k : Nat) (x : α) : va_up f k x k = x := by simp [va_up]
theorem va_up_o {α : Type} (f : Nat → α) {k j : Nat} (x : α) (h : j ≠ k) : va_up f k x j = f j := by simp [va_up, h]
theorem vX_w {S : sS} {v : vV} (hv : vX S v) {d f z : Int} (h0 : 0 ≤ d) (h1 : d < 5) (h2 : 1 ≤ f) (h3 : f ≤ 6) (hz : 0 ≤ z ∧ z ≤ 20) : vX (sA S 2 (va_up (S.2.1 2) (d * 6 + f - 1).toNat z)) (vW v d f z) := by
  obtain ⟨⟨b0, b1, b2, b3, b4, bs, bh⟩, e0, e1, e2, e3, e4, hr, hh⟩ := hv
  refine ⟨⟨b0, b1, b2, b3, b4, ⟨fun d1 f1 => ?_, bs.2⟩, bh⟩, e0, e1, e2, e3, e4, ⟨fun d1 f1 g0 g1 g2 g3 => ?_, ?_, fun k k0 k1 => ?_, fun k k0 k1 => ?_⟩, hh⟩
  · show 0 ≤ (if d1 = d ∧ f1 = f then z else v.2.1.1 d1 f1) ∧ (if d1 = d ∧ f1 = f then z else v.2.1.1 d1 f1) ≤ 20
    split
    · exact hz
    · exact bs.1 d1 f1
  · show va_up (S.2.1 2) (d * 6 + f - 1).toNat z (0 + (d1 * 6 + f1 - 1).toNat) = if d1 = d ∧ f1 = f then z else v.2.1.1 d1 f1
    split
    · rename_i c
      rw [c.1, c.2, Nat.zero_add, va_up_s]
    · rename_i c
      rw [va_up_o _ _ (by omega)]
      exact hr.1 d1 f1 g0 g1 g2 g3
  · show va_up (S.2.1 2) (d * 6 + f - 1).toNat z (0 + 30) = _
    rw [va_up_o _ _ (by omega)]
    exact hr.2.1
  · show va_up (S.2.1 2) (d * 6 + f - 1).toNat z (0 + (31 + k).toNat) = _
    rw [va_up_o _ _ (by omega)]
    exact hr.2.2.1 k k0 k1
  · show va_up (S.2.1 2) (d * 6 + f - 1).toNat z (0 + (35 + k).toNat) = _
    rw [va_up_o _ _ (by omega)]
    exact hr.2.2.2 k k0 k1
theorem vX_h {S : sS} {v : vV} (hv : vX S v) {q z : Int} (h0 : 0 ≤ q) (h1 : q < 4) (hz : 0 ≤ z ∧ z ≤ 9) : vX (sA S 2 (va_up (S.2.1 2) (31 + q).toNat z)) (vHt v q z) := by
  obtain ⟨⟨b0, b1, b2, b3, b4, bs, bh⟩, e0, e1, e2, e3, e4, hr, hh⟩ := hv
  refine ⟨⟨b0, b1, b2, b3, b4, ⟨bs.1, bs.2.1, fun k => ?_, bs.2.2.2⟩, bh⟩, e0, e1, e2, e3, e4, ⟨fun d1 f1 g0 g1 g2 g3 => ?_, ?_, fun k k0 k1 => ?_, fun k k0 k1 => ?_⟩, hh⟩
  · show 0 ≤ (if k = q then z else v.2.1.2.2.1 k) ∧ (if k = q then z else v.2.1.2.2.1 k) ≤ 9
    split
    · exact hz
    · exact bs.2.2.1 k
  · show va_up (S.2.1 2) (31 + q).toNat z (0 + (d1 * 6 + f1 - 1).toNat) = _
    rw [va_up_o _ _ (by omega)]
    exact hr.1 d1 f1 g0 g1 g2 g3
  · show va_up (S.2.1 2) (31 + q).toNat z (0 + 30) = _
    rw [va_up_o _ _ (by omega)]
    exact hr.2.1
  · show va_up (S.2.1 2) (31 + q).toNat z (0 + (31 + k).toNat) = if k = q then z else v.2.1.2.2.1 k
    split
    · rename_i c
      rw [c, Nat.zero_add, va_up_s]
    · rw [va_up_o _ _ (by omega)]
      exact hr.2.2.1 k k0 k1
  · show va_up (S.2.1 2) (31 + q).toNat z (0 + (35 + k).toNat) = _
    rw [va_up_o _ _ (by omega)]
    exact hr.2.2.2 k k0 k1
theorem vX_s {S : sS} {v : vV} (hv : vX S v) {d : Int} (h0 : 0 ≤ d) (h1 : d < 5) : vX (sA S 2 (va_up (S.2.1 2) 30 (Int32.ofInt (S.2.1 2 30) ||| Int32.ofInt (2 ^ d.toNat)).toInt)) (vSl v d) := by
  obtain ⟨⟨b0, b1, b2, b3, b4, bs, bh⟩, e0, e1, e2, e3, e4, hr, hh⟩ := hv
  refine ⟨⟨b0, b1, b2, b3, b4, ⟨bs.1, fun d1 => ?_, bs.2.2⟩, bh⟩, e0, e1, e2, e3, e4, ⟨fun d1 f1 g0 g1 g2 g3 => ?_, ?_, fun k k0 k1 => ?_, fun k k0 k1 => ?_⟩, hh⟩
  · show (if d1 = d then 1 else v.2.1.2.1 d1) = 0 ∨ (if d1 = d then 1 else v.2.1.2.1 d1) = 1
    split
    · exact Or.inr rfl
    · exact bs.2.1 d1
  · show va_up (S.2.1 2) 30 (Int32.ofInt (S.2.1 2 30) ||| Int32.ofInt (2 ^ d.toNat)).toInt (0 + (d1 * 6 + f1 - 1).toNat) = _
    rw [va_up_o _ _ (by omega)]
    exact hr.1 d1 f1 g0 g1 g2 g3
  · show va_up (S.2.1 2) 30 (Int32.ofInt (S.2.1 2 30) ||| Int32.ofInt (2 ^ d.toNat)).toInt 30 = (if (0 : Int) = d then 1 else v.2.1.2.1 0) + 2 * (if (1 : Int) = d then 1 else v.2.1.2.1 1) + 4 * (if (2 : Int) = d then 1 else v.2.1.2.1 2) + 8 * (if (3 : Int) = d then 1 else v.2.1.2.1 3) + 16 * (if (4 : Int) = d then 1 else v.2.1.2.1 4)
    rw [va_up_s]
    have hq := vBit bs h0 h1
    have e9 := hr.2.1
    rw [Nat.zero_add] at e9
    rw [bt_or (by omega) (by omega) h0 (by omega), e9, hq.1]
    have c0 := bs.2.1 0
    have c1 := bs.2.1 1
    have c2 := bs.2.1 2
    have c3 := bs.2.1 3
    have c4 := bs.2.1 4
    have hd : d = 0 ∨ d = 1 ∨ d = 2 ∨ d = 3 ∨ d = 4 := by omega
    rcases hd with rfl | rfl | rfl | rfl | rfl
    · have e : (2 : Int) ^ (0 : Int).toNat = 1 := rfl
      rw [e]
      simp
      split <;> omega
    · have e : (2 : Int) ^ (1 : Int).toNat = 2 := rfl
      rw [e]
      simp
      split <;> omega
    · have e : (2 : Int) ^ (2 : Int).toNat = 4 := rfl
      rw [e]
      simp
      split <;> omega
    · have e : (2 : Int) ^ (3 : Int).toNat = 8 := rfl
      rw [e]
      simp
      split <;> omega
    · have e : (2 : Int) ^ (4 : Int).toNat = 16 := rfl
      rw [e]
      simp
      split <;> omega
  · show va_up (S.2.1 2) 30 (Int32.ofInt (S.2.1 2 30) ||| Int32.ofInt (2 ^ d.toNat)).toInt (0 + (31 + k).toNat) = _
    rw [va_up_o _ _ (by omega)]
    exact hr.2.2.1 k k0 k1
  · show va_up (S.2.1 2) 30 (Int32.ofInt (S.2.1 2 30) ||| Int32.ofInt (2 ^ d.toNat)).toInt (0 + (35 + k).toNat) = _
    rw [va_up_o _ _ (by omega)]
    exact hr.2.2.2 k k0 k1
section Game2
variable {X : mX} {S : sS} {t : zH} {v : vV}
set_option maxHeartbeats 4000000 in
set_option maxRecDepth 100000 in
theorem gall (hv : vX S v) : zEv X 3 mX2_allTotals [zR 5] (cX S ++ t) (zIs (.inl (some (zI (zSum (vTot v.2.1) (v.1 1))))) (cX S ++ t)) := by
  have hv0 := hv
  obtain ⟨hb, -, e1, e2, e3, e4, hrow, -⟩ := hv
  obtain ⟨b0, b1, b2, b3, b4, bs, -⟩ := hb
  have loop : ∀ (k : Nat) (i : Int), 0 ≤ i → i + k = v.1 1 → zWP X mX2_allTotals 3 (zIs (.inl (some (zI (zSum (vTot v.2.1) (v.1 1))))) (cX S ++ t)) 4 [some (zR 5), some (zI (zSum (vTot v.2.1) i)), some (zI i)] [] (cX S ++ t) 0 0 := by
    intro k
    induction k with
    | zero =>
      intro i h0 h1
      refine zWP_run gX2_allTotals 40 [4] ?_
      refine zBrT (by simp only [rI]; omega) (by omega) ?_
      exact ⟨by rw [show i = v.1 1 by omega], rfl⟩
    | succ k ih =>
      intro i h0 h1
      refine zWP_run gX2_allTotals 40 [4] ?_
      refine zBrF (by simp only [rI]; omega) (by omega) ?_
      refine zCl_e (gtot hv0 h0 (by omega)) (by decide) ?_
      have k1 := ih (i + 1) (by omega) (by omega)
      rw [zSum_s h0] at k1
      exact k1
  refine zEv_run gX2_allTotals 60 [4] rfl ?_
  exact loop (v.1 1).toNat 0 (by omega) (by omega)
set_option maxHeartbeats 4000000 in
set_option maxRecDepth 100000 in
theorem ggd (hv : vX S v) : zEv X 4 mX2_goneDice [zR 5] (cX S ++ t) (zIs (.inl (some (zI (zSum (fun d => if vTot v.2.1 d = 0 then 1 else 0) (v.1 1))))) (cX S ++ t)) := by
  have hv0 := hv
  obtain ⟨hb, -, e1, e2, e3, e4, hrow, -⟩ := hv
  obtain ⟨b0, b1, b2, b3, b4, bs, -⟩ := hb
  have loop : ∀ (k : Nat) (i : Int), 0 ≤ i → i + k = v.1 1 → zWP X mX2_goneDice 4 (zIs (.inl (some (zI (zSum (fun d => if vTot v.2.1 d = 0 then 1 else 0) (v.1 1))))) (cX S ++ t)) 4 [some (zR 5), some (zI (zSum (fun d => if vTot v.2.1 d = 0 then 1 else 0) i)), some (zI i)] [] (cX S ++ t) 0 0 := by
    intro k
    induction k with
    | zero =>
      intro i h0 h1
      refine zWP_run gX2_goneDice 40 [4] ?_
      refine zBrT (by simp only [rI]; omega) (by omega) ?_
      exact ⟨by rw [show i = v.1 1 by omega], rfl⟩
    | succ k ih =>
      intro i h0 h1
      refine zWP_run gX2_goneDice 40 [4] ?_
      refine zBrF (by simp only [rI]; omega) (by omega) ?_
      refine zCl_e (ggone hv0 h0 (by omega)) (by decide) ?_
      have k1 := ih (i + 1) (by omega) (by omega)
      rw [zSum_s h0] at k1
      by_cases c : vTot v.2.1 i = 0
      · simp only [c, if_true] at k1 ⊢
        refine zBrF (by simp only [rI]; omega) (by omega) ?_
        exact k1
      · simp only [c, if_false] at k1 ⊢
        refine zBrT (by simp only [rI]; omega) (by omega) ?_
        exact k1
  refine zEv_run gX2_goneDice 60 [4] rfl ?_
  exact loop (v.1 1).toNat 0 (by omega) (by omega)
set_option maxHeartbeats 4000000 in
set_option maxRecDepth 100000 in
theorem gmk (hv : vX S v) {x : Int} (h0 : 0 ≤ x) (h1 : x < v.1 1) : zEv X 2 mX2_makeSalt [zR 5, zI x] (cX S ++ t) (zIs (.inl none) (cX (sA S 2 (va_up (S.2.1 2) 30 (Int32.ofInt (S.2.1 2 30) ||| Int32.ofInt (2 ^ x.toNat)).toInt)) ++ t)) := by
  have hv0 := hv
  obtain ⟨hb, -, e1, e2, e3, e4, hrow, -⟩ := hv
  obtain ⟨b0, b1, b2, b3, b4, bs, -⟩ := hb
  have e9 := bt_shl h0 (k := x) (by omega)
  refine zEv_run gX2_makeSalt 60 [] rfl ?_
  refine zCl_e (gd_t hv0 h0 h1) (by decide) ?_
  refine zBrF (by simp only [rI]; omega) (by omega) ?_
  refine mVc_i (by omega) ?_
  refine mVc_i (by omega) ?_
  refine ⟨rfl, ?_⟩
  show (cX S ++ t).set 6 (.inl (0, 39, .inl (va_up (S.2.1 2) 30 (Int32.ofInt (S.2.1 2 30) ||| Int32.ofInt ((Int32.ofInt 1 <<< (Int32.ofInt x &&& 31)).toInt)).toInt))) = _
  rw [e9]
  rfl
set_option maxHeartbeats 4000000 in
set_option maxRecDepth 100000 in
theorem gcool (hv : vX S v) {x : Int} (h0 : 0 ≤ x) (h1 : x < v.1 2) : zEv X 2 mX2_cool [zR 5, zI x] (cX S ++ t) (zIs (.inl none) (cX (sA S 2 (va_up (S.2.1 2) (31 + x).toNat 0)) ++ t)) := by
  have hv0 := hv
  obtain ⟨hb, -, e1, e2, e3, e4, hrow, -⟩ := hv
  obtain ⟨b0, b1, b2, b3, b4, bs, -⟩ := hb
  refine zEv_run gX2_cool 60 [] rfl ?_
  repeat (first
    | refine zBrT (by simp only [rI]; omega) (by omega) ?_
    | refine zBrF (by simp only [rI]; omega) (by omega) ?_
    | refine zCl_e (gh_t hv0 (by omega) (by omega)) (by decide) ?_
    | refine mVc_i (by first | omega | (simp only [rI]; omega)) ?_)
  exact ⟨rfl, rfl⟩
set_option maxHeartbeats 4000000 in
set_option maxRecDepth 100000 in
theorem face_t {f : Int} (h : 1 ≤ f ∧ f ≤ 6) : zEv X 1 mX9_isFace [zJ f] (cX S ++ t) (zIs (.inl (some (zI (1)))) (cX S ++ t)) := by
  refine zEv_run gX9_isFace 40 [] rfl ?_
  refine zBrF (by simp only [rL]; omega) (by omega) ?_
  refine zBrF (by simp only [rL]; omega) (by omega) ?_
  exact mVc_i (Or.inr rfl) ⟨rfl, rfl⟩
set_option maxHeartbeats 4000000 in
set_option maxRecDepth 100000 in
theorem face_f {f : Int} (hf : rL f) (h : ¬ (1 ≤ f ∧ f ≤ 6)) : zEv X 1 mX9_isFace [zJ f] (cX S ++ t) (zIs (.inl (some (zI (0)))) (cX S ++ t)) := by
  have hf1 := hf.1
  have hf2 := hf.2
  refine zEv_run gX9_isFace 40 [] rfl ?_
  by_cases c : f < 1
  · refine zBrT (by simp only [rL]; omega) c ?_
    exact mVc_i (Or.inl rfl) ⟨rfl, rfl⟩
  · refine zBrF (by simp only [rL]; omega) c ?_
    refine zBrT (by simp only [rL]; omega) (by omega) ?_
    exact mVc_i (Or.inl rfl) ⟨rfl, rfl⟩
set_option maxHeartbeats 4000000 in
set_option maxRecDepth 100000 in
theorem gwear_s (hv : vX S v) {x f z : Int} (h0 : 0 ≤ x) (h1 : x < v.1 1) (h2 : 1 ≤ f) (h3 : f ≤ 6) (hs : v.2.1.2.1 x = 1) : zEv X 2 mX2_wear [zR 5, zI x, zI f, zI z] (cX S ++ t) (zIs (.inl (some (zI (0)))) (cX S ++ t)) := by
  have hv0 := hv
  obtain ⟨hb, -, e1, e2, e3, e4, hrow, -⟩ := hv
  obtain ⟨b0, b1, b2, b3, b4, bs, -⟩ := hb
  refine zEv_run gX2_wear 80 [] rfl ?_
  refine zCl_e (gd_t hv0 h0 h1) (by decide) ?_
  refine zBrF (by simp only [rI]; omega) (by omega) ?_
  refine mVc_i (by simp only [rI]; omega) ?_
  refine zCl_e (face_t ⟨h2, h3⟩) (by decide) ?_
  refine zBrF (by simp only [rI]; omega) (by omega) ?_
  refine zCl_e (gsalt hv0 h0 h1) (by decide) ?_
  refine zBrF (by simp only [rI]; omega) (by omega) ?_
  exact ⟨rfl, rfl⟩
set_option maxHeartbeats 4000000 in
set_option maxRecDepth 100000 in
theorem gwear_n (hv : vX S v) {x f z : Int} (h0 : 0 ≤ x) (h1 : x < v.1 1) (h2 : 1 ≤ f) (h3 : f ≤ 6) (hs : v.2.1.2.1 x = 0) (hz : rI z) : zEv X 2 mX2_wear [zR 5, zI x, zI f, zI z] (cX S ++ t) (zIs (.inl (some (zI (min (v.2.1.1 x f) z)))) (cX (sA S 2 (va_up (S.2.1 2) (x * 6 + f - 1).toNat (v.2.1.1 x f - min (v.2.1.1 x f) z))) ++ t)) := by
  have hv0 := hv
  obtain ⟨hb, -, e1, e2, e3, e4, hrow, -⟩ := hv
  obtain ⟨b0, b1, b2, b3, b4, bs, -⟩ := hb
  have hbw := gbd hv0 x f
  have hz1 := hz.1
  have hz2 := hz.2
  refine zEv_run gX2_wear 80 [] rfl ?_
  refine zCl_e (gd_t hv0 h0 h1) (by decide) ?_
  refine zBrF (by simp only [rI]; omega) (by omega) ?_
  refine mVc_i (by simp only [rI]; omega) ?_
  refine zCl_e (face_t ⟨h2, h3⟩) (by decide) ?_
  refine zBrF (by simp only [rI]; omega) (by omega) ?_
  refine zCl_e (gsalt hv0 h0 h1) (by decide) ?_
  refine zBrT (by simp only [rI]; omega) (by omega) ?_
  refine zCl_e (gw hv0 h0 h1 h2 h3) (by decide) ?_
  refine mVc_i (by simp only [rI]; omega) ?_
  refine mVc_i (by omega) ?_
  refine mVc_i (by omega) ?_
  refine ⟨rfl, ?_⟩
  have e9 := hrow.1 x f h0 (by omega) h2 h3
  rw [Nat.zero_add] at e9
  rw [← e9]
  rfl
end Game2
