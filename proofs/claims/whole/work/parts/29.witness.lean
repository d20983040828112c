/-! Witness -/
theorem ipow_b {x c : Int} (h : 0 ≤ x ∧ x ≤ c) : ∀ n : Nat, 0 ≤ x ^ n ∧ x ^ n ≤ c ^ n
  | 0 => by simp
  | n + 1 => by
    rw [Int.pow_succ, Int.pow_succ]
    exact mul_b (ipow_b h n) h
theorem ipow_5 {x : Int} (h : 0 ≤ x ∧ x ≤ 120) {n : Int} (h0 : 0 ≤ n) (h5 : n ≤ 5) : 0 ≤ x ^ n.toNat ∧ x ^ n.toNat ≤ 24883200000 := by
  have h1 := ipow_b h n.toNat
  have h2 : (120 : Int) ^ n.toNat ≤ 24883200000 := by
    have hn : n = 0 ∨ n = 1 ∨ n = 2 ∨ n = 3 ∨ n = 4 ∨ n = 5 := by omega
    rcases hn with rfl | rfl | rfl | rfl | rfl | rfl <;> decide
  omega
def vWy (v : vV) (num : Nat → Int) (d i : Int) : Int := zIt (fun j p => p * v.2.1.1 d (num j.toNat)) 1 i
theorem vWy_b {v : vV} (h : vVb v) (num : Nat → Int) (d : Int) {i : Int} (h0 : 0 ≤ i) (h5 : i ≤ 5) : 0 ≤ vWy v num d i ∧ vWy v num d i ≤ 3200000 := by
  have h1 := zIt_i (fun j p => p * v.2.1.1 d (num j.toNat)) 1 (fun i p => 0 ≤ p ∧ p ≤ 20 ^ i.toNat) (by decide) (fun j x hj hx => by
    rw [show (j + 1).toNat = j.toNat + 1 by omega, Int.pow_succ]
    exact mul_b hx (h.2.2.2.2.2.1.1 d _)) h0
  have h2 : (20 : Int) ^ i.toNat ≤ 3200000 := by
    have hn : i = 0 ∨ i = 1 ∨ i = 2 ∨ i = 3 ∨ i = 4 ∨ i = 5 := by omega
    rcases hn with rfl | rfl | rfl | rfl | rfl | rfl <;> decide
  exact ⟨h1.1, Int.le_trans h1.2 h2⟩
def vLk (v : vV) (num : Nat → Int) (mn i : Int) : Int × Int × Int := zIt (fun d x => if x.2.1 * vTot v.2.1 d ^ mn.toNat < vWy v num d mn * x.2.2 then (d, vWy v num d mn, vTot v.2.1 d ^ mn.toNat) else x) (-1, 0, 1) i
def vCd (v : vV) (f i : Int) : Int := zSum (fun d => if 0 < v.2.1.1 d f then 1 else 0) i
def vRd (v : vV) (num : Nat → Int) (i : Int) : Int := zIt (fun j p => p * vCd v (num j.toNat) (v.1 1)) 1 i
/-- the hand at a place of a row of hands -/
def hnd (row j : Int) : Int := (Int32.ofInt ((Int32.ofInt row >>> (Int32.ofInt j &&& 31)).toInt) &&& Int32.ofInt 3).toInt
theorem and3_b (x : Int32) : 0 ≤ (x &&& Int32.ofInt 3).toInt ∧ (x &&& Int32.ofInt 3).toInt < 4 := by
  have h1 : (x &&& Int32.ofInt 3).toBitVec.toNat < 4 := by
    show (x.toBitVec &&& (Int32.ofInt 3).toBitVec).toNat < 4
    rw [BitVec.toNat_and]
    have e : (Int32.ofInt 3).toBitVec.toNat = 3 := by decide
    rw [e]
    have := Nat.and_le_right (n := x.toBitVec.toNat) (m := 3)
    omega
  show 0 ≤ (x &&& Int32.ofInt 3).toBitVec.toInt ∧ (x &&& Int32.ofInt 3).toBitVec.toInt < 4
  rw [BitVec.toInt_eq_toNat_of_lt (by omega)]
  omega
theorem hnd_b (row j : Int) : 0 ≤ hnd row j ∧ hnd row j < 4 := and3_b _
/-- the total behind the throws that are left, -1 where one can't be -/
def vTb (v : vV) (num : Nat → Int) (mn d row : Int) : Nat → Int → (Int → Int) → (Int → Int) → Int → Int
  | 0, _, _, _, tt => tt
  | k + 1, i, w, ht, tt =>
    if ¬ hnd row (2 * (mn - 1 - i)) < v.1 2 then -1 else if w (num i.toNat) = 0 then -1 else
      vTb v num mn d row k (i + 1) (fun f => if f = num i.toNat then w (num i.toNat) - (if v.2.1.2.1 d = 1 then 0 else min (w (num i.toNat)) (ht (hnd row (2 * (mn - 1 - i))))) else w f) (fun q => if q = hnd row (2 * (mn - 1 - i)) then min (ht (hnd row (2 * (mn - 1 - i))) + 1) 9 else ht q) (tt - (if v.2.1.2.1 d = 1 then 0 else min (w (num i.toNat)) (ht (hnd row (2 * (mn - 1 - i))))))
theorem vTb_b (v : vV) (num : Nat → Int) (mn d row : Int) : ∀ (k : Nat) (i : Int) (w ht : Int → Int) (tt : Int), 0 ≤ i → i + k ≤ 5 → (∀ f, 0 ≤ w f ∧ w f ≤ 20) → (∀ q, 0 ≤ ht q ∧ ht q ≤ 9) → (-20 * i ≤ tt ∧ tt ≤ 120) → -100 ≤ vTb v num mn d row k i w ht tt ∧ vTb v num mn d row k i w ht tt ≤ 120
  | 0, i, w, ht, tt, h0, h5, hw, hh, hb => by simp only [vTb]; omega
  | k + 1, i, w, ht, tt, h0, h5, hw, hh, hb => by
    simp only [vTb]
    split
    · omega
    · split
      · omega
      · have a1 := hw (num i.toNat)
        have a2 := hh (hnd row (2 * (mn - 1 - i)))
        refine vTb_b v num mn d row k (i + 1) _ _ _ (by omega) (by omega) (fun f => ?_) (fun q => ?_) ?_
        · by_cases c : f = num i.toNat
          · rw [if_pos c]
            split <;> omega
          · rw [if_neg c]; exact hw f
        · by_cases c : q = hnd row (2 * (mn - 1 - i))
          · rw [if_pos c]; omega
          · rw [if_neg c]; exact hh q
        · split <;> omega
def vTh0 (v : vV) (num : Nat → Int) (mn d row : Int) : Int := vTb v num mn d row mn.toNat 0 (v.2.1.1 d) v.2.1.2.2.1 (vTot v.2.1 d)
theorem vTh0_b {v : vV} (h : vVb v) (num : Nat → Int) {mn : Int} (hm : 1 ≤ mn ∧ mn ≤ 5) (d row : Int) : -100 ≤ vTh0 v num mn d row ∧ vTh0 v num mn d row ≤ 120 := by
  have q := vTot_b h.2.2.2.2.2.1 d
  exact vTb_b v num mn d row mn.toNat 0 _ _ _ (by omega) (by omega) (fun f => h.2.2.2.2.2.1.1 d f) (fun q => h.2.2.2.2.2.1.2.2.1 q) (by omega)
/-- rows from r on, k of them: the one at place key among those with the total tt, or how many -/
def vSc (f : Int → Int) (tt key : Int) : Nat → Int → Int → Int
  | 0, _, n => if key = -1 then n else -1
  | k + 1, r, n => if f r = tt then (if n = key then r else vSc f tt key k (r + 1) (n + 1)) else vSc f tt key k (r + 1) n
def vWn (v : vV) (num : Nat → Int) (mn d tt key : Int) : Int := vSc (vTh0 v num mn d) tt key (if tt < 0 then 0 else 2 ^ (2 * mn).toNat) 0 0
theorem vWy_s (v : vV) (num : Nat → Int) (d : Int) {i : Int} (h : 0 ≤ i) : vWy v num d (i + 1) = vWy v num d i * v.2.1.1 d (num i.toNat) := zIt_s _ _ h
theorem vCd_s (v : vV) (f : Int) {i : Int} (h : 0 ≤ i) : vCd v f (i + 1) = vCd v f i + (if 0 < v.2.1.1 i f then 1 else 0) := zSum_s h
theorem vRd_s (v : vV) (num : Nat → Int) {i : Int} (h : 0 ≤ i) : vRd v num (i + 1) = vRd v num i * vCd v (num i.toNat) (v.1 1) := zIt_s _ _ h
section Witness
variable {X : mX} {S : sS} {t : zH} {v : vV} {num : Nat → Int} {mn : Int}
set_option maxHeartbeats 1000000 in
set_option maxRecDepth 100000 in
theorem gheat_f (hv : vX S v) {x : Int} (hx : rI x) (h0 : ¬ (0 ≤ x ∧ x < v.1 2)) : zEv X 2 mX2_heat [zR 5, zI x] (cX S ++ t) (zIs (.inl (some (zI (0)))) (cX S ++ t)) := by
  refine zEv_run gX2_heat 60 [] rfl ?_
  refine zCl_e (gh_f hv hx h0) (by decide) ?_
  refine zBrT rI_0 rfl ?_
  exact ⟨rfl, rfl⟩
set_option maxHeartbeats 1000000 in
set_option maxRecDepth 100000 in
theorem wbeg (hv : vX S v) {x : Int} (hx : 0 ≤ x ∧ x < v.1 1) : zEv X 3 mX8_begin [zR 15, zI x] (cX S ++ t) (fun o9 h9 => o9 = .inl none ∧ ∃ f g : Nat → Int, (∀ i : Int, 1 ≤ i → i ≤ 6 → f i.toNat = v.2.1.1 x i) ∧ (∀ i : Int, 0 ≤ i → i < v.1 2 → g i.toNat = v.2.1.2.2.1 i) ∧ h9 = cX (sA (sA S 8 f) 9 g) ++ t) := by
  have h4 := hv.1.2.2.2.2.1
  have e4 : S.1 16 = v.1 4 := hv.2.2.2.2.2.1
  have h1 := hv.1.2.1
  have e1 : S.1 13 = v.1 1 := hv.2.2.1
  have h2 := hv.1.2.2.1
  have e2 : S.1 14 = v.1 2 := hv.2.2.2.1
  have l2 : ∀ (k : Nat) (i : Int) (f g : Nat → Int), 0 ≤ i → (∀ i : Int, 1 ≤ i → i ≤ 6 → f i.toNat = v.2.1.1 x i) → (∀ j : Int, 0 ≤ j → j < i → j < v.1 2 → g j.toNat = v.2.1.2.2.1 j) → i + k = 4 → zWP X mX8_begin 3 (fun o9 h9 => o9 = .inl none ∧ ∃ f g : Nat → Int, (∀ i : Int, 1 ≤ i → i ≤ 6 → f i.toNat = v.2.1.1 x i) ∧ (∀ i : Int, 0 ≤ i → i < v.1 2 → g i.toNat = v.2.1.2.2.1 i) ∧ h9 = cX (sA (sA S 8 f) 9 g) ++ t) 31 [some (zR 15), some (zI x), some (zI i)] [] (cX (sA (sA S 8 f) 9 g) ++ t) 0 0 := by
    intro k
    induction k with
    | zero =>
      intro i f g g0 hf hg hk
      refine zWP_run gX8_begin 80 [31] ?_
      refine zBrT (by simp only [rI]; omega) (by omega) ?_
      exact ⟨rfl, f, g, hf, fun j j0 j1 => hg j j0 (by omega) j1, rfl⟩
    | succ k ih =>
      intro i f g g0 hf hg hk
      refine zWP_run gX8_begin 80 [31] ?_
      refine zBrF (by simp only [rI]; omega) (by omega) ?_
      have hv2 : vX (sA (sA S 8 f) 9 g) v := hv
      by_cases c : i < v.1 2
      · refine zCl_e (gheat hv2 g0 c) (by decide) ?_
        refine mVc_i (by omega) ?_
        exact ih (i + 1) f (va_up g i.toNat (v.2.1.2.2.1 i)) (by omega) hf (fun j j0 j1 j2 => by
          by_cases e : j = i
          · rw [e, va_up_s]
          · rw [va_up_o _ _ (by omega)]
            exact hg j j0 (by omega) j2) (by omega)
      · refine zCl_e (gheat_f hv2 (by simp only [rI]; omega) (by omega)) (by decide) ?_
        refine mVc_i (by omega) ?_
        exact ih (i + 1) f (va_up g i.toNat 0) (by omega) hf (fun j j0 j1 j2 => by
          rw [va_up_o _ _ (by omega)]
          exact hg j j0 (by omega) j2) (by omega)
  have l1 : ∀ (k : Nat) (i : Int) (f : Nat → Int), 1 ≤ i → (∀ j : Int, 1 ≤ j → j < i → j ≤ 6 → f j.toNat = v.2.1.1 x j) → i + k = 7 → zWP X mX8_begin 3 (fun o9 h9 => o9 = .inl none ∧ ∃ f g : Nat → Int, (∀ i : Int, 1 ≤ i → i ≤ 6 → f i.toNat = v.2.1.1 x i) ∧ (∀ i : Int, 0 ≤ i → i < v.1 2 → g i.toNat = v.2.1.2.2.1 i) ∧ h9 = cX (sA (sA S 8 f) 9 g) ++ t) 2 [some (zR 15), some (zI x), some (zI i)] [] (cX (sA S 8 f) ++ t) 0 0 := by
    intro k
    induction k with
    | zero =>
      intro i f g0 hf hk
      refine zWP_run gX8_begin 80 [2, 31] ?_
      refine zBrT (by simp only [rI]; omega) (by omega) ?_
      exact l2 4 0 f (S.2.1 9) (by omega) (fun j j0 j1 => hf j j0 (by omega) j1) (fun j j0 j1 => by omega) (by omega)
    | succ k ih =>
      intro i f g0 hf hk
      refine zWP_run gX8_begin 80 [2, 31] ?_
      refine zBrF (by simp only [rI]; omega) (by omega) ?_
      have hv2 : vX (sA S 8 f) v := hv
      refine zCl_e (gw hv2 hx.1 hx.2 g0 (by omega)) (by decide) ?_
      refine mVc_i (by omega) ?_
      exact ih (i + 1) (va_up f i.toNat (v.2.1.1 x i)) (by omega) (fun j j0 j1 j2 => by
        by_cases e : j = i
        · rw [e, va_up_s]
        · rw [va_up_o _ _ (by omega)]
          exact hf j j0 (by omega) j2) (by omega)
  refine zEv_run gX8_begin 40 [2] rfl ?_
  exact l1 6 1 (S.2.1 8) (by omega) (fun j j0 j1 => by omega) (by omega)
set_option maxHeartbeats 1000000 in
set_option maxRecDepth 100000 in
theorem wlk0 (hv : vX S v) (ht : S.1 20 = mn ∧ S.2.1 10 = num) (hm : 1 ≤ mn ∧ mn ≤ 5) (hf : ∀ i : Int, 0 ≤ i → i < mn → 1 ≤ num i.toNat ∧ num i.toNat ≤ 6) : zEv X 3 mX8_likeliestDie [zR 15, zR 20] (cX S ++ t) (zIs (.inl (some (zI ((vLk v num mn (v.1 1)).1)))) (cX S ++ t)) := by
  have h4 := hv.1.2.2.2.2.1
  have e4 : S.1 16 = v.1 4 := hv.2.2.2.2.2.1
  have h1 := hv.1.2.1
  have e1 : S.1 13 = v.1 1 := hv.2.2.1
  have h2 := hv.1.2.2.1
  have e2 : S.1 14 = v.1 2 := hv.2.2.2.1
  have em := ht.1
  have er := ht.2
  have hmm : 0 ≤ S.1 20 ∧ S.1 20 ≤ 30 := by omega
  have l1 : ∀ (k : Nat) (d x y z : Int), 0 ≤ d → (x, y, z) = vLk v num mn d → 0 ≤ y ∧ y ≤ 3200000 → 0 ≤ z ∧ z ≤ 24883200000 → d + k = v.1 1 → zWP X mX8_likeliestDie 3 (zIs (.inl (some (zI ((vLk v num mn (v.1 1)).1)))) (cX S ++ t)) 10 [some (zR 15), some (zR 20), some (zI x), some (zJ y), none, some (zJ z), none, some (zI d), none, none, none, none] [] (cX S ++ t) 0 0 := by
    intro k
    induction k with
    | zero =>
      intro d x y z d0 hx hy hz hk
      refine zWP_run gX8_likeliestDie 60 [10] ?_
      refine zBrT (by simp only [rI]; omega) (by omega) ?_
      rw [← show d = v.1 1 by omega, ← hx]
      exact ⟨rfl, rfl⟩
    | succ k ih =>
      intro d x y z d0 hx hy hz hk
      have q1 := vWy_b hv.1 num d (i := mn) (by omega) (by omega)
      have q2 := ipow_5 (gtb hv d) (n := mn) (by omega) (by omega)
      have q3 := mul_b q1 hz
      have q4 := mul_b hy q2
      have q5 := gtb hv d
      have l2 : ∀ (k : Nat) (i : Int), 0 ≤ i → i + k = mn → zWP X mX8_likeliestDie 3 (zIs (.inl (some (zI ((vLk v num mn (v.1 1)).1)))) (cX S ++ t)) 28 [some (zR 15), some (zR 20), some (zI x), some (zJ y), none, some (zJ z), none, some (zI d), some (zJ (vWy v num d i)), none, some (zI i), none] [] (cX S ++ t) 0 0 := by
        intro k2
        induction k2 with
        | zero =>
          intro i i0 hk2
          refine zWP_run gX8_likeliestDie 60 [10, 28] ?_
          refine zBrT (by simp only [rI]; omega) (by omega) ?_
          rw [show i = mn by omega]
          refine zCl_e (gtot hv d0 (by omega)) (by decide) ?_
          refine mVc_i (by simp only [rI]; omega) ?_
          refine zCl_e (pow9 (by omega)) (by decide) ?_
          rw [em]
          refine zBr (by simp only [rL]; omega) (fun c => ?_) (fun c => ?_)
          · refine zWP_fg (ih (d + 1) x y z (by omega) ?_ hy hz (by omega)) (by repeat (first | exact trivial | refine ⟨rfl, ?_⟩))
            rw [vLk, zIt_s _ _ d0, ← vLk, ← hx, if_neg (Int.not_lt.mpr c)]
          · refine zWP_fg (ih (d + 1) d (vWy v num d mn) (vTot v.2.1 d ^ mn.toNat) (by omega) ?_ q1 q2 (by omega)) (by repeat (first | exact trivial | refine ⟨rfl, ?_⟩))
            rw [vLk, zIt_s _ _ d0, ← vLk, ← hx, if_pos (Int.not_le.mp c)]
        | succ k2 ih2 =>
          intro i i0 hk2
          refine zWP_run gX8_likeliestDie 60 [10, 28] ?_
          refine zBrF (by simp only [rI]; omega) (by omega) ?_
          refine zCl_e (yface0 hmm (p := i) (by omega) (by omega) (by rw [er]; exact hf i (by omega) (by omega))) (by decide) ?_
          rw [er]
          have hfi := hf i i0 (by omega)
          refine zCl_e (gw hv d0 (by omega) hfi.1 hfi.2) (by decide) ?_
          have hw := gbd hv d (num i.toNat)
          refine mVc_i (by simp only [rI]; omega) ?_
          have k3 := ih2 (i + 1) (by omega) (by omega)
          rw [vWy_s _ _ _ i0] at k3
          exact k3
      refine zWP_run gX8_likeliestDie 60 [10, 28] ?_
      refine zBrF (by simp only [rI]; omega) (by omega) ?_
      exact zWP_fg (l2 mn.toNat 0 (by omega) (by omega)) (by repeat (first | exact trivial | refine ⟨rfl, ?_⟩))
  refine zEv_run gX8_likeliestDie 40 [10] rfl ?_
  exact l1 (v.1 1).toNat 0 (-1) 0 1 (by omega) rfl (by omega) (by omega) (by omega)
set_option maxHeartbeats 1000000 in
set_option maxRecDepth 100000 in
theorem wrd0 (hv : vX S v) (ht : S.1 20 = mn ∧ S.2.1 10 = num) (hm : 1 ≤ mn ∧ mn ≤ 5) (hf : ∀ i : Int, 0 ≤ i → i < mn → 1 ≤ num i.toNat ∧ num i.toNat ≤ 6) : zEv X 3 mX8_rowsOfDice [zR 15, zR 20] (cX S ++ t) (zIs (.inl (some (zI (vRd v num mn)))) (cX S ++ t)) := by
  have h4 := hv.1.2.2.2.2.1
  have e4 : S.1 16 = v.1 4 := hv.2.2.2.2.2.1
  have h1 := hv.1.2.1
  have e1 : S.1 13 = v.1 1 := hv.2.2.1
  have h2 := hv.1.2.2.1
  have e2 : S.1 14 = v.1 2 := hv.2.2.2.1
  have em := ht.1
  have er := ht.2
  have hmm : 0 ≤ S.1 20 ∧ S.1 20 ≤ 30 := by omega
  have l1 : ∀ (k : Nat) (i : Int), 0 ≤ i → i + k = mn → zWP X mX8_rowsOfDice 3 (zIs (.inl (some (zI (vRd v num mn)))) (cX S ++ t)) 4 [some (zR 15), some (zR 20), some (zI (vRd v num i)), some (zI i), none, none] [] (cX S ++ t) 0 0 := by
    intro k
    induction k with
    | zero =>
      intro i i0 hk
      refine zWP_run gX8_rowsOfDice 60 [4] ?_
      refine zBrT (by simp only [rI]; omega) (by omega) ?_
      rw [← show i = mn by omega]
      exact ⟨rfl, rfl⟩
    | succ k ih =>
      intro i i0 hk
      have hfi := hf i i0 (by omega)
      have l2 : ∀ (k : Nat) (d : Int), 0 ≤ d → d + k = v.1 1 → zWP X mX8_rowsOfDice 3 (zIs (.inl (some (zI (vRd v num mn)))) (cX S ++ t)) 18 [some (zR 15), some (zR 20), some (zI (vRd v num i)), some (zI i), some (zI (vCd v (num i.toNat) d)), some (zI d)] [] (cX S ++ t) 0 0 := by
        intro k2
        induction k2 with
        | zero =>
          intro d d0 hk2
          refine zWP_run gX8_rowsOfDice 60 [4, 18] ?_
          refine zBrT (by simp only [rI]; omega) (by omega) ?_
          rw [show d = v.1 1 by omega]
          have k3 := ih (i + 1) (by omega) (by omega)
          rw [vRd_s _ _ i0] at k3
          exact zWP_fg k3 (by repeat (first | exact trivial | refine ⟨rfl, ?_⟩))
        | succ k2 ih2 =>
          intro d d0 hk2
          have hw := gbd hv d (num i.toNat)
          have k3 := ih2 (d + 1) (by omega) (by omega)
          rw [vCd_s _ _ d0] at k3
          refine zWP_run gX8_rowsOfDice 60 [4, 18] ?_
          refine zBrF (by simp only [rI]; omega) (by omega) ?_
          refine zCl_e (yface0 hmm (p := i) (by omega) (by omega) (by rw [er]; exact hf i (by omega) (by omega))) (by decide) ?_
          rw [er]
          refine zCl_e (gw hv d0 (by omega) hfi.1 hfi.2) (by decide) ?_
          refine zBr (by simp only [rI]; omega) (fun c => ?_) (fun c => ?_)
          · rw [if_neg (by omega)] at k3
            exact k3
          · rw [if_pos (by omega)] at k3
            exact k3
      refine zWP_run gX8_rowsOfDice 60 [4, 18] ?_
      refine zBrF (by simp only [rI]; omega) (by omega) ?_
      exact zWP_fg (l2 (v.1 1).toNat 0 (by omega) (by omega)) (by repeat (first | exact trivial | refine ⟨rfl, ?_⟩))
  refine zEv_run gX8_rowsOfDice 40 [4] rfl ?_
  exact l1 mn.toNat 0 (by omega) (by omega)
set_option maxHeartbeats 1000000 in
set_option maxRecDepth 100000 in
theorem wtb0 (hv : vX S v) (ht : S.1 20 = mn ∧ S.2.1 10 = num) (hm : 1 ≤ mn ∧ mn ≤ 5) (hf : ∀ i : Int, 0 ≤ i → i < mn → 1 ≤ num i.toNat ∧ num i.toNat ≤ 6) {x row : Int} (hx : 0 ≤ x ∧ x < v.1 1) : zEv X 4 mX8_totalBehind [zR 15, zI x, zR 20, zI row] (cX S ++ t) (zTo S t (.inl (some (zI (vTh0 v num mn x row)))) v) := by
  have h4 := hv.1.2.2.2.2.1
  have e4 : S.1 16 = v.1 4 := hv.2.2.2.2.2.1
  have h1 := hv.1.2.1
  have e1 : S.1 13 = v.1 1 := hv.2.2.1
  have h2 := hv.1.2.2.1
  have e2 : S.1 14 = v.1 2 := hv.2.2.2.1
  have em := ht.1
  have er := ht.2
  have hmm : 0 ≤ S.1 20 ∧ S.1 20 ≤ 30 := by omega
  have hs := hv.1.2.2.2.2.2.1.2.1 x
  have l1 : ∀ (k : Nat) (i tt : Int) (R : sS) (w hh : Int → Int), 0 ≤ i → i + k = mn → sF S R → vX R v → (∀ j : Int, 1 ≤ j → j ≤ 6 → R.2.1 8 j.toNat = w j) → (∀ j : Int, 0 ≤ j → j < v.1 2 → R.2.1 9 j.toNat = hh j) → (∀ j, 0 ≤ w j ∧ w j ≤ 20) → (∀ j, 0 ≤ hh j ∧ hh j ≤ 9) → zWP X mX8_totalBehind 4 (zTo S t (.inl (some (zI (vTb v num mn x row k i w hh tt)))) v) 18 [some (zR 15), some (zI x), some (zR 20), some (zI row), some (zI tt), some (zI i), none, none, none] [] (cX (R) ++ t) 0 0 := by
    intro k
    induction k with
    | zero =>
      intro i tt R w hh i0 hk fr hv2 hw hq bw bq
      have em2 : R.1 20 = mn := by rw [fr.1 20 (by omega)]; exact em
      have er2 : R.2.1 10 = num := by rw [fr.2.1 10 (by omega)]; exact er
      have hmm2 : 0 ≤ R.1 20 ∧ R.1 20 ≤ 30 := by omega
      refine zWP_run gX8_totalBehind 100 [18] ?_
      refine zBrT (by simp only [rI]; omega) (by omega) ?_
      exact ⟨rfl, R, rfl, fr, hv2⟩
    | succ k ih =>
      intro i tt R w hh i0 hk fr hv2 hw hq bw bq
      have em2 : R.1 20 = mn := by rw [fr.1 20 (by omega)]; exact em
      have er2 : R.2.1 10 = num := by rw [fr.2.1 10 (by omega)]; exact er
      have hmm2 : 0 ≤ R.1 20 ∧ R.1 20 ≤ 30 := by omega
      have hfi := hf i i0 (by omega)
      have hnb := hnd_b row (2 * (mn - 1 - i))
      have b1 := bw (num i.toNat)
      have b2 := bq (hnd row (2 * (mn - 1 - i)))
      have ef := hw (num i.toNat) hfi.1 hfi.2
      refine zWP_run gX8_totalBehind 100 [18] ?_
      refine zBrF (by simp only [rI]; omega) (by omega) ?_
      refine zCl_e (yface0 hmm2 (p := i) (by omega) (by omega) (by rw [er2]; exact hfi)) (by decide) ?_
      have eh : (Int32.ofInt ((Int32.ofInt row >>> (Int32.ofInt (2 * (R.1 20 - 1 - i)) &&& 31)).toInt) &&& Int32.ofInt 3).toInt = hnd row (2 * (mn - 1 - i)) := by rw [em2]; rfl
      rw [er2]
      simp only [vTb]
      by_cases c1 : hnd row (2 * (mn - 1 - i)) < v.1 2
      · rw [if_neg (fun z => z c1)]
        refine zCl_e (gh_t hv2 (x := (Int32.ofInt ((Int32.ofInt row >>> (Int32.ofInt (2 * (R.1 20 - 1 - i)) &&& 31)).toInt) &&& Int32.ofInt 3).toInt) (by rw [eh]; exact hnb.1) (by rw [eh]; exact c1)) (by decide) ?_
        refine zBrF rI_1 (by omega) ?_
        refine mVc_i (by omega) ?_
        have eq2 := hq (hnd row (2 * (mn - 1 - i))) hnb.1 c1
        by_cases c2 : w (num i.toNat) = 0
        · rw [if_pos c2]
          refine zBrT (by simp only [rI]; show _ ≤ R.2.1 8 (num i.toNat).toNat ∧ R.2.1 8 (num i.toNat).toNat < _; omega) (by show R.2.1 8 (num i.toNat).toNat = 0; omega) ?_
          exact ⟨rfl, R, rfl, fr, hv2⟩
        · rw [if_neg c2]
          refine zBrF (by simp only [rI]; show _ ≤ R.2.1 8 (num i.toNat).toNat ∧ R.2.1 8 (num i.toNat).toNat < _; omega) (by show ¬ R.2.1 8 (num i.toNat).toNat = 0; omega) ?_
          refine zCl_e (gsalt hv2 hx.1 hx.2) (by decide) ?_
          have fin : ∀ lost y : Int, y = hnd row (2 * (mn - 1 - i)) → lost = (if v.2.1.2.1 x = 1 then 0 else min (w (num i.toNat)) (hh (hnd row (2 * (mn - 1 - i))))) → zWP X mX8_totalBehind 4 (zTo S t (.inl (some (zI (vTb v num mn x row k (i + 1) (fun f => if f = num i.toNat then w (num i.toNat) - (if v.2.1.2.1 x = 1 then 0 else min (w (num i.toNat)) (hh (hnd row (2 * (mn - 1 - i))))) else w f) (fun q => if q = hnd row (2 * (mn - 1 - i)) then min (hh (hnd row (2 * (mn - 1 - i))) + 1) 9 else hh q) (tt - (if v.2.1.2.1 x = 1 then 0 else min (w (num i.toNat)) (hh (hnd row (2 * (mn - 1 - i)))))))))) v) 18 [some (zR 15), some (zI x), some (zR 20), some (zI row), some (zI (tt - lost)), some (zI (i + 1)), none, none, none] [] (cX (sA (sA R 8 (va_up (R.2.1 8) (num i.toNat).toNat (R.2.1 8 (num i.toNat).toNat - lost))) 9 (va_up (R.2.1 9) y.toNat (min (R.2.1 9 y.toNat + 1) 9))) ++ t) 0 0 := by
            intro lost y hy hl
            rw [← hl, hy]
            have b3 : 0 ≤ lost ∧ lost ≤ w (num i.toNat) := by
              rw [hl]
              split <;> omega
            refine ih (i + 1) (tt - lost) _ _ _ (by omega) (by omega) (sF_t fr (sF_t (sF_A R (r := 8) _ ⟨by omega, by omega⟩) (sF_A _ (r := 9) _ ⟨by omega, by omega⟩))) hv2 (fun j j0 j1 => ?_) (fun j j0 j1 => ?_) (fun j => ?_) (fun j => ?_)
            · by_cases e : j = num i.toNat
              · rw [if_pos e, e, ← ef]; exact va_up_s _ _ _
              · rw [if_neg e, ← hw j j0 j1]; exact va_up_o _ _ (by omega)
            · by_cases e : j = hnd row (2 * (mn - 1 - i))
              · rw [if_pos e, e, ← eq2]; exact va_up_s _ _ _
              · rw [if_neg e, ← hq j j0 j1]; exact va_up_o _ _ (by omega)
            · by_cases e : j = num i.toNat
              · rw [if_pos e]; omega
              · rw [if_neg e]; exact bw j
            · by_cases e : j = hnd row (2 * (mn - 1 - i))
              · rw [if_pos e]; omega
              · rw [if_neg e]; exact bq j
          have eq3 : R.2.1 9 ((Int32.ofInt ((Int32.ofInt row >>> (Int32.ofInt (2 * (R.1 20 - 1 - i)) &&& 31)).toInt) &&& Int32.ofInt 3).toInt).toNat = hh (hnd row (2 * (mn - 1 - i))) := by rw [eh]; exact eq2
          have hn3 : 0 ≤ (Int32.ofInt ((Int32.ofInt row >>> (Int32.ofInt (2 * (R.1 20 - 1 - i)) &&& 31)).toInt) &&& Int32.ofInt 3).toInt ∧ (Int32.ofInt ((Int32.ofInt row >>> (Int32.ofInt (2 * (R.1 20 - 1 - i)) &&& 31)).toInt) &&& Int32.ofInt 3).toInt < 4 := by rw [eh]; exact hnb
          refine zBr (by simp only [rI]; omega) (fun c3 => ?_) (fun c3 => ?_)
          · refine mVc_i (by omega) ?_
            refine mVc_i (by omega) ?_
            refine mVc_i ?_ ?_
            · show rI (R.2.1 8 (num i.toNat).toNat) ∧ rI (R.2.1 9 _)
              rw [ef, eq3]
              simp only [rI]
              omega
            refine mVc_i (by omega) ?_
            refine mVc_i (by omega) ?_
            refine mVc_i (by omega) ?_
            refine mVc_i ?_ ?_
            · show rI (R.2.1 9 _ + 1) ∧ rI 9
              rw [eq3]
              simp only [rI]
              omega
            refine mVc_i (by omega) ?_
            exact zWP_fg (fin _ _ eh (by rw [if_neg (by omega), ef, eq3])) (by repeat (first | exact trivial | refine ⟨rfl, ?_⟩))
          · refine mVc_i (by omega) ?_
            refine mVc_i (by omega) ?_
            refine mVc_i (by omega) ?_
            refine mVc_i ?_ ?_
            · show rI (R.2.1 9 _ + 1) ∧ rI 9
              rw [eq3]
              simp only [rI]
              omega
            refine mVc_i (by omega) ?_
            exact zWP_fg (fin 0 _ eh (by rw [if_pos (by omega)])) (by repeat (first | exact trivial | refine ⟨rfl, ?_⟩))
      · rw [if_pos c1]
        refine zCl_e (gh_f hv2 (x := (Int32.ofInt ((Int32.ofInt row >>> (Int32.ofInt (2 * (R.1 20 - 1 - i)) &&& 31)).toInt) &&& Int32.ofInt 3).toInt) (by rw [eh]; simp only [rI]; omega) (by rw [eh]; omega)) (by decide) ?_
        refine zBrT rI_0 rfl ?_
        exact ⟨rfl, R, rfl, fr, hv2⟩
  refine zEv_run gX8_totalBehind 40 [18] rfl ?_
  refine zCl_i (wbeg hv hx) (by decide) ?_
  intro o9 h9 q9
  obtain ⟨rfl, f, q, hf2, hg2, rfl⟩ := q9
  refine zCl_e (gtot (S := sA (sA S 8 f) 9 q) hv hx.1 hx.2) (by decide) ?_
  exact l1 mn.toNat 0 _ (sA (sA S 8 f) 9 q) _ _ (by omega) (by omega) (sF_t (sF_A S f ⟨by omega, by omega⟩) (sF_A _ q ⟨by omega, by omega⟩)) hv hf2 hg2 (fun j => gbd hv x j) (fun j => hv.1.2.2.2.2.2.1.2.2.1 j)
set_option maxHeartbeats 1000000 in
set_option maxRecDepth 100000 in
theorem wrh0 (hv : vX S v) (ht : S.1 20 = mn ∧ S.2.1 10 = num) (hm : 1 ≤ mn ∧ mn ≤ 5) (hf : ∀ i : Int, 0 ≤ i → i < mn → 1 ≤ num i.toNat ∧ num i.toNat ≤ 6) {x tt key : Int} (hx : 0 ≤ x ∧ x < v.1 1) (htt : rI tt) (hkey : rI key) : zEv X 5 mX8_rowOfHands [zR 15, zI x, zR 20, zI tt, zI key] (cX S ++ t) (zTo S t (.inl (some (zI (vWn v num mn x tt key)))) v) := by
  have h4 := hv.1.2.2.2.2.1
  have e4 : S.1 16 = v.1 4 := hv.2.2.2.2.2.1
  have h1 := hv.1.2.1
  have e1 : S.1 13 = v.1 1 := hv.2.2.1
  have h2 := hv.1.2.2.1
  have e2 : S.1 14 = v.1 2 := hv.2.2.2.1
  have em := ht.1
  have er := ht.2
  have hmm : 0 ≤ S.1 20 ∧ S.1 20 ≤ 30 := by omega
  have l1 : ∀ (k : Nat) (rs r n : Int) (R : sS), 0 ≤ r → 0 ≤ n ∧ n ≤ r → r + k = rs → rs ≤ 1024 → sF S R → vX R v → zWP X mX8_rowOfHands 5 (zTo S t (.inl (some (zI (vSc (vTh0 v num mn x) tt key k r n)))) v) 24 [some (zR 15), some (zI x), some (zR 20), some (zI tt), some (zI key), some (zI rs), some (zI n), some (zI r)] [] (cX R ++ t) 0 0 := by
    intro k
    induction k with
    | zero =>
      intro rs r n R r0 hn hk hrs fr hr
      refine zWP_run gX8_rowOfHands 60 [24] ?_
      refine zBrT (by simp only [rI]; omega) (by omega) ?_
      simp only [vSc]
      refine zBr ⟨hkey, by simp only [rI]; omega⟩ (fun c => ?_) (fun c => ?_)
      · rw [if_pos c]
        exact ⟨rfl, R, rfl, fr, hr⟩
      · rw [if_neg c]
        exact ⟨rfl, R, rfl, fr, hr⟩
    | succ k ih =>
      intro rs r n R r0 hn hk hrs fr hr
      have hb := vTh0_b hv.1 num hm x r
      refine zWP_run gX8_rowOfHands 60 [24] ?_
      refine zBrF (by simp only [rI]; omega) (by omega) ?_
      refine zCl_t (wtb0 hr ⟨by rw [fr.1 20 (by omega)]; exact em, by rw [fr.2.1 10 (by omega)]; exact er⟩ hm hf hx) (by decide) ?_
      intro R2 f2 hr2
      simp only [vSc]
      refine zBr ⟨by simp only [rI]; omega, htt⟩ (fun c => ?_) (fun c => ?_)
      · rw [if_pos c]
        refine zBr ⟨by simp only [rI]; omega, hkey⟩ (fun c2 => ?_) (fun c2 => ?_)
        · rw [if_pos c2]
          exact ⟨rfl, R2, rfl, sF_t fr f2, hr2⟩
        · rw [if_neg c2]
          exact ih rs (r + 1) (n + 1) R2 (by omega) (by omega) (by omega) hrs (sF_t fr f2) hr2
      · rw [if_neg c]
        exact ih rs (r + 1) n R2 (by omega) (by omega) (by omega) hrs (sF_t fr f2) hr2
  refine zEv_run gX8_rowOfHands 40 [24] rfl ?_
  simp only [vWn]
  by_cases c : tt < 0
  · rw [if_pos c]
    refine zBrF htt (by omega) ?_
    exact l1 0 0 0 0 S (by omega) (by omega) (by omega) (by omega) (sF_r S) hv
  · rw [if_neg c]
    refine zBrT htt (by omega) ?_
    have e9 : (Int32.ofInt 1 <<< (Int32.ofInt (2 * S.1 20) &&& 31)).toInt = 2 ^ (2 * mn).toNat := by rw [em]; exact bt_shl (k := 2 * mn) (by omega) (by omega)
    have k1 := l1 (2 ^ (2 * mn).toNat) (2 ^ (2 * mn).toNat) 0 0 S (by omega) (by omega) (by simp) (by
      have hn : mn = 1 ∨ mn = 2 ∨ mn = 3 ∨ mn = 4 ∨ mn = 5 := by omega
      rcases hn with h9 | h9 | h9 | h9 | h9 <;> rw [h9] <;> decide) (sF_r S) hv
    rw [← e9] at k1
    exact k1
set_option maxHeartbeats 1000000 in
set_option maxRecDepth 100000 in
theorem wlk1 (hv : vX S v) (ht : S.1 23 = mn ∧ S.2.1 11 = num) (hm : 1 ≤ mn ∧ mn ≤ 5) (hf : ∀ i : Int, 0 ≤ i → i < mn → 1 ≤ num i.toNat ∧ num i.toNat ≤ 6) : zEv X 3 mX8_likeliestDie [zR 15, zR 22] (cX S ++ t) (zIs (.inl (some (zI ((vLk v num mn (v.1 1)).1)))) (cX S ++ t)) := by
  have h4 := hv.1.2.2.2.2.1
  have e4 : S.1 16 = v.1 4 := hv.2.2.2.2.2.1
  have h1 := hv.1.2.1
  have e1 : S.1 13 = v.1 1 := hv.2.2.1
  have h2 := hv.1.2.2.1
  have e2 : S.1 14 = v.1 2 := hv.2.2.2.1
  have em := ht.1
  have er := ht.2
  have hmm : 0 ≤ S.1 23 ∧ S.1 23 ≤ 30 := by omega
  have l1 : ∀ (k : Nat) (d x y z : Int), 0 ≤ d → (x, y, z) = vLk v num mn d → 0 ≤ y ∧ y ≤ 3200000 → 0 ≤ z ∧ z ≤ 24883200000 → d + k = v.1 1 → zWP X mX8_likeliestDie 3 (zIs (.inl (some (zI ((vLk v num mn (v.1 1)).1)))) (cX S ++ t)) 10 [some (zR 15), some (zR 22), some (zI x), some (zJ y), none, some (zJ z), none, some (zI d), none, none, none, none] [] (cX S ++ t) 0 0 := by
    intro k
    induction k with
    | zero =>
      intro d x y z d0 hx hy hz hk
      refine zWP_run gX8_likeliestDie 60 [10] ?_
      refine zBrT (by simp only [rI]; omega) (by omega) ?_
      rw [← show d = v.1 1 by omega, ← hx]
      exact ⟨rfl, rfl⟩
    | succ k ih =>
      intro d x y z d0 hx hy hz hk
      have q1 := vWy_b hv.1 num d (i := mn) (by omega) (by omega)
      have q2 := ipow_5 (gtb hv d) (n := mn) (by omega) (by omega)
      have q3 := mul_b q1 hz
      have q4 := mul_b hy q2
      have q5 := gtb hv d
      have l2 : ∀ (k : Nat) (i : Int), 0 ≤ i → i + k = mn → zWP X mX8_likeliestDie 3 (zIs (.inl (some (zI ((vLk v num mn (v.1 1)).1)))) (cX S ++ t)) 28 [some (zR 15), some (zR 22), some (zI x), some (zJ y), none, some (zJ z), none, some (zI d), some (zJ (vWy v num d i)), none, some (zI i), none] [] (cX S ++ t) 0 0 := by
        intro k2
        induction k2 with
        | zero =>
          intro i i0 hk2
          refine zWP_run gX8_likeliestDie 60 [10, 28] ?_
          refine zBrT (by simp only [rI]; omega) (by omega) ?_
          rw [show i = mn by omega]
          refine zCl_e (gtot hv d0 (by omega)) (by decide) ?_
          refine mVc_i (by simp only [rI]; omega) ?_
          refine zCl_e (pow9 (by omega)) (by decide) ?_
          rw [em]
          refine zBr (by simp only [rL]; omega) (fun c => ?_) (fun c => ?_)
          · refine zWP_fg (ih (d + 1) x y z (by omega) ?_ hy hz (by omega)) (by repeat (first | exact trivial | refine ⟨rfl, ?_⟩))
            rw [vLk, zIt_s _ _ d0, ← vLk, ← hx, if_neg (Int.not_lt.mpr c)]
          · refine zWP_fg (ih (d + 1) d (vWy v num d mn) (vTot v.2.1 d ^ mn.toNat) (by omega) ?_ q1 q2 (by omega)) (by repeat (first | exact trivial | refine ⟨rfl, ?_⟩))
            rw [vLk, zIt_s _ _ d0, ← vLk, ← hx, if_pos (Int.not_le.mp c)]
        | succ k2 ih2 =>
          intro i i0 hk2
          refine zWP_run gX8_likeliestDie 60 [10, 28] ?_
          refine zBrF (by simp only [rI]; omega) (by omega) ?_
          refine zCl_e (yface1 hmm (p := i) (by omega) (by omega) (by rw [er]; exact hf i (by omega) (by omega))) (by decide) ?_
          rw [er]
          have hfi := hf i i0 (by omega)
          refine zCl_e (gw hv d0 (by omega) hfi.1 hfi.2) (by decide) ?_
          have hw := gbd hv d (num i.toNat)
          refine mVc_i (by simp only [rI]; omega) ?_
          have k3 := ih2 (i + 1) (by omega) (by omega)
          rw [vWy_s _ _ _ i0] at k3
          exact k3
      refine zWP_run gX8_likeliestDie 60 [10, 28] ?_
      refine zBrF (by simp only [rI]; omega) (by omega) ?_
      exact zWP_fg (l2 mn.toNat 0 (by omega) (by omega)) (by repeat (first | exact trivial | refine ⟨rfl, ?_⟩))
  refine zEv_run gX8_likeliestDie 40 [10] rfl ?_
  exact l1 (v.1 1).toNat 0 (-1) 0 1 (by omega) rfl (by omega) (by omega) (by omega)
set_option maxHeartbeats 1000000 in
set_option maxRecDepth 100000 in
theorem wrd1 (hv : vX S v) (ht : S.1 23 = mn ∧ S.2.1 11 = num) (hm : 1 ≤ mn ∧ mn ≤ 5) (hf : ∀ i : Int, 0 ≤ i → i < mn → 1 ≤ num i.toNat ∧ num i.toNat ≤ 6) : zEv X 3 mX8_rowsOfDice [zR 15, zR 22] (cX S ++ t) (zIs (.inl (some (zI (vRd v num mn)))) (cX S ++ t)) := by
  have h4 := hv.1.2.2.2.2.1
  have e4 : S.1 16 = v.1 4 := hv.2.2.2.2.2.1
  have h1 := hv.1.2.1
  have e1 : S.1 13 = v.1 1 := hv.2.2.1
  have h2 := hv.1.2.2.1
  have e2 : S.1 14 = v.1 2 := hv.2.2.2.1
  have em := ht.1
  have er := ht.2
  have hmm : 0 ≤ S.1 23 ∧ S.1 23 ≤ 30 := by omega
  have l1 : ∀ (k : Nat) (i : Int), 0 ≤ i → i + k = mn → zWP X mX8_rowsOfDice 3 (zIs (.inl (some (zI (vRd v num mn)))) (cX S ++ t)) 4 [some (zR 15), some (zR 22), some (zI (vRd v num i)), some (zI i), none, none] [] (cX S ++ t) 0 0 := by
    intro k
    induction k with
    | zero =>
      intro i i0 hk
      refine zWP_run gX8_rowsOfDice 60 [4] ?_
      refine zBrT (by simp only [rI]; omega) (by omega) ?_
      rw [← show i = mn by omega]
      exact ⟨rfl, rfl⟩
    | succ k ih =>
      intro i i0 hk
      have hfi := hf i i0 (by omega)
      have l2 : ∀ (k : Nat) (d : Int), 0 ≤ d → d + k = v.1 1 → zWP X mX8_rowsOfDice 3 (zIs (.inl (some (zI (vRd v num mn)))) (cX S ++ t)) 18 [some (zR 15), some (zR 22), some (zI (vRd v num i)), some (zI i), some (zI (vCd v (num i.toNat) d)), some (zI d)] [] (cX S ++ t) 0 0 := by
        intro k2
        induction k2 with
        | zero =>
          intro d d0 hk2
          refine zWP_run gX8_rowsOfDice 60 [4, 18] ?_
          refine zBrT (by simp only [rI]; omega) (by omega) ?_
          rw [show d = v.1 1 by omega]
          have k3 := ih (i + 1) (by omega) (by omega)
          rw [vRd_s _ _ i0] at k3
          exact zWP_fg k3 (by repeat (first | exact trivial | refine ⟨rfl, ?_⟩))
        | succ k2 ih2 =>
          intro d d0 hk2
          have hw := gbd hv d (num i.toNat)
          have k3 := ih2 (d + 1) (by omega) (by omega)
          rw [vCd_s _ _ d0] at k3
          refine zWP_run gX8_rowsOfDice 60 [4, 18] ?_
          refine zBrF (by simp only [rI]; omega) (by omega) ?_
          refine zCl_e (yface1 hmm (p := i) (by omega) (by omega) (by rw [er]; exact hf i (by omega) (by omega))) (by decide) ?_
          rw [er]
          refine zCl_e (gw hv d0 (by omega) hfi.1 hfi.2) (by decide) ?_
          refine zBr (by simp only [rI]; omega) (fun c => ?_) (fun c => ?_)
          · rw [if_neg (by omega)] at k3
            exact k3
          · rw [if_pos (by omega)] at k3
            exact k3
      refine zWP_run gX8_rowsOfDice 60 [4, 18] ?_
      refine zBrF (by simp only [rI]; omega) (by omega) ?_
      exact zWP_fg (l2 (v.1 1).toNat 0 (by omega) (by omega)) (by repeat (first | exact trivial | refine ⟨rfl, ?_⟩))
  refine zEv_run gX8_rowsOfDice 40 [4] rfl ?_
  exact l1 mn.toNat 0 (by omega) (by omega)
set_option maxHeartbeats 1000000 in
set_option maxRecDepth 100000 in
theorem wtb1 (hv : vX S v) (ht : S.1 23 = mn ∧ S.2.1 11 = num) (hm : 1 ≤ mn ∧ mn ≤ 5) (hf : ∀ i : Int, 0 ≤ i → i < mn → 1 ≤ num i.toNat ∧ num i.toNat ≤ 6) {x row : Int} (hx : 0 ≤ x ∧ x < v.1 1) : zEv X 4 mX8_totalBehind [zR 15, zI x, zR 22, zI row] (cX S ++ t) (zTo S t (.inl (some (zI (vTh0 v num mn x row)))) v) := by
  have h4 := hv.1.2.2.2.2.1
  have e4 : S.1 16 = v.1 4 := hv.2.2.2.2.2.1
  have h1 := hv.1.2.1
  have e1 : S.1 13 = v.1 1 := hv.2.2.1
  have h2 := hv.1.2.2.1
  have e2 : S.1 14 = v.1 2 := hv.2.2.2.1
  have em := ht.1
  have er := ht.2
  have hmm : 0 ≤ S.1 23 ∧ S.1 23 ≤ 30 := by omega
  have hs := hv.1.2.2.2.2.2.1.2.1 x
  have l1 : ∀ (k : Nat) (i tt : Int) (R : sS) (w hh : Int → Int), 0 ≤ i → i + k = mn → sF S R → vX R v → (∀ j : Int, 1 ≤ j → j ≤ 6 → R.2.1 8 j.toNat = w j) → (∀ j : Int, 0 ≤ j → j < v.1 2 → R.2.1 9 j.toNat = hh j) → (∀ j, 0 ≤ w j ∧ w j ≤ 20) → (∀ j, 0 ≤ hh j ∧ hh j ≤ 9) → zWP X mX8_totalBehind 4 (zTo S t (.inl (some (zI (vTb v num mn x row k i w hh tt)))) v) 18 [some (zR 15), some (zI x), some (zR 22), some (zI row), some (zI tt), some (zI i), none, none, none] [] (cX (R) ++ t) 0 0 := by
    intro k
    induction k with
    | zero =>
      intro i tt R w hh i0 hk fr hv2 hw hq bw bq
      have em2 : R.1 23 = mn := by rw [fr.1 23 (by omega)]; exact em
      have er2 : R.2.1 11 = num := by rw [fr.2.1 11 (by omega)]; exact er
      have hmm2 : 0 ≤ R.1 23 ∧ R.1 23 ≤ 30 := by omega
      refine zWP_run gX8_totalBehind 100 [18] ?_
      refine zBrT (by simp only [rI]; omega) (by omega) ?_
      exact ⟨rfl, R, rfl, fr, hv2⟩
    | succ k ih =>
      intro i tt R w hh i0 hk fr hv2 hw hq bw bq
      have em2 : R.1 23 = mn := by rw [fr.1 23 (by omega)]; exact em
      have er2 : R.2.1 11 = num := by rw [fr.2.1 11 (by omega)]; exact er
      have hmm2 : 0 ≤ R.1 23 ∧ R.1 23 ≤ 30 := by omega
      have hfi := hf i i0 (by omega)
      have hnb := hnd_b row (2 * (mn - 1 - i))
      have b1 := bw (num i.toNat)
      have b2 := bq (hnd row (2 * (mn - 1 - i)))
      have ef := hw (num i.toNat) hfi.1 hfi.2
      refine zWP_run gX8_totalBehind 100 [18] ?_
      refine zBrF (by simp only [rI]; omega) (by omega) ?_
      refine zCl_e (yface1 hmm2 (p := i) (by omega) (by omega) (by rw [er2]; exact hfi)) (by decide) ?_
      have eh : (Int32.ofInt ((Int32.ofInt row >>> (Int32.ofInt (2 * (R.1 23 - 1 - i)) &&& 31)).toInt) &&& Int32.ofInt 3).toInt = hnd row (2 * (mn - 1 - i)) := by rw [em2]; rfl
      rw [er2]
      simp only [vTb]
      by_cases c1 : hnd row (2 * (mn - 1 - i)) < v.1 2
      · rw [if_neg (fun z => z c1)]
        refine zCl_e (gh_t hv2 (x := (Int32.ofInt ((Int32.ofInt row >>> (Int32.ofInt (2 * (R.1 23 - 1 - i)) &&& 31)).toInt) &&& Int32.ofInt 3).toInt) (by rw [eh]; exact hnb.1) (by rw [eh]; exact c1)) (by decide) ?_
        refine zBrF rI_1 (by omega) ?_
        refine mVc_i (by omega) ?_
        have eq2 := hq (hnd row (2 * (mn - 1 - i))) hnb.1 c1
        by_cases c2 : w (num i.toNat) = 0
        · rw [if_pos c2]
          refine zBrT (by simp only [rI]; show _ ≤ R.2.1 8 (num i.toNat).toNat ∧ R.2.1 8 (num i.toNat).toNat < _; omega) (by show R.2.1 8 (num i.toNat).toNat = 0; omega) ?_
          exact ⟨rfl, R, rfl, fr, hv2⟩
        · rw [if_neg c2]
          refine zBrF (by simp only [rI]; show _ ≤ R.2.1 8 (num i.toNat).toNat ∧ R.2.1 8 (num i.toNat).toNat < _; omega) (by show ¬ R.2.1 8 (num i.toNat).toNat = 0; omega) ?_
          refine zCl_e (gsalt hv2 hx.1 hx.2) (by decide) ?_
          have fin : ∀ lost y : Int, y = hnd row (2 * (mn - 1 - i)) → lost = (if v.2.1.2.1 x = 1 then 0 else min (w (num i.toNat)) (hh (hnd row (2 * (mn - 1 - i))))) → zWP X mX8_totalBehind 4 (zTo S t (.inl (some (zI (vTb v num mn x row k (i + 1) (fun f => if f = num i.toNat then w (num i.toNat) - (if v.2.1.2.1 x = 1 then 0 else min (w (num i.toNat)) (hh (hnd row (2 * (mn - 1 - i))))) else w f) (fun q => if q = hnd row (2 * (mn - 1 - i)) then min (hh (hnd row (2 * (mn - 1 - i))) + 1) 9 else hh q) (tt - (if v.2.1.2.1 x = 1 then 0 else min (w (num i.toNat)) (hh (hnd row (2 * (mn - 1 - i)))))))))) v) 18 [some (zR 15), some (zI x), some (zR 22), some (zI row), some (zI (tt - lost)), some (zI (i + 1)), none, none, none] [] (cX (sA (sA R 8 (va_up (R.2.1 8) (num i.toNat).toNat (R.2.1 8 (num i.toNat).toNat - lost))) 9 (va_up (R.2.1 9) y.toNat (min (R.2.1 9 y.toNat + 1) 9))) ++ t) 0 0 := by
            intro lost y hy hl
            rw [← hl, hy]
            have b3 : 0 ≤ lost ∧ lost ≤ w (num i.toNat) := by
              rw [hl]
              split <;> omega
            refine ih (i + 1) (tt - lost) _ _ _ (by omega) (by omega) (sF_t fr (sF_t (sF_A R (r := 8) _ ⟨by omega, by omega⟩) (sF_A _ (r := 9) _ ⟨by omega, by omega⟩))) hv2 (fun j j0 j1 => ?_) (fun j j0 j1 => ?_) (fun j => ?_) (fun j => ?_)
            · by_cases e : j = num i.toNat
              · rw [if_pos e, e, ← ef]; exact va_up_s _ _ _
              · rw [if_neg e, ← hw j j0 j1]; exact va_up_o _ _ (by omega)
            · by_cases e : j = hnd row (2 * (mn - 1 - i))
              · rw [if_pos e, e, ← eq2]; exact va_up_s _ _ _
              · rw [if_neg e, ← hq j j0 j1]; exact va_up_o _ _ (by omega)
            · by_cases e : j = num i.toNat
              · rw [if_pos e]; omega
              · rw [if_neg e]; exact bw j
            · by_cases e : j = hnd row (2 * (mn - 1 - i))
              · rw [if_pos e]; omega
              · rw [if_neg e]; exact bq j
          have eq3 : R.2.1 9 ((Int32.ofInt ((Int32.ofInt row >>> (Int32.ofInt (2 * (R.1 23 - 1 - i)) &&& 31)).toInt) &&& Int32.ofInt 3).toInt).toNat = hh (hnd row (2 * (mn - 1 - i))) := by rw [eh]; exact eq2
          have hn3 : 0 ≤ (Int32.ofInt ((Int32.ofInt row >>> (Int32.ofInt (2 * (R.1 23 - 1 - i)) &&& 31)).toInt) &&& Int32.ofInt 3).toInt ∧ (Int32.ofInt ((Int32.ofInt row >>> (Int32.ofInt (2 * (R.1 23 - 1 - i)) &&& 31)).toInt) &&& Int32.ofInt 3).toInt < 4 := by rw [eh]; exact hnb
          refine zBr (by simp only [rI]; omega) (fun c3 => ?_) (fun c3 => ?_)
          · refine mVc_i (by omega) ?_
            refine mVc_i (by omega) ?_
            refine mVc_i ?_ ?_
            · show rI (R.2.1 8 (num i.toNat).toNat) ∧ rI (R.2.1 9 _)
              rw [ef, eq3]
              simp only [rI]
              omega
            refine mVc_i (by omega) ?_
            refine mVc_i (by omega) ?_
            refine mVc_i (by omega) ?_
            refine mVc_i ?_ ?_
            · show rI (R.2.1 9 _ + 1) ∧ rI 9
              rw [eq3]
              simp only [rI]
              omega
            refine mVc_i (by omega) ?_
            exact zWP_fg (fin _ _ eh (by rw [if_neg (by omega), ef, eq3])) (by repeat (first | exact trivial | refine ⟨rfl, ?_⟩))
          · refine mVc_i (by omega) ?_
            refine mVc_i (by omega) ?_
            refine mVc_i (by omega) ?_
            refine mVc_i ?_ ?_
            · show rI (R.2.1 9 _ + 1) ∧ rI 9
              rw [eq3]
              simp only [rI]
              omega
            refine mVc_i (by omega) ?_
            exact zWP_fg (fin 0 _ eh (by rw [if_pos (by omega)])) (by repeat (first | exact trivial | refine ⟨rfl, ?_⟩))
      · rw [if_pos c1]
        refine zCl_e (gh_f hv2 (x := (Int32.ofInt ((Int32.ofInt row >>> (Int32.ofInt (2 * (R.1 23 - 1 - i)) &&& 31)).toInt) &&& Int32.ofInt 3).toInt) (by rw [eh]; simp only [rI]; omega) (by rw [eh]; omega)) (by decide) ?_
        refine zBrT rI_0 rfl ?_
        exact ⟨rfl, R, rfl, fr, hv2⟩
  refine zEv_run gX8_totalBehind 40 [18] rfl ?_
  refine zCl_i (wbeg hv hx) (by decide) ?_
  intro o9 h9 q9
  obtain ⟨rfl, f, q, hf2, hg2, rfl⟩ := q9
  refine zCl_e (gtot (S := sA (sA S 8 f) 9 q) hv hx.1 hx.2) (by decide) ?_
  exact l1 mn.toNat 0 _ (sA (sA S 8 f) 9 q) _ _ (by omega) (by omega) (sF_t (sF_A S f ⟨by omega, by omega⟩) (sF_A _ q ⟨by omega, by omega⟩)) hv hf2 hg2 (fun j => gbd hv x j) (fun j => hv.1.2.2.2.2.2.1.2.2.1 j)
set_option maxHeartbeats 1000000 in
set_option maxRecDepth 100000 in
theorem wrh1 (hv : vX S v) (ht : S.1 23 = mn ∧ S.2.1 11 = num) (hm : 1 ≤ mn ∧ mn ≤ 5) (hf : ∀ i : Int, 0 ≤ i → i < mn → 1 ≤ num i.toNat ∧ num i.toNat ≤ 6) {x tt key : Int} (hx : 0 ≤ x ∧ x < v.1 1) (htt : rI tt) (hkey : rI key) : zEv X 5 mX8_rowOfHands [zR 15, zI x, zR 22, zI tt, zI key] (cX S ++ t) (zTo S t (.inl (some (zI (vWn v num mn x tt key)))) v) := by
  have h4 := hv.1.2.2.2.2.1
  have e4 : S.1 16 = v.1 4 := hv.2.2.2.2.2.1
  have h1 := hv.1.2.1
  have e1 : S.1 13 = v.1 1 := hv.2.2.1
  have h2 := hv.1.2.2.1
  have e2 : S.1 14 = v.1 2 := hv.2.2.2.1
  have em := ht.1
  have er := ht.2
  have hmm : 0 ≤ S.1 23 ∧ S.1 23 ≤ 30 := by omega
  have l1 : ∀ (k : Nat) (rs r n : Int) (R : sS), 0 ≤ r → 0 ≤ n ∧ n ≤ r → r + k = rs → rs ≤ 1024 → sF S R → vX R v → zWP X mX8_rowOfHands 5 (zTo S t (.inl (some (zI (vSc (vTh0 v num mn x) tt key k r n)))) v) 24 [some (zR 15), some (zI x), some (zR 22), some (zI tt), some (zI key), some (zI rs), some (zI n), some (zI r)] [] (cX R ++ t) 0 0 := by
    intro k
    induction k with
    | zero =>
      intro rs r n R r0 hn hk hrs fr hr
      refine zWP_run gX8_rowOfHands 60 [24] ?_
      refine zBrT (by simp only [rI]; omega) (by omega) ?_
      simp only [vSc]
      refine zBr ⟨hkey, by simp only [rI]; omega⟩ (fun c => ?_) (fun c => ?_)
      · rw [if_pos c]
        exact ⟨rfl, R, rfl, fr, hr⟩
      · rw [if_neg c]
        exact ⟨rfl, R, rfl, fr, hr⟩
    | succ k ih =>
      intro rs r n R r0 hn hk hrs fr hr
      have hb := vTh0_b hv.1 num hm x r
      refine zWP_run gX8_rowOfHands 60 [24] ?_
      refine zBrF (by simp only [rI]; omega) (by omega) ?_
      refine zCl_t (wtb1 hr ⟨by rw [fr.1 23 (by omega)]; exact em, by rw [fr.2.1 11 (by omega)]; exact er⟩ hm hf hx) (by decide) ?_
      intro R2 f2 hr2
      simp only [vSc]
      refine zBr ⟨by simp only [rI]; omega, htt⟩ (fun c => ?_) (fun c => ?_)
      · rw [if_pos c]
        refine zBr ⟨by simp only [rI]; omega, hkey⟩ (fun c2 => ?_) (fun c2 => ?_)
        · rw [if_pos c2]
          exact ⟨rfl, R2, rfl, sF_t fr f2, hr2⟩
        · rw [if_neg c2]
          exact ih rs (r + 1) (n + 1) R2 (by omega) (by omega) (by omega) hrs (sF_t fr f2) hr2
      · rw [if_neg c]
        exact ih rs (r + 1) n R2 (by omega) (by omega) (by omega) hrs (sF_t fr f2) hr2
  refine zEv_run gX8_rowOfHands 40 [24] rfl ?_
  simp only [vWn]
  by_cases c : tt < 0
  · rw [if_pos c]
    refine zBrF htt (by omega) ?_
    exact l1 0 0 0 0 S (by omega) (by omega) (by omega) (by omega) (sF_r S) hv
  · rw [if_neg c]
    refine zBrT htt (by omega) ?_
    have e9 : (Int32.ofInt 1 <<< (Int32.ofInt (2 * S.1 23) &&& 31)).toInt = 2 ^ (2 * mn).toNat := by rw [em]; exact bt_shl (k := 2 * mn) (by omega) (by omega)
    have k1 := l1 (2 ^ (2 * mn).toNat) (2 ^ (2 * mn).toNat) 0 0 S (by omega) (by omega) (by simp) (by
      have hn : mn = 1 ∨ mn = 2 ∨ mn = 3 ∨ mn = 4 ∨ mn = 5 := by omega
      rcases hn with h9 | h9 | h9 | h9 | h9 <;> rw [h9] <;> decide) (sF_r S) hv
    rw [← e9] at k1
    exact k1
set_option maxHeartbeats 1000000 in
set_option maxRecDepth 100000 in
theorem wlk2 (hv : vX S v) (ht : S.1 26 = mn ∧ S.2.1 12 = num) (hm : 1 ≤ mn ∧ mn ≤ 5) (hf : ∀ i : Int, 0 ≤ i → i < mn → 1 ≤ num i.toNat ∧ num i.toNat ≤ 6) : zEv X 3 mX8_likeliestDie [zR 15, zR 24] (cX S ++ t) (zIs (.inl (some (zI ((vLk v num mn (v.1 1)).1)))) (cX S ++ t)) := by
  have h4 := hv.1.2.2.2.2.1
  have e4 : S.1 16 = v.1 4 := hv.2.2.2.2.2.1
  have h1 := hv.1.2.1
  have e1 : S.1 13 = v.1 1 := hv.2.2.1
  have h2 := hv.1.2.2.1
  have e2 : S.1 14 = v.1 2 := hv.2.2.2.1
  have em := ht.1
  have er := ht.2
  have hmm : 0 ≤ S.1 26 ∧ S.1 26 ≤ 30 := by omega
  have l1 : ∀ (k : Nat) (d x y z : Int), 0 ≤ d → (x, y, z) = vLk v num mn d → 0 ≤ y ∧ y ≤ 3200000 → 0 ≤ z ∧ z ≤ 24883200000 → d + k = v.1 1 → zWP X mX8_likeliestDie 3 (zIs (.inl (some (zI ((vLk v num mn (v.1 1)).1)))) (cX S ++ t)) 10 [some (zR 15), some (zR 24), some (zI x), some (zJ y), none, some (zJ z), none, some (zI d), none, none, none, none] [] (cX S ++ t) 0 0 := by
    intro k
    induction k with
    | zero =>
      intro d x y z d0 hx hy hz hk
      refine zWP_run gX8_likeliestDie 60 [10] ?_
      refine zBrT (by simp only [rI]; omega) (by omega) ?_
      rw [← show d = v.1 1 by omega, ← hx]
      exact ⟨rfl, rfl⟩
    | succ k ih =>
      intro d x y z d0 hx hy hz hk
      have q1 := vWy_b hv.1 num d (i := mn) (by omega) (by omega)
      have q2 := ipow_5 (gtb hv d) (n := mn) (by omega) (by omega)
      have q3 := mul_b q1 hz
      have q4 := mul_b hy q2
      have q5 := gtb hv d
      have l2 : ∀ (k : Nat) (i : Int), 0 ≤ i → i + k = mn → zWP X mX8_likeliestDie 3 (zIs (.inl (some (zI ((vLk v num mn (v.1 1)).1)))) (cX S ++ t)) 28 [some (zR 15), some (zR 24), some (zI x), some (zJ y), none, some (zJ z), none, some (zI d), some (zJ (vWy v num d i)), none, some (zI i), none] [] (cX S ++ t) 0 0 := by
        intro k2
        induction k2 with
        | zero =>
          intro i i0 hk2
          refine zWP_run gX8_likeliestDie 60 [10, 28] ?_
          refine zBrT (by simp only [rI]; omega) (by omega) ?_
          rw [show i = mn by omega]
          refine zCl_e (gtot hv d0 (by omega)) (by decide) ?_
          refine mVc_i (by simp only [rI]; omega) ?_
          refine zCl_e (pow9 (by omega)) (by decide) ?_
          rw [em]
          refine zBr (by simp only [rL]; omega) (fun c => ?_) (fun c => ?_)
          · refine zWP_fg (ih (d + 1) x y z (by omega) ?_ hy hz (by omega)) (by repeat (first | exact trivial | refine ⟨rfl, ?_⟩))
            rw [vLk, zIt_s _ _ d0, ← vLk, ← hx, if_neg (Int.not_lt.mpr c)]
          · refine zWP_fg (ih (d + 1) d (vWy v num d mn) (vTot v.2.1 d ^ mn.toNat) (by omega) ?_ q1 q2 (by omega)) (by repeat (first | exact trivial | refine ⟨rfl, ?_⟩))
            rw [vLk, zIt_s _ _ d0, ← vLk, ← hx, if_pos (Int.not_le.mp c)]
        | succ k2 ih2 =>
          intro i i0 hk2
          refine zWP_run gX8_likeliestDie 60 [10, 28] ?_
          refine zBrF (by simp only [rI]; omega) (by omega) ?_
          refine zCl_e (yface2 hmm (p := i) (by omega) (by omega) (by rw [er]; exact hf i (by omega) (by omega))) (by decide) ?_
          rw [er]
          have hfi := hf i i0 (by omega)
          refine zCl_e (gw hv d0 (by omega) hfi.1 hfi.2) (by decide) ?_
          have hw := gbd hv d (num i.toNat)
          refine mVc_i (by simp only [rI]; omega) ?_
          have k3 := ih2 (i + 1) (by omega) (by omega)
          rw [vWy_s _ _ _ i0] at k3
          exact k3
      refine zWP_run gX8_likeliestDie 60 [10, 28] ?_
      refine zBrF (by simp only [rI]; omega) (by omega) ?_
      exact zWP_fg (l2 mn.toNat 0 (by omega) (by omega)) (by repeat (first | exact trivial | refine ⟨rfl, ?_⟩))
  refine zEv_run gX8_likeliestDie 40 [10] rfl ?_
  exact l1 (v.1 1).toNat 0 (-1) 0 1 (by omega) rfl (by omega) (by omega) (by omega)
set_option maxHeartbeats 1000000 in
set_option maxRecDepth 100000 in
theorem wrd2 (hv : vX S v) (ht : S.1 26 = mn ∧ S.2.1 12 = num) (hm : 1 ≤ mn ∧ mn ≤ 5) (hf : ∀ i : Int, 0 ≤ i → i < mn → 1 ≤ num i.toNat ∧ num i.toNat ≤ 6) : zEv X 3 mX8_rowsOfDice [zR 15, zR 24] (cX S ++ t) (zIs (.inl (some (zI (vRd v num mn)))) (cX S ++ t)) := by
  have h4 := hv.1.2.2.2.2.1
  have e4 : S.1 16 = v.1 4 := hv.2.2.2.2.2.1
  have h1 := hv.1.2.1
  have e1 : S.1 13 = v.1 1 := hv.2.2.1
  have h2 := hv.1.2.2.1
  have e2 : S.1 14 = v.1 2 := hv.2.2.2.1
  have em := ht.1
  have er := ht.2
  have hmm : 0 ≤ S.1 26 ∧ S.1 26 ≤ 30 := by omega
  have l1 : ∀ (k : Nat) (i : Int), 0 ≤ i → i + k = mn → zWP X mX8_rowsOfDice 3 (zIs (.inl (some (zI (vRd v num mn)))) (cX S ++ t)) 4 [some (zR 15), some (zR 24), some (zI (vRd v num i)), some (zI i), none, none] [] (cX S ++ t) 0 0 := by
    intro k
    induction k with
    | zero =>
      intro i i0 hk
      refine zWP_run gX8_rowsOfDice 60 [4] ?_
      refine zBrT (by simp only [rI]; omega) (by omega) ?_
      rw [← show i = mn by omega]
      exact ⟨rfl, rfl⟩
    | succ k ih =>
      intro i i0 hk
      have hfi := hf i i0 (by omega)
      have l2 : ∀ (k : Nat) (d : Int), 0 ≤ d → d + k = v.1 1 → zWP X mX8_rowsOfDice 3 (zIs (.inl (some (zI (vRd v num mn)))) (cX S ++ t)) 18 [some (zR 15), some (zR 24), some (zI (vRd v num i)), some (zI i), some (zI (vCd v (num i.toNat) d)), some (zI d)] [] (cX S ++ t) 0 0 := by
        intro k2
        induction k2 with
        | zero =>
          intro d d0 hk2
          refine zWP_run gX8_rowsOfDice 60 [4, 18] ?_
          refine zBrT (by simp only [rI]; omega) (by omega) ?_
          rw [show d = v.1 1 by omega]
          have k3 := ih (i + 1) (by omega) (by omega)
          rw [vRd_s _ _ i0] at k3
          exact zWP_fg k3 (by repeat (first | exact trivial | refine ⟨rfl, ?_⟩))
        | succ k2 ih2 =>
          intro d d0 hk2
          have hw := gbd hv d (num i.toNat)
          have k3 := ih2 (d + 1) (by omega) (by omega)
          rw [vCd_s _ _ d0] at k3
          refine zWP_run gX8_rowsOfDice 60 [4, 18] ?_
          refine zBrF (by simp only [rI]; omega) (by omega) ?_
          refine zCl_e (yface2 hmm (p := i) (by omega) (by omega) (by rw [er]; exact hf i (by omega) (by omega))) (by decide) ?_
          rw [er]
          refine zCl_e (gw hv d0 (by omega) hfi.1 hfi.2) (by decide) ?_
          refine zBr (by simp only [rI]; omega) (fun c => ?_) (fun c => ?_)
          · rw [if_neg (by omega)] at k3
            exact k3
          · rw [if_pos (by omega)] at k3
            exact k3
      refine zWP_run gX8_rowsOfDice 60 [4, 18] ?_
      refine zBrF (by simp only [rI]; omega) (by omega) ?_
      exact zWP_fg (l2 (v.1 1).toNat 0 (by omega) (by omega)) (by repeat (first | exact trivial | refine ⟨rfl, ?_⟩))
  refine zEv_run gX8_rowsOfDice 40 [4] rfl ?_
  exact l1 mn.toNat 0 (by omega) (by omega)
set_option maxHeartbeats 1000000 in
set_option maxRecDepth 100000 in
theorem wtb2 (hv : vX S v) (ht : S.1 26 = mn ∧ S.2.1 12 = num) (hm : 1 ≤ mn ∧ mn ≤ 5) (hf : ∀ i : Int, 0 ≤ i → i < mn → 1 ≤ num i.toNat ∧ num i.toNat ≤ 6) {x row : Int} (hx : 0 ≤ x ∧ x < v.1 1) : zEv X 4 mX8_totalBehind [zR 15, zI x, zR 24, zI row] (cX S ++ t) (zTo S t (.inl (some (zI (vTh0 v num mn x row)))) v) := by
  have h4 := hv.1.2.2.2.2.1
  have e4 : S.1 16 = v.1 4 := hv.2.2.2.2.2.1
  have h1 := hv.1.2.1
  have e1 : S.1 13 = v.1 1 := hv.2.2.1
  have h2 := hv.1.2.2.1
  have e2 : S.1 14 = v.1 2 := hv.2.2.2.1
  have em := ht.1
  have er := ht.2
  have hmm : 0 ≤ S.1 26 ∧ S.1 26 ≤ 30 := by omega
  have hs := hv.1.2.2.2.2.2.1.2.1 x
  have l1 : ∀ (k : Nat) (i tt : Int) (R : sS) (w hh : Int → Int), 0 ≤ i → i + k = mn → sF S R → vX R v → (∀ j : Int, 1 ≤ j → j ≤ 6 → R.2.1 8 j.toNat = w j) → (∀ j : Int, 0 ≤ j → j < v.1 2 → R.2.1 9 j.toNat = hh j) → (∀ j, 0 ≤ w j ∧ w j ≤ 20) → (∀ j, 0 ≤ hh j ∧ hh j ≤ 9) → zWP X mX8_totalBehind 4 (zTo S t (.inl (some (zI (vTb v num mn x row k i w hh tt)))) v) 18 [some (zR 15), some (zI x), some (zR 24), some (zI row), some (zI tt), some (zI i), none, none, none] [] (cX (R) ++ t) 0 0 := by
    intro k
    induction k with
    | zero =>
      intro i tt R w hh i0 hk fr hv2 hw hq bw bq
      have em2 : R.1 26 = mn := by rw [fr.1 26 (by omega)]; exact em
      have er2 : R.2.1 12 = num := by rw [fr.2.1 12 (by omega)]; exact er
      have hmm2 : 0 ≤ R.1 26 ∧ R.1 26 ≤ 30 := by omega
      refine zWP_run gX8_totalBehind 100 [18] ?_
      refine zBrT (by simp only [rI]; omega) (by omega) ?_
      exact ⟨rfl, R, rfl, fr, hv2⟩
    | succ k ih =>
      intro i tt R w hh i0 hk fr hv2 hw hq bw bq
      have em2 : R.1 26 = mn := by rw [fr.1 26 (by omega)]; exact em
      have er2 : R.2.1 12 = num := by rw [fr.2.1 12 (by omega)]; exact er
      have hmm2 : 0 ≤ R.1 26 ∧ R.1 26 ≤ 30 := by omega
      have hfi := hf i i0 (by omega)
      have hnb := hnd_b row (2 * (mn - 1 - i))
      have b1 := bw (num i.toNat)
      have b2 := bq (hnd row (2 * (mn - 1 - i)))
      have ef := hw (num i.toNat) hfi.1 hfi.2
      refine zWP_run gX8_totalBehind 100 [18] ?_
      refine zBrF (by simp only [rI]; omega) (by omega) ?_
      refine zCl_e (yface2 hmm2 (p := i) (by omega) (by omega) (by rw [er2]; exact hfi)) (by decide) ?_
      have eh : (Int32.ofInt ((Int32.ofInt row >>> (Int32.ofInt (2 * (R.1 26 - 1 - i)) &&& 31)).toInt) &&& Int32.ofInt 3).toInt = hnd row (2 * (mn - 1 - i)) := by rw [em2]; rfl
      rw [er2]
      simp only [vTb]
      by_cases c1 : hnd row (2 * (mn - 1 - i)) < v.1 2
      · rw [if_neg (fun z => z c1)]
        refine zCl_e (gh_t hv2 (x := (Int32.ofInt ((Int32.ofInt row >>> (Int32.ofInt (2 * (R.1 26 - 1 - i)) &&& 31)).toInt) &&& Int32.ofInt 3).toInt) (by rw [eh]; exact hnb.1) (by rw [eh]; exact c1)) (by decide) ?_
        refine zBrF rI_1 (by omega) ?_
        refine mVc_i (by omega) ?_
        have eq2 := hq (hnd row (2 * (mn - 1 - i))) hnb.1 c1
        by_cases c2 : w (num i.toNat) = 0
        · rw [if_pos c2]
          refine zBrT (by simp only [rI]; show _ ≤ R.2.1 8 (num i.toNat).toNat ∧ R.2.1 8 (num i.toNat).toNat < _; omega) (by show R.2.1 8 (num i.toNat).toNat = 0; omega) ?_
          exact ⟨rfl, R, rfl, fr, hv2⟩
        · rw [if_neg c2]
          refine zBrF (by simp only [rI]; show _ ≤ R.2.1 8 (num i.toNat).toNat ∧ R.2.1 8 (num i.toNat).toNat < _; omega) (by show ¬ R.2.1 8 (num i.toNat).toNat = 0; omega) ?_
          refine zCl_e (gsalt hv2 hx.1 hx.2) (by decide) ?_
          have fin : ∀ lost y : Int, y = hnd row (2 * (mn - 1 - i)) → lost = (if v.2.1.2.1 x = 1 then 0 else min (w (num i.toNat)) (hh (hnd row (2 * (mn - 1 - i))))) → zWP X mX8_totalBehind 4 (zTo S t (.inl (some (zI (vTb v num mn x row k (i + 1) (fun f => if f = num i.toNat then w (num i.toNat) - (if v.2.1.2.1 x = 1 then 0 else min (w (num i.toNat)) (hh (hnd row (2 * (mn - 1 - i))))) else w f) (fun q => if q = hnd row (2 * (mn - 1 - i)) then min (hh (hnd row (2 * (mn - 1 - i))) + 1) 9 else hh q) (tt - (if v.2.1.2.1 x = 1 then 0 else min (w (num i.toNat)) (hh (hnd row (2 * (mn - 1 - i)))))))))) v) 18 [some (zR 15), some (zI x), some (zR 24), some (zI row), some (zI (tt - lost)), some (zI (i + 1)), none, none, none] [] (cX (sA (sA R 8 (va_up (R.2.1 8) (num i.toNat).toNat (R.2.1 8 (num i.toNat).toNat - lost))) 9 (va_up (R.2.1 9) y.toNat (min (R.2.1 9 y.toNat + 1) 9))) ++ t) 0 0 := by
            intro lost y hy hl
            rw [← hl, hy]
            have b3 : 0 ≤ lost ∧ lost ≤ w (num i.toNat) := by
              rw [hl]
              split <;> omega
            refine ih (i + 1) (tt - lost) _ _ _ (by omega) (by omega) (sF_t fr (sF_t (sF_A R (r := 8) _ ⟨by omega, by omega⟩) (sF_A _ (r := 9) _ ⟨by omega, by omega⟩))) hv2 (fun j j0 j1 => ?_) (fun j j0 j1 => ?_) (fun j => ?_) (fun j => ?_)
            · by_cases e : j = num i.toNat
              · rw [if_pos e, e, ← ef]; exact va_up_s _ _ _
              · rw [if_neg e, ← hw j j0 j1]; exact va_up_o _ _ (by omega)
            · by_cases e : j = hnd row (2 * (mn - 1 - i))
              · rw [if_pos e, e, ← eq2]; exact va_up_s _ _ _
              · rw [if_neg e, ← hq j j0 j1]; exact va_up_o _ _ (by omega)
            · by_cases e : j = num i.toNat
              · rw [if_pos e]; omega
              · rw [if_neg e]; exact bw j
            · by_cases e : j = hnd row (2 * (mn - 1 - i))
              · rw [if_pos e]; omega
              · rw [if_neg e]; exact bq j
          have eq3 : R.2.1 9 ((Int32.ofInt ((Int32.ofInt row >>> (Int32.ofInt (2 * (R.1 26 - 1 - i)) &&& 31)).toInt) &&& Int32.ofInt 3).toInt).toNat = hh (hnd row (2 * (mn - 1 - i))) := by rw [eh]; exact eq2
          have hn3 : 0 ≤ (Int32.ofInt ((Int32.ofInt row >>> (Int32.ofInt (2 * (R.1 26 - 1 - i)) &&& 31)).toInt) &&& Int32.ofInt 3).toInt ∧ (Int32.ofInt ((Int32.ofInt row >>> (Int32.ofInt (2 * (R.1 26 - 1 - i)) &&& 31)).toInt) &&& Int32.ofInt 3).toInt < 4 := by rw [eh]; exact hnb
          refine zBr (by simp only [rI]; omega) (fun c3 => ?_) (fun c3 => ?_)
          · refine mVc_i (by omega) ?_
            refine mVc_i (by omega) ?_
            refine mVc_i ?_ ?_
            · show rI (R.2.1 8 (num i.toNat).toNat) ∧ rI (R.2.1 9 _)
              rw [ef, eq3]
              simp only [rI]
              omega
            refine mVc_i (by omega) ?_
            refine mVc_i (by omega) ?_
            refine mVc_i (by omega) ?_
            refine mVc_i ?_ ?_
            · show rI (R.2.1 9 _ + 1) ∧ rI 9
              rw [eq3]
              simp only [rI]
              omega
            refine mVc_i (by omega) ?_
            exact zWP_fg (fin _ _ eh (by rw [if_neg (by omega), ef, eq3])) (by repeat (first | exact trivial | refine ⟨rfl, ?_⟩))
          · refine mVc_i (by omega) ?_
            refine mVc_i (by omega) ?_
            refine mVc_i (by omega) ?_
            refine mVc_i ?_ ?_
            · show rI (R.2.1 9 _ + 1) ∧ rI 9
              rw [eq3]
              simp only [rI]
              omega
            refine mVc_i (by omega) ?_
            exact zWP_fg (fin 0 _ eh (by rw [if_pos (by omega)])) (by repeat (first | exact trivial | refine ⟨rfl, ?_⟩))
      · rw [if_pos c1]
        refine zCl_e (gh_f hv2 (x := (Int32.ofInt ((Int32.ofInt row >>> (Int32.ofInt (2 * (R.1 26 - 1 - i)) &&& 31)).toInt) &&& Int32.ofInt 3).toInt) (by rw [eh]; simp only [rI]; omega) (by rw [eh]; omega)) (by decide) ?_
        refine zBrT rI_0 rfl ?_
        exact ⟨rfl, R, rfl, fr, hv2⟩
  refine zEv_run gX8_totalBehind 40 [18] rfl ?_
  refine zCl_i (wbeg hv hx) (by decide) ?_
  intro o9 h9 q9
  obtain ⟨rfl, f, q, hf2, hg2, rfl⟩ := q9
  refine zCl_e (gtot (S := sA (sA S 8 f) 9 q) hv hx.1 hx.2) (by decide) ?_
  exact l1 mn.toNat 0 _ (sA (sA S 8 f) 9 q) _ _ (by omega) (by omega) (sF_t (sF_A S f ⟨by omega, by omega⟩) (sF_A _ q ⟨by omega, by omega⟩)) hv hf2 hg2 (fun j => gbd hv x j) (fun j => hv.1.2.2.2.2.2.1.2.2.1 j)
set_option maxHeartbeats 1000000 in
set_option maxRecDepth 100000 in
theorem wrh2 (hv : vX S v) (ht : S.1 26 = mn ∧ S.2.1 12 = num) (hm : 1 ≤ mn ∧ mn ≤ 5) (hf : ∀ i : Int, 0 ≤ i → i < mn → 1 ≤ num i.toNat ∧ num i.toNat ≤ 6) {x tt key : Int} (hx : 0 ≤ x ∧ x < v.1 1) (htt : rI tt) (hkey : rI key) : zEv X 5 mX8_rowOfHands [zR 15, zI x, zR 24, zI tt, zI key] (cX S ++ t) (zTo S t (.inl (some (zI (vWn v num mn x tt key)))) v) := by
  have h4 := hv.1.2.2.2.2.1
  have e4 : S.1 16 = v.1 4 := hv.2.2.2.2.2.1
  have h1 := hv.1.2.1
  have e1 : S.1 13 = v.1 1 := hv.2.2.1
  have h2 := hv.1.2.2.1
  have e2 : S.1 14 = v.1 2 := hv.2.2.2.1
  have em := ht.1
  have er := ht.2
  have hmm : 0 ≤ S.1 26 ∧ S.1 26 ≤ 30 := by omega
  have l1 : ∀ (k : Nat) (rs r n : Int) (R : sS), 0 ≤ r → 0 ≤ n ∧ n ≤ r → r + k = rs → rs ≤ 1024 → sF S R → vX R v → zWP X mX8_rowOfHands 5 (zTo S t (.inl (some (zI (vSc (vTh0 v num mn x) tt key k r n)))) v) 24 [some (zR 15), some (zI x), some (zR 24), some (zI tt), some (zI key), some (zI rs), some (zI n), some (zI r)] [] (cX R ++ t) 0 0 := by
    intro k
    induction k with
    | zero =>
      intro rs r n R r0 hn hk hrs fr hr
      refine zWP_run gX8_rowOfHands 60 [24] ?_
      refine zBrT (by simp only [rI]; omega) (by omega) ?_
      simp only [vSc]
      refine zBr ⟨hkey, by simp only [rI]; omega⟩ (fun c => ?_) (fun c => ?_)
      · rw [if_pos c]
        exact ⟨rfl, R, rfl, fr, hr⟩
      · rw [if_neg c]
        exact ⟨rfl, R, rfl, fr, hr⟩
    | succ k ih =>
      intro rs r n R r0 hn hk hrs fr hr
      have hb := vTh0_b hv.1 num hm x r
      refine zWP_run gX8_rowOfHands 60 [24] ?_
      refine zBrF (by simp only [rI]; omega) (by omega) ?_
      refine zCl_t (wtb2 hr ⟨by rw [fr.1 26 (by omega)]; exact em, by rw [fr.2.1 12 (by omega)]; exact er⟩ hm hf hx) (by decide) ?_
      intro R2 f2 hr2
      simp only [vSc]
      refine zBr ⟨by simp only [rI]; omega, htt⟩ (fun c => ?_) (fun c => ?_)
      · rw [if_pos c]
        refine zBr ⟨by simp only [rI]; omega, hkey⟩ (fun c2 => ?_) (fun c2 => ?_)
        · rw [if_pos c2]
          exact ⟨rfl, R2, rfl, sF_t fr f2, hr2⟩
        · rw [if_neg c2]
          exact ih rs (r + 1) (n + 1) R2 (by omega) (by omega) (by omega) hrs (sF_t fr f2) hr2
      · rw [if_neg c]
        exact ih rs (r + 1) n R2 (by omega) (by omega) (by omega) hrs (sF_t fr f2) hr2
  refine zEv_run gX8_rowOfHands 40 [24] rfl ?_
  simp only [vWn]
  by_cases c : tt < 0
  · rw [if_pos c]
    refine zBrF htt (by omega) ?_
    exact l1 0 0 0 0 S (by omega) (by omega) (by omega) (by omega) (sF_r S) hv
  · rw [if_neg c]
    refine zBrT htt (by omega) ?_
    have e9 : (Int32.ofInt 1 <<< (Int32.ofInt (2 * S.1 26) &&& 31)).toInt = 2 ^ (2 * mn).toNat := by rw [em]; exact bt_shl (k := 2 * mn) (by omega) (by omega)
    have k1 := l1 (2 ^ (2 * mn).toNat) (2 ^ (2 * mn).toNat) 0 0 S (by omega) (by omega) (by simp) (by
      have hn : mn = 1 ∨ mn = 2 ∨ mn = 3 ∨ mn = 4 ∨ mn = 5 := by omega
      rcases hn with h9 | h9 | h9 | h9 | h9 <;> rw [h9] <;> decide) (sF_r S) hv
    rw [← e9] at k1
    exact k1
set_option maxHeartbeats 1000000 in
set_option maxRecDepth 100000 in
theorem wlk3 (hv : vX S v) (ht : S.1 29 = mn ∧ S.2.1 13 = num) (hm : 1 ≤ mn ∧ mn ≤ 5) (hf : ∀ i : Int, 0 ≤ i → i < mn → 1 ≤ num i.toNat ∧ num i.toNat ≤ 6) : zEv X 3 mX8_likeliestDie [zR 15, zR 26] (cX S ++ t) (zIs (.inl (some (zI ((vLk v num mn (v.1 1)).1)))) (cX S ++ t)) := by
  have h4 := hv.1.2.2.2.2.1
  have e4 : S.1 16 = v.1 4 := hv.2.2.2.2.2.1
  have h1 := hv.1.2.1
  have e1 : S.1 13 = v.1 1 := hv.2.2.1
  have h2 := hv.1.2.2.1
  have e2 : S.1 14 = v.1 2 := hv.2.2.2.1
  have em := ht.1
  have er := ht.2
  have hmm : 0 ≤ S.1 29 ∧ S.1 29 ≤ 30 := by omega
  have l1 : ∀ (k : Nat) (d x y z : Int), 0 ≤ d → (x, y, z) = vLk v num mn d → 0 ≤ y ∧ y ≤ 3200000 → 0 ≤ z ∧ z ≤ 24883200000 → d + k = v.1 1 → zWP X mX8_likeliestDie 3 (zIs (.inl (some (zI ((vLk v num mn (v.1 1)).1)))) (cX S ++ t)) 10 [some (zR 15), some (zR 26), some (zI x), some (zJ y), none, some (zJ z), none, some (zI d), none, none, none, none] [] (cX S ++ t) 0 0 := by
    intro k
    induction k with
    | zero =>
      intro d x y z d0 hx hy hz hk
      refine zWP_run gX8_likeliestDie 60 [10] ?_
      refine zBrT (by simp only [rI]; omega) (by omega) ?_
      rw [← show d = v.1 1 by omega, ← hx]
      exact ⟨rfl, rfl⟩
    | succ k ih =>
      intro d x y z d0 hx hy hz hk
      have q1 := vWy_b hv.1 num d (i := mn) (by omega) (by omega)
      have q2 := ipow_5 (gtb hv d) (n := mn) (by omega) (by omega)
      have q3 := mul_b q1 hz
      have q4 := mul_b hy q2
      have q5 := gtb hv d
      have l2 : ∀ (k : Nat) (i : Int), 0 ≤ i → i + k = mn → zWP X mX8_likeliestDie 3 (zIs (.inl (some (zI ((vLk v num mn (v.1 1)).1)))) (cX S ++ t)) 28 [some (zR 15), some (zR 26), some (zI x), some (zJ y), none, some (zJ z), none, some (zI d), some (zJ (vWy v num d i)), none, some (zI i), none] [] (cX S ++ t) 0 0 := by
        intro k2
        induction k2 with
        | zero =>
          intro i i0 hk2
          refine zWP_run gX8_likeliestDie 60 [10, 28] ?_
          refine zBrT (by simp only [rI]; omega) (by omega) ?_
          rw [show i = mn by omega]
          refine zCl_e (gtot hv d0 (by omega)) (by decide) ?_
          refine mVc_i (by simp only [rI]; omega) ?_
          refine zCl_e (pow9 (by omega)) (by decide) ?_
          rw [em]
          refine zBr (by simp only [rL]; omega) (fun c => ?_) (fun c => ?_)
          · refine zWP_fg (ih (d + 1) x y z (by omega) ?_ hy hz (by omega)) (by repeat (first | exact trivial | refine ⟨rfl, ?_⟩))
            rw [vLk, zIt_s _ _ d0, ← vLk, ← hx, if_neg (Int.not_lt.mpr c)]
          · refine zWP_fg (ih (d + 1) d (vWy v num d mn) (vTot v.2.1 d ^ mn.toNat) (by omega) ?_ q1 q2 (by omega)) (by repeat (first | exact trivial | refine ⟨rfl, ?_⟩))
            rw [vLk, zIt_s _ _ d0, ← vLk, ← hx, if_pos (Int.not_le.mp c)]
        | succ k2 ih2 =>
          intro i i0 hk2
          refine zWP_run gX8_likeliestDie 60 [10, 28] ?_
          refine zBrF (by simp only [rI]; omega) (by omega) ?_
          refine zCl_e (yface3 hmm (p := i) (by omega) (by omega) (by rw [er]; exact hf i (by omega) (by omega))) (by decide) ?_
          rw [er]
          have hfi := hf i i0 (by omega)
          refine zCl_e (gw hv d0 (by omega) hfi.1 hfi.2) (by decide) ?_
          have hw := gbd hv d (num i.toNat)
          refine mVc_i (by simp only [rI]; omega) ?_
          have k3 := ih2 (i + 1) (by omega) (by omega)
          rw [vWy_s _ _ _ i0] at k3
          exact k3
      refine zWP_run gX8_likeliestDie 60 [10, 28] ?_
      refine zBrF (by simp only [rI]; omega) (by omega) ?_
      exact zWP_fg (l2 mn.toNat 0 (by omega) (by omega)) (by repeat (first | exact trivial | refine ⟨rfl, ?_⟩))
  refine zEv_run gX8_likeliestDie 40 [10] rfl ?_
  exact l1 (v.1 1).toNat 0 (-1) 0 1 (by omega) rfl (by omega) (by omega) (by omega)
set_option maxHeartbeats 1000000 in
set_option maxRecDepth 100000 in
theorem wrd3 (hv : vX S v) (ht : S.1 29 = mn ∧ S.2.1 13 = num) (hm : 1 ≤ mn ∧ mn ≤ 5) (hf : ∀ i : Int, 0 ≤ i → i < mn → 1 ≤ num i.toNat ∧ num i.toNat ≤ 6) : zEv X 3 mX8_rowsOfDice [zR 15, zR 26] (cX S ++ t) (zIs (.inl (some (zI (vRd v num mn)))) (cX S ++ t)) := by
  have h4 := hv.1.2.2.2.2.1
  have e4 : S.1 16 = v.1 4 := hv.2.2.2.2.2.1
  have h1 := hv.1.2.1
  have e1 : S.1 13 = v.1 1 := hv.2.2.1
  have h2 := hv.1.2.2.1
  have e2 : S.1 14 = v.1 2 := hv.2.2.2.1
  have em := ht.1
  have er := ht.2
  have hmm : 0 ≤ S.1 29 ∧ S.1 29 ≤ 30 := by omega
  have l1 : ∀ (k : Nat) (i : Int), 0 ≤ i → i + k = mn → zWP X mX8_rowsOfDice 3 (zIs (.inl (some (zI (vRd v num mn)))) (cX S ++ t)) 4 [some (zR 15), some (zR 26), some (zI (vRd v num i)), some (zI i), none, none] [] (cX S ++ t) 0 0 := by
    intro k
    induction k with
    | zero =>
      intro i i0 hk
      refine zWP_run gX8_rowsOfDice 60 [4] ?_
      refine zBrT (by simp only [rI]; omega) (by omega) ?_
      rw [← show i = mn by omega]
      exact ⟨rfl, rfl⟩
    | succ k ih =>
      intro i i0 hk
      have hfi := hf i i0 (by omega)
      have l2 : ∀ (k : Nat) (d : Int), 0 ≤ d → d + k = v.1 1 → zWP X mX8_rowsOfDice 3 (zIs (.inl (some (zI (vRd v num mn)))) (cX S ++ t)) 18 [some (zR 15), some (zR 26), some (zI (vRd v num i)), some (zI i), some (zI (vCd v (num i.toNat) d)), some (zI d)] [] (cX S ++ t) 0 0 := by
        intro k2
        induction k2 with
        | zero =>
          intro d d0 hk2
          refine zWP_run gX8_rowsOfDice 60 [4, 18] ?_
          refine zBrT (by simp only [rI]; omega) (by omega) ?_
          rw [show d = v.1 1 by omega]
          have k3 := ih (i + 1) (by omega) (by omega)
          rw [vRd_s _ _ i0] at k3
          exact zWP_fg k3 (by repeat (first | exact trivial | refine ⟨rfl, ?_⟩))
        | succ k2 ih2 =>
          intro d d0 hk2
          have hw := gbd hv d (num i.toNat)
          have k3 := ih2 (d + 1) (by omega) (by omega)
          rw [vCd_s _ _ d0] at k3
          refine zWP_run gX8_rowsOfDice 60 [4, 18] ?_
          refine zBrF (by simp only [rI]; omega) (by omega) ?_
          refine zCl_e (yface3 hmm (p := i) (by omega) (by omega) (by rw [er]; exact hf i (by omega) (by omega))) (by decide) ?_
          rw [er]
          refine zCl_e (gw hv d0 (by omega) hfi.1 hfi.2) (by decide) ?_
          refine zBr (by simp only [rI]; omega) (fun c => ?_) (fun c => ?_)
          · rw [if_neg (by omega)] at k3
            exact k3
          · rw [if_pos (by omega)] at k3
            exact k3
      refine zWP_run gX8_rowsOfDice 60 [4, 18] ?_
      refine zBrF (by simp only [rI]; omega) (by omega) ?_
      exact zWP_fg (l2 (v.1 1).toNat 0 (by omega) (by omega)) (by repeat (first | exact trivial | refine ⟨rfl, ?_⟩))
  refine zEv_run gX8_rowsOfDice 40 [4] rfl ?_
  exact l1 mn.toNat 0 (by omega) (by omega)
set_option maxHeartbeats 1000000 in
set_option maxRecDepth 100000 in
theorem wtb3 (hv : vX S v) (ht : S.1 29 = mn ∧ S.2.1 13 = num) (hm : 1 ≤ mn ∧ mn ≤ 5) (hf : ∀ i : Int, 0 ≤ i → i < mn → 1 ≤ num i.toNat ∧ num i.toNat ≤ 6) {x row : Int} (hx : 0 ≤ x ∧ x < v.1 1) : zEv X 4 mX8_totalBehind [zR 15, zI x, zR 26, zI row] (cX S ++ t) (zTo S t (.inl (some (zI (vTh0 v num mn x row)))) v) := by
  have h4 := hv.1.2.2.2.2.1
  have e4 : S.1 16 = v.1 4 := hv.2.2.2.2.2.1
  have h1 := hv.1.2.1
  have e1 : S.1 13 = v.1 1 := hv.2.2.1
  have h2 := hv.1.2.2.1
  have e2 : S.1 14 = v.1 2 := hv.2.2.2.1
  have em := ht.1
  have er := ht.2
  have hmm : 0 ≤ S.1 29 ∧ S.1 29 ≤ 30 := by omega
  have hs := hv.1.2.2.2.2.2.1.2.1 x
  have l1 : ∀ (k : Nat) (i tt : Int) (R : sS) (w hh : Int → Int), 0 ≤ i → i + k = mn → sF S R → vX R v → (∀ j : Int, 1 ≤ j → j ≤ 6 → R.2.1 8 j.toNat = w j) → (∀ j : Int, 0 ≤ j → j < v.1 2 → R.2.1 9 j.toNat = hh j) → (∀ j, 0 ≤ w j ∧ w j ≤ 20) → (∀ j, 0 ≤ hh j ∧ hh j ≤ 9) → zWP X mX8_totalBehind 4 (zTo S t (.inl (some (zI (vTb v num mn x row k i w hh tt)))) v) 18 [some (zR 15), some (zI x), some (zR 26), some (zI row), some (zI tt), some (zI i), none, none, none] [] (cX (R) ++ t) 0 0 := by
    intro k
    induction k with
    | zero =>
      intro i tt R w hh i0 hk fr hv2 hw hq bw bq
      have em2 : R.1 29 = mn := by rw [fr.1 29 (by omega)]; exact em
      have er2 : R.2.1 13 = num := by rw [fr.2.1 13 (by omega)]; exact er
      have hmm2 : 0 ≤ R.1 29 ∧ R.1 29 ≤ 30 := by omega
      refine zWP_run gX8_totalBehind 100 [18] ?_
      refine zBrT (by simp only [rI]; omega) (by omega) ?_
      exact ⟨rfl, R, rfl, fr, hv2⟩
    | succ k ih =>
      intro i tt R w hh i0 hk fr hv2 hw hq bw bq
      have em2 : R.1 29 = mn := by rw [fr.1 29 (by omega)]; exact em
      have er2 : R.2.1 13 = num := by rw [fr.2.1 13 (by omega)]; exact er
      have hmm2 : 0 ≤ R.1 29 ∧ R.1 29 ≤ 30 := by omega
      have hfi := hf i i0 (by omega)
      have hnb := hnd_b row (2 * (mn - 1 - i))
      have b1 := bw (num i.toNat)
      have b2 := bq (hnd row (2 * (mn - 1 - i)))
      have ef := hw (num i.toNat) hfi.1 hfi.2
      refine zWP_run gX8_totalBehind 100 [18] ?_
      refine zBrF (by simp only [rI]; omega) (by omega) ?_
      refine zCl_e (yface3 hmm2 (p := i) (by omega) (by omega) (by rw [er2]; exact hfi)) (by decide) ?_
      have eh : (Int32.ofInt ((Int32.ofInt row >>> (Int32.ofInt (2 * (R.1 29 - 1 - i)) &&& 31)).toInt) &&& Int32.ofInt 3).toInt = hnd row (2 * (mn - 1 - i)) := by rw [em2]; rfl
      rw [er2]
      simp only [vTb]
      by_cases c1 : hnd row (2 * (mn - 1 - i)) < v.1 2
      · rw [if_neg (fun z => z c1)]
        refine zCl_e (gh_t hv2 (x := (Int32.ofInt ((Int32.ofInt row >>> (Int32.ofInt (2 * (R.1 29 - 1 - i)) &&& 31)).toInt) &&& Int32.ofInt 3).toInt) (by rw [eh]; exact hnb.1) (by rw [eh]; exact c1)) (by decide) ?_
        refine zBrF rI_1 (by omega) ?_
        refine mVc_i (by omega) ?_
        have eq2 := hq (hnd row (2 * (mn - 1 - i))) hnb.1 c1
        by_cases c2 : w (num i.toNat) = 0
        · rw [if_pos c2]
          refine zBrT (by simp only [rI]; show _ ≤ R.2.1 8 (num i.toNat).toNat ∧ R.2.1 8 (num i.toNat).toNat < _; omega) (by show R.2.1 8 (num i.toNat).toNat = 0; omega) ?_
          exact ⟨rfl, R, rfl, fr, hv2⟩
        · rw [if_neg c2]
          refine zBrF (by simp only [rI]; show _ ≤ R.2.1 8 (num i.toNat).toNat ∧ R.2.1 8 (num i.toNat).toNat < _; omega) (by show ¬ R.2.1 8 (num i.toNat).toNat = 0; omega) ?_
          refine zCl_e (gsalt hv2 hx.1 hx.2) (by decide) ?_
          have fin : ∀ lost y : Int, y = hnd row (2 * (mn - 1 - i)) → lost = (if v.2.1.2.1 x = 1 then 0 else min (w (num i.toNat)) (hh (hnd row (2 * (mn - 1 - i))))) → zWP X mX8_totalBehind 4 (zTo S t (.inl (some (zI (vTb v num mn x row k (i + 1) (fun f => if f = num i.toNat then w (num i.toNat) - (if v.2.1.2.1 x = 1 then 0 else min (w (num i.toNat)) (hh (hnd row (2 * (mn - 1 - i))))) else w f) (fun q => if q = hnd row (2 * (mn - 1 - i)) then min (hh (hnd row (2 * (mn - 1 - i))) + 1) 9 else hh q) (tt - (if v.2.1.2.1 x = 1 then 0 else min (w (num i.toNat)) (hh (hnd row (2 * (mn - 1 - i)))))))))) v) 18 [some (zR 15), some (zI x), some (zR 26), some (zI row), some (zI (tt - lost)), some (zI (i + 1)), none, none, none] [] (cX (sA (sA R 8 (va_up (R.2.1 8) (num i.toNat).toNat (R.2.1 8 (num i.toNat).toNat - lost))) 9 (va_up (R.2.1 9) y.toNat (min (R.2.1 9 y.toNat + 1) 9))) ++ t) 0 0 := by
            intro lost y hy hl
            rw [← hl, hy]
            have b3 : 0 ≤ lost ∧ lost ≤ w (num i.toNat) := by
              rw [hl]
              split <;> omega
            refine ih (i + 1) (tt - lost) _ _ _ (by omega) (by omega) (sF_t fr (sF_t (sF_A R (r := 8) _ ⟨by omega, by omega⟩) (sF_A _ (r := 9) _ ⟨by omega, by omega⟩))) hv2 (fun j j0 j1 => ?_) (fun j j0 j1 => ?_) (fun j => ?_) (fun j => ?_)
            · by_cases e : j = num i.toNat
              · rw [if_pos e, e, ← ef]; exact va_up_s _ _ _
              · rw [if_neg e, ← hw j j0 j1]; exact va_up_o _ _ (by omega)
            · by_cases e : j = hnd row (2 * (mn - 1 - i))
              · rw [if_pos e, e, ← eq2]; exact va_up_s _ _ _
              · rw [if_neg e, ← hq j j0 j1]; exact va_up_o _ _ (by omega)
            · by_cases e : j = num i.toNat
              · rw [if_pos e]; omega
              · rw [if_neg e]; exact bw j
            · by_cases e : j = hnd row (2 * (mn - 1 - i))
              · rw [if_pos e]; omega
              · rw [if_neg e]; exact bq j
          have eq3 : R.2.1 9 ((Int32.ofInt ((Int32.ofInt row >>> (Int32.ofInt (2 * (R.1 29 - 1 - i)) &&& 31)).toInt) &&& Int32.ofInt 3).toInt).toNat = hh (hnd row (2 * (mn - 1 - i))) := by rw [eh]; exact eq2
          have hn3 : 0 ≤ (Int32.ofInt ((Int32.ofInt row >>> (Int32.ofInt (2 * (R.1 29 - 1 - i)) &&& 31)).toInt) &&& Int32.ofInt 3).toInt ∧ (Int32.ofInt ((Int32.ofInt row >>> (Int32.ofInt (2 * (R.1 29 - 1 - i)) &&& 31)).toInt) &&& Int32.ofInt 3).toInt < 4 := by rw [eh]; exact hnb
          refine zBr (by simp only [rI]; omega) (fun c3 => ?_) (fun c3 => ?_)
          · refine mVc_i (by omega) ?_
            refine mVc_i (by omega) ?_
            refine mVc_i ?_ ?_
            · show rI (R.2.1 8 (num i.toNat).toNat) ∧ rI (R.2.1 9 _)
              rw [ef, eq3]
              simp only [rI]
              omega
            refine mVc_i (by omega) ?_
            refine mVc_i (by omega) ?_
            refine mVc_i (by omega) ?_
            refine mVc_i ?_ ?_
            · show rI (R.2.1 9 _ + 1) ∧ rI 9
              rw [eq3]
              simp only [rI]
              omega
            refine mVc_i (by omega) ?_
            exact zWP_fg (fin _ _ eh (by rw [if_neg (by omega), ef, eq3])) (by repeat (first | exact trivial | refine ⟨rfl, ?_⟩))
          · refine mVc_i (by omega) ?_
            refine mVc_i (by omega) ?_
            refine mVc_i (by omega) ?_
            refine mVc_i ?_ ?_
            · show rI (R.2.1 9 _ + 1) ∧ rI 9
              rw [eq3]
              simp only [rI]
              omega
            refine mVc_i (by omega) ?_
            exact zWP_fg (fin 0 _ eh (by rw [if_pos (by omega)])) (by repeat (first | exact trivial | refine ⟨rfl, ?_⟩))
      · rw [if_pos c1]
        refine zCl_e (gh_f hv2 (x := (Int32.ofInt ((Int32.ofInt row >>> (Int32.ofInt (2 * (R.1 29 - 1 - i)) &&& 31)).toInt) &&& Int32.ofInt 3).toInt) (by rw [eh]; simp only [rI]; omega) (by rw [eh]; omega)) (by decide) ?_
        refine zBrT rI_0 rfl ?_
        exact ⟨rfl, R, rfl, fr, hv2⟩
  refine zEv_run gX8_totalBehind 40 [18] rfl ?_
  refine zCl_i (wbeg hv hx) (by decide) ?_
  intro o9 h9 q9
  obtain ⟨rfl, f, q, hf2, hg2, rfl⟩ := q9
  refine zCl_e (gtot (S := sA (sA S 8 f) 9 q) hv hx.1 hx.2) (by decide) ?_
  exact l1 mn.toNat 0 _ (sA (sA S 8 f) 9 q) _ _ (by omega) (by omega) (sF_t (sF_A S f ⟨by omega, by omega⟩) (sF_A _ q ⟨by omega, by omega⟩)) hv hf2 hg2 (fun j => gbd hv x j) (fun j => hv.1.2.2.2.2.2.1.2.2.1 j)
set_option maxHeartbeats 1000000 in
set_option maxRecDepth 100000 in
theorem wrh3 (hv : vX S v) (ht : S.1 29 = mn ∧ S.2.1 13 = num) (hm : 1 ≤ mn ∧ mn ≤ 5) (hf : ∀ i : Int, 0 ≤ i → i < mn → 1 ≤ num i.toNat ∧ num i.toNat ≤ 6) {x tt key : Int} (hx : 0 ≤ x ∧ x < v.1 1) (htt : rI tt) (hkey : rI key) : zEv X 5 mX8_rowOfHands [zR 15, zI x, zR 26, zI tt, zI key] (cX S ++ t) (zTo S t (.inl (some (zI (vWn v num mn x tt key)))) v) := by
  have h4 := hv.1.2.2.2.2.1
  have e4 : S.1 16 = v.1 4 := hv.2.2.2.2.2.1
  have h1 := hv.1.2.1
  have e1 : S.1 13 = v.1 1 := hv.2.2.1
  have h2 := hv.1.2.2.1
  have e2 : S.1 14 = v.1 2 := hv.2.2.2.1
  have em := ht.1
  have er := ht.2
  have hmm : 0 ≤ S.1 29 ∧ S.1 29 ≤ 30 := by omega
  have l1 : ∀ (k : Nat) (rs r n : Int) (R : sS), 0 ≤ r → 0 ≤ n ∧ n ≤ r → r + k = rs → rs ≤ 1024 → sF S R → vX R v → zWP X mX8_rowOfHands 5 (zTo S t (.inl (some (zI (vSc (vTh0 v num mn x) tt key k r n)))) v) 24 [some (zR 15), some (zI x), some (zR 26), some (zI tt), some (zI key), some (zI rs), some (zI n), some (zI r)] [] (cX R ++ t) 0 0 := by
    intro k
    induction k with
    | zero =>
      intro rs r n R r0 hn hk hrs fr hr
      refine zWP_run gX8_rowOfHands 60 [24] ?_
      refine zBrT (by simp only [rI]; omega) (by omega) ?_
      simp only [vSc]
      refine zBr ⟨hkey, by simp only [rI]; omega⟩ (fun c => ?_) (fun c => ?_)
      · rw [if_pos c]
        exact ⟨rfl, R, rfl, fr, hr⟩
      · rw [if_neg c]
        exact ⟨rfl, R, rfl, fr, hr⟩
    | succ k ih =>
      intro rs r n R r0 hn hk hrs fr hr
      have hb := vTh0_b hv.1 num hm x r
      refine zWP_run gX8_rowOfHands 60 [24] ?_
      refine zBrF (by simp only [rI]; omega) (by omega) ?_
      refine zCl_t (wtb3 hr ⟨by rw [fr.1 29 (by omega)]; exact em, by rw [fr.2.1 13 (by omega)]; exact er⟩ hm hf hx) (by decide) ?_
      intro R2 f2 hr2
      simp only [vSc]
      refine zBr ⟨by simp only [rI]; omega, htt⟩ (fun c => ?_) (fun c => ?_)
      · rw [if_pos c]
        refine zBr ⟨by simp only [rI]; omega, hkey⟩ (fun c2 => ?_) (fun c2 => ?_)
        · rw [if_pos c2]
          exact ⟨rfl, R2, rfl, sF_t fr f2, hr2⟩
        · rw [if_neg c2]
          exact ih rs (r + 1) (n + 1) R2 (by omega) (by omega) (by omega) hrs (sF_t fr f2) hr2
      · rw [if_neg c]
        exact ih rs (r + 1) n R2 (by omega) (by omega) (by omega) hrs (sF_t fr f2) hr2
  refine zEv_run gX8_rowOfHands 40 [24] rfl ?_
  simp only [vWn]
  by_cases c : tt < 0
  · rw [if_pos c]
    refine zBrF htt (by omega) ?_
    exact l1 0 0 0 0 S (by omega) (by omega) (by omega) (by omega) (sF_r S) hv
  · rw [if_neg c]
    refine zBrT htt (by omega) ?_
    have e9 : (Int32.ofInt 1 <<< (Int32.ofInt (2 * S.1 29) &&& 31)).toInt = 2 ^ (2 * mn).toNat := by rw [em]; exact bt_shl (k := 2 * mn) (by omega) (by omega)
    have k1 := l1 (2 ^ (2 * mn).toNat) (2 ^ (2 * mn).toNat) 0 0 S (by omega) (by omega) (by simp) (by
      have hn : mn = 1 ∨ mn = 2 ∨ mn = 3 ∨ mn = 4 ∨ mn = 5 := by omega
      rcases hn with h9 | h9 | h9 | h9 | h9 <;> rw [h9] <;> decide) (sF_r S) hv
    rw [← e9] at k1
    exact k1
end Witness
