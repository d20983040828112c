/-! the reference: told throws, trays -/
theorem shl64 {z : Int} (s : Int64) (k : Nat) (p : Int) (hp : BitVec.twoPow 64 k = BitVec.ofInt 64 p) (hs : (s.toBitVec.smod 64).toNat = k) : (Int64.ofInt z <<< s).toInt = (z * p).bmod 18446744073709551616 := by
  show ((Int64.ofInt z).toBitVec <<< (s.toBitVec.smod 64).toNat).toInt = _
  rw [hs, show (Int64.ofInt z).toBitVec = BitVec.ofInt 64 z from rfl, BitVec.shiftLeft_eq_mul_twoPow, hp, ← BitVec.ofInt_mul, BitVec.toInt_ofInt]
theorem shr64 (a s : Int64) (k : Nat) (hs : (s.toBitVec.smod 64).toNat = k) : (a >>> s).toInt = a.toInt >>> k := by
  show (a.toBitVec.sshiftRight (s.toBitVec.smod 64).toNat).toInt = _
  rw [hs, BitVec.toInt_sshiftRight]
  rfl
theorem bm_def (x : Int) (m : Nat) : x.bmod m = if x % m < (m + 1) / 2 then x % m else x % m - m := rfl
/-- cut to a sort's length by two shifts -/
def cu64 (so z : Int) : Int := (Int64.ofInt ((Int64.ofInt z <<< ((Int32.ofInt (64 - (Int32.ofInt 8 <<< (Int32.ofInt so &&& 31)).toInt)).toInt64 &&& 63)).toInt) >>> ((Int32.ofInt (64 - (Int32.ofInt 8 <<< (Int32.ofInt so &&& 31)).toInt)).toInt64 &&& 63)).toInt
theorem cu64_0 (z : Int) : cu64 0 z = z.bmod 256 := by
  unfold cu64
  rw [zL_asI, shr64 _ _ 56 (by decide), shl64 _ 56 72057594037927936 (by decide) (by decide), Int.shiftRight_eq_div_pow, bm_def, bm_def]
  show (if z * 72057594037927936 % 18446744073709551616 < (18446744073709551616 + 1) / 2 then z * 72057594037927936 % 18446744073709551616 else z * 72057594037927936 % 18446744073709551616 - 18446744073709551616) / 72057594037927936 = if z % 256 < (256 + 1) / 2 then z % 256 else z % 256 - 256
  split <;> split <;> omega
theorem cu64_1 (z : Int) : cu64 1 z = z.bmod 65536 := by
  unfold cu64
  rw [zL_asI, shr64 _ _ 48 (by decide), shl64 _ 48 281474976710656 (by decide) (by decide), Int.shiftRight_eq_div_pow, bm_def, bm_def]
  show (if z * 281474976710656 % 18446744073709551616 < (18446744073709551616 + 1) / 2 then z * 281474976710656 % 18446744073709551616 else z * 281474976710656 % 18446744073709551616 - 18446744073709551616) / 281474976710656 = if z % 65536 < (65536 + 1) / 2 then z % 65536 else z % 65536 - 65536
  split <;> split <;> omega
theorem cu64_2 (z : Int) : cu64 2 z = z.bmod 4294967296 := by
  unfold cu64
  rw [zL_asI, shr64 _ _ 32 (by decide), shl64 _ 32 4294967296 (by decide) (by decide), Int.shiftRight_eq_div_pow, bm_def, bm_def]
  show (if z * 4294967296 % 18446744073709551616 < (18446744073709551616 + 1) / 2 then z * 4294967296 % 18446744073709551616 else z * 4294967296 % 18446744073709551616 - 18446744073709551616) / 4294967296 = if z % 4294967296 < (4294967296 + 1) / 2 then z % 4294967296 else z % 4294967296 - 4294967296
  split <;> split <;> omega
theorem cu64_3 {z : Int} (h : rL z) : cu64 3 z = z := by
  have h1 := h.1
  have h2 := h.2
  unfold cu64
  rw [zL_asI, shr64 _ _ 0 (by decide), shl64 _ 0 1 (by decide) (by decide), Int.shiftRight_eq_div_pow, bm_def]
  show (if z * 1 % 18446744073709551616 < (18446744073709551616 + 1) / 2 then z * 1 % 18446744073709551616 else z * 1 % 18446744073709551616 - 18446744073709551616) / 1 = z
  split <;> omega
theorem cu64_ok {so z : Int} (hs : 0 ≤ so ∧ so ≤ 3) (h : rL z) : cu64 so z = tCut so z := by
  have : so = 0 ∨ so = 1 ∨ so = 2 ∨ so = 3 := by omega
  unfold tCut
  rcases this with rfl | rfl | rfl | rfl
  · rw [if_pos rfl]; exact cu64_0 z
  · rw [if_neg (by omega), if_pos rfl]; exact cu64_1 z
  · rw [if_neg (by omega), if_neg (by omega), if_pos rfl]; exact cu64_2 z
  · rw [if_neg (by omega), if_neg (by omega), if_neg (by omega)]; exact cu64_3 h
/-- what calls of trays leave as it was -/
def kG (K R : kK) : Prop := (∀ i, (i = 1 ∨ i = 9 ∨ i = 10) → R.1 i = K.1 i) ∧ (∀ r, (r = 0 ∨ r = 3 ∨ r = 4 ∨ r = 5) → R.2 r = K.2 r)
theorem kG_r (K : kK) : kG K K := ⟨fun _ _ => rfl, fun _ _ => rfl⟩
theorem kG_t {K R Q : kK} (h : kG K R) (k : kG R Q) : kG K Q := ⟨fun i hi => by rw [k.1 i hi, h.1 i hi], fun i hi => by rw [k.2 i hi, h.2 i hi]⟩
theorem kG_A (K : kK) {r : Nat} (f : Nat → Int) (h : r = 1 ∨ r = 2 ∨ 5 < r) : kG K (kA K r f) := ⟨fun _ _ => rfl, fun i hi => va_up_o _ _ (by omega)⟩
theorem kG_I (K : kK) {r : Nat} (z : Int) (h : r = 0 ∨ (1 < r ∧ r < 9) ∨ 10 < r) : kG K (kI K r z) := ⟨fun i hi => va_up_o _ _ (by omega), fun _ _ => rfl⟩
def kTt (S : sS) (K : kK) (t : zH) (cd : Nat → Int) (mk : Int → zV) (r : Int ⊕ Nat) (T : tT) : zO → zH → Prop := fun o9 h9 => ∃ (z : Int) (R : kK), o9 = .inl (some (mk z)) ∧ h9 = cX S ++ (cM R ++ t) ∧ kG K R ∧ kTr R T ∧ kAn cd r z (R.1 0)
section Mdlf
variable {X : mX} {S : sS} {K : kK} {t : zH} {v : vV} {T : tT}
set_option maxHeartbeats 1000000 in
set_option maxRecDepth 100000 in
theorem kwt (hk : kVn (K.2 0) v (v.1 4)) {z : Int} (hz : rL z) : zEv X 4 mX10_whyTold [zR 29, zJ z] (cX S ++ (cM K ++ t)) (zIs (.inl (some (zI (vTold v z)))) (cX S ++ (cM K ++ t))) := by
  have b1 := hk.1.2.1
  have b2 := hk.1.2.2.1
  have b4 := hk.1.2.2.2.2.1
  have hz1 := hz.1
  have hz2 := hz.2
  refine zEv_run gX10_whyTold 120 [] rfl ?_
  by_cases c0 : z < 0
  · refine zBrT (by first | (simp only [rI]; omega) | (simp only [rL]; omega)) c0 ?_
    exact ⟨by rw [vTold, if_pos (Or.inl c0)], rfl⟩
  refine zBrF (by first | (simp only [rI]; omega) | (simp only [rL]; omega)) c0 ?_
  refine mVc_i (by simp only [rL]; omega) ?_
  by_cases cd : 0 ≤ z / 100 ∧ z / 100 < v.1 1
  rotate_left
  · refine zCl_e (kdie_f hk (by simp only [rL]; omega) cd) (by decide) ?_
    refine zBrT (by first | (simp only [rI]; omega) | (simp only [rL]; omega)) (by omega) ?_
    refine ⟨?_, rfl⟩
    rw [vTold]
    by_cases c5 : z < 0 ∨ 500 ≤ z
    · rw [if_pos c5]
    · rw [if_neg c5, vWhy, if_pos cd]
  refine zCl_e (kdie_t hk (by simp only [rL]; omega) cd) (by decide) ?_
  refine zBrF (by first | (simp only [rI]; omega) | (simp only [rL]; omega)) (by omega) ?_
  have e0 : vTold v z = vWhy v (z / 100) (z / 10 % 10) (z % 10) := by rw [vTold, if_neg (by omega)]
  rw [e0, vWhy, if_neg (fun q => q cd)]
  refine mVc_i (by simp only [rL]; omega) ?_
  refine mVc_i (by simp only [rL]; omega) ?_
  by_cases ch : 0 ≤ z / 10 % 10 ∧ z / 10 % 10 < v.1 2
  rotate_left
  · refine zCl_e (khan_f hk (by simp only [rL]; omega) ch) (by decide) ?_
    refine zBrT (by first | (simp only [rI]; omega) | (simp only [rL]; omega)) (by omega) ?_
    exact ⟨by rw [if_pos ch], rfl⟩
  refine zCl_e (khan_t hk (by simp only [rL]; omega) ch) (by decide) ?_
  refine zBrF (by first | (simp only [rI]; omega) | (simp only [rL]; omega)) (by omega) ?_
  rw [if_neg (fun q => q ch)]
  refine mVc_i (by simp only [rL]; omega) ?_
  by_cases cf : 1 ≤ z % 10 ∧ z % 10 ≤ 6
  rotate_left
  · refine zCl_e (kfc_f (by simp only [rL]; omega) cf) (by decide) ?_
    refine zBrT (by first | (simp only [rI]; omega) | (simp only [rL]; omega)) (by omega) ?_
    exact ⟨by rw [if_pos cf], rfl⟩
  refine zCl_e (kfc_t (by simp only [rL]; omega) cf) (by decide) ?_
  refine zBrF (by first | (simp only [rI]; omega) | (simp only [rL]; omega)) (by omega) ?_
  rw [if_neg (fun q => q cf)]
  refine mVc_i (by simp only [rI]; omega) ?_
  have hw := hk.1.2.2.2.2.2.1.1 (z / 100) (z % 10)
  refine zCl_e (kgo hk cd) (by decide) ?_
  refine zBb (P := vTot v.2.1 (z / 100) = 0) (fun g1 => ?_) (fun g1 => ?_)
  rotate_left
  · exact ⟨by rw [if_pos g1], rfl⟩
  rw [if_neg g1]
  refine mVc_i (by simp only [rI]; omega) ?_
  refine zCl_e (kw hk cd cf) (by decide) ?_
  by_cases g2 : v.2.1.1 (z / 100) (z % 10) = 0
  · refine zBrT (by first | (simp only [rI]; omega) | (simp only [rL]; omega)) g2 ?_
    exact ⟨by rw [if_pos g2], rfl⟩
  refine zBrF (by first | (simp only [rI]; omega) | (simp only [rL]; omega)) g2 ?_
  rw [if_neg g2]
  refine zCl_e (kth hk) (by decide) ?_
  by_cases g3 : v.1 4 < 60
  · refine zBrF (by first | (simp only [rI]; omega) | (simp only [rL]; omega)) (by omega) ?_
    exact ⟨by rw [if_pos g3], rfl⟩
  · refine zBrT (by first | (simp only [rI]; omega) | (simp only [rL]; omega)) (by omega) ?_
    exact ⟨by rw [if_neg g3], rfl⟩
set_option maxHeartbeats 1000000 in
set_option maxRecDepth 100000 in
theorem kgb (hk : kVn (K.2 0) v (v.1 4)) (hT : kTr K T) {x : Int} (c1 : 0 ≤ x ∧ x ≤ 3) : zEv X 5 mX10_goesBy [zR 29, zI x] (cX S ++ (cM K ++ t)) (fun o9 h9 => ∃ c : Nat → Int, o9 = .inl (some (zI (tPr v T x).1)) ∧ kV c (tPr v T x).2 ∧ h9 = cX S ++ (cM (kA K 0 c) ++ t)) := by
  have em := (hT.2 x c1.1 (by omega)).2.1
  have en := (hT.2 x c1.1 (by omega)).2.2
  have hb := (hT.1 x).2
  have lp : ∀ (k : Nat) (i : Int) (c : Nat → Int) (u : vV), 0 ≤ i → i + k = (T x).2.1 → kV c u → tPr v T x = vTl (T x).2.2 k i u → zWP X mX10_goesBy 5 (fun o9 h9 => ∃ c : Nat → Int, o9 = .inl (some (zI (tPr v T x).1)) ∧ kV c (tPr v T x).2 ∧ h9 = cX S ++ (cM (kA K 0 c) ++ t)) 2 [some (zR 29), some (zI x), some (zI i), none] [] (cX S ++ (cM (kA K 0 c) ++ t)) 0 0 := by
    intro k
    induction k with
    | zero =>
      intro i c u i0 hk0 hu he
      refine zWP_run gX10_goesBy 80 [2] ?_
      refine mVc_i (by omega) ?_
      refine zBrT (by show rI i ∧ rI (K.2 13 x.toNat); rw [em]; simp only [rI]; omega) (by show K.2 13 x.toNat ≤ i; omega) ?_
      rw [he]
      exact ⟨c, rfl, hu, rfl⟩
    | succ k ih =>
      intro i c u i0 hk0 hu he
      have ei := en i i0 (by omega)
      have br := hb.2 i.toNat
      have hwb := vTold_b u ((T x).2.2 i.toNat)
      refine zWP_run gX10_goesBy 80 [2] ?_
      refine mVc_i (by omega) ?_
      refine zBrF (by show rI i ∧ rI (K.2 13 x.toNat); rw [em]; simp only [rI]; omega) (by show ¬ K.2 13 x.toNat ≤ i; omega) ?_
      refine mVc_i (by omega) ?_
      refine zCl_e (kwt (K := kA K 0 c) (z := K.2 14 (30 * x + i).toNat) hu (by rw [ei]; exact br)) (by decide) ?_
      rw [ei]
      simp only [vTl] at he
      by_cases c9 : vTold u ((T x).2.2 i.toNat) = 0
      · rw [if_pos c9] at he
        have h0 := vTold_0 c9
        have h1 := vWhy_0 h0.2
        refine zBrT (by first | (simp only [rI]; omega) | (simp only [rL]; omega)) c9 ?_
        refine mVc_i (by omega) ?_
        refine mVc_i (by show 0 ≤ K.2 14 (30 * x + i).toNat ∧ rI (K.2 14 (30 * x + i).toNat) ∧ (0 : Int) < 100 ∧ rI 100; rw [ei]; simp only [rI]; omega) ?_
        refine mVc_i (by show 0 ≤ K.2 14 (30 * x + i).toNat ∧ rI (K.2 14 (30 * x + i).toNat) ∧ (0 : Int) < 10 ∧ rI 10; rw [ei]; simp only [rI]; omega) ?_
        refine mVc_i (by show 0 ≤ K.2 14 (30 * x + i).toNat / 10 ∧ rI (K.2 14 (30 * x + i).toNat / 10) ∧ (0 : Int) < 10 ∧ rI 10; rw [ei]; simp only [rI]; omega) ?_
        refine mVc_i (by show 0 ≤ K.2 14 (30 * x + i).toNat ∧ rI (K.2 14 (30 * x + i).toNat) ∧ (0 : Int) < 10 ∧ rI 10; rw [ei]; simp only [rI]; omega) ?_
        have kk := kgoes (X := X) (S := S) (t := t) (K := kA K 0 c) hu h1.1.1 h1.1.2.1 h1.1.2.2 h1.2.1
        rw [← ei] at kk
        refine zCl_k kk (by decide) ?_
        intro c2 hc2
        rw [ei] at hc2
        rw [kA_A]
        exact zWP_fg (ih (i + 1) c2 _ (by omega) (by omega) hc2 he) (by repeat (first | exact trivial | refine ⟨rfl, ?_⟩))
      · rw [if_neg c9] at he
        refine zBrF (by first | (simp only [rI]; omega) | (simp only [rL]; omega)) c9 ?_
        rw [he]
        exact ⟨c, rfl, hu, rfl⟩
  refine zEv_run gX10_goesBy 80 [2] rfl ?_
  have k9 := lp (T x).2.1.toNat 0 (K.2 0) v (by have := hb.1; omega) (by have := hb.1; omega) hk rfl
  rw [kA_same] at k9
  exact k9
set_option maxHeartbeats 1000000 in
set_option maxRecDepth 100000 in
theorem kPerf (hk : kVn (K.2 0) v (v.1 4)) (hT : kTr K T) {x : Int} (hx : rI x) : zEv X 10 mX10_perform [zR 29, zI x] (cX S ++ (cM K ++ t)) (kTp S K t (kcd [1, 2]) (pPerform v T x)) := by
  unfold pPerform
  have b1 := hk.1.2.1
  have b2 := hk.1.2.2.1
  have b4 := hk.1.2.2.2.2.1
  have hx1 := hx.1
  have hx2 := hx.2
  by_cases c1 : 0 ≤ x ∧ x ≤ 3
  · rw [if_pos c1]
    by_cases c2 : ¬ (T x).1 = -1
    · rw [if_pos c2]
      refine zEv_run gX10_perform 60 [] rfl ?_
      refine zCl_e (ktr_t hT hx c1 c2) (by decide) ?_
      refine zBrT (by first | (simp only [rI]; omega) | (simp only [rL]; omega)) (by omega) ?_
      refine zCl_i (kgb (K := kI K 0 0) hk hT c1) (by decide) ?_
      rintro o9 h9 ⟨c, rfl, hc, rfl⟩
      exact ⟨_, kA (kI K 0 0) 0 c, rfl, rfl, kF_t (kF_t (kF_r K) (kF_I _ _ (by omega))) (kF_A _ _ (by omega)), hc, rfl, rfl⟩
    · rw [if_neg c2]
      refine zEv_run gX10_perform 60 [] rfl ?_
      refine zCl_e (ktr_2 hT hx c1 (Decidable.not_not.mp c2)) (by decide) ?_
      refine zBrF (by first | (simp only [rI]; omega) | (simp only [rL]; omega)) (by omega) ?_
      exact ⟨0, kI K 0 2, rfl, rfl, kF_t (kF_r K) (kF_I _ _ (by omega)), hk, rfl⟩
  · rw [if_neg c1]
    refine zEv_run gX10_perform 60 [] rfl ?_
    refine zCl_e (ktr_1 hx c1) (by decide) ?_
    refine zBrF (by first | (simp only [rI]; omega) | (simp only [rL]; omega)) (by omega) ?_
    exact ⟨0, kI K 0 1, rfl, rfl, kF_t (kF_r K) (kF_I _ _ (by omega)), hk, rfl⟩
set_option maxHeartbeats 1000000 in
set_option maxRecDepth 100000 in
theorem kcp1  : zEv X 1 mX10_copies [zR 30, zR 32] (cX S ++ (cM K ++ t)) (fun o9 h9 => o9 = .inl none ∧ ∃ f : Nat → Int, (∀ k : Int, 0 ≤ k → k < 3108 → f k.toNat = K.2 0 k.toNat) ∧ h9 = cX S ++ (cM (kA K 2 f) ++ t)) := by
  have lp : ∀ (k : Nat) (i : Int) (f : Nat → Int), 0 ≤ i → i + k = 3108 → (∀ q : Int, 0 ≤ q → q < i → f q.toNat = K.2 0 q.toNat) → zWP X mX10_copies 1 (fun o9 h9 => o9 = .inl none ∧ ∃ f : Nat → Int, (∀ k : Int, 0 ≤ k → k < 3108 → f k.toNat = K.2 0 k.toNat) ∧ h9 = cX S ++ (cM (kA K 2 f) ++ t)) 2 [some (zR 30), some (zR 32), some (zI i)] [] (cX S ++ (cM (kA K 2 f) ++ t)) 0 0 := by
    intro k
    induction k with
    | zero =>
      intro i f i0 hk0 hf
      refine zWP_run gX10_copies 60 [2] ?_
      refine zBrT (by first | (simp only [rI]; omega) | (simp only [rL]; omega)) (by omega) ?_
      exact ⟨rfl, f, fun q q0 q1 => hf q q0 (by omega), rfl⟩
    | succ k ih =>
      intro i f i0 hk0 hf
      refine zWP_run gX10_copies 60 [2] ?_
      refine zBrF (by first | (simp only [rI]; omega) | (simp only [rL]; omega)) (by omega) ?_
      refine mVc_i (by omega) ?_
      refine mVc_i (by omega) ?_
      exact ih (i + 1) (va_up f i.toNat (K.2 0 i.toNat)) (by omega) (by omega) (fun q q0 q1 => by
        by_cases z : q = i
        · rw [z, va_up_s]
        · rw [va_up_o _ _ (by omega)]; exact hf q q0 (by omega))
  refine zEv_run gX10_copies 60 [2] rfl ?_
  have k9 := lp 3108 0 (K.2 2) (by omega) (by omega) (fun q q0 q1 => by omega)
  rw [kA_same] at k9
  exact k9
set_option maxHeartbeats 1000000 in
set_option maxRecDepth 100000 in
theorem kcp2  : zEv X 1 mX10_copies [zR 32, zR 30] (cX S ++ (cM K ++ t)) (fun o9 h9 => o9 = .inl none ∧ ∃ f : Nat → Int, (∀ k : Int, 0 ≤ k → k < 3108 → f k.toNat = K.2 2 k.toNat) ∧ h9 = cX S ++ (cM (kA K 0 f) ++ t)) := by
  have lp : ∀ (k : Nat) (i : Int) (f : Nat → Int), 0 ≤ i → i + k = 3108 → (∀ q : Int, 0 ≤ q → q < i → f q.toNat = K.2 2 q.toNat) → zWP X mX10_copies 1 (fun o9 h9 => o9 = .inl none ∧ ∃ f : Nat → Int, (∀ k : Int, 0 ≤ k → k < 3108 → f k.toNat = K.2 2 k.toNat) ∧ h9 = cX S ++ (cM (kA K 0 f) ++ t)) 2 [some (zR 32), some (zR 30), some (zI i)] [] (cX S ++ (cM (kA K 0 f) ++ t)) 0 0 := by
    intro k
    induction k with
    | zero =>
      intro i f i0 hk0 hf
      refine zWP_run gX10_copies 60 [2] ?_
      refine zBrT (by first | (simp only [rI]; omega) | (simp only [rL]; omega)) (by omega) ?_
      exact ⟨rfl, f, fun q q0 q1 => hf q q0 (by omega), rfl⟩
    | succ k ih =>
      intro i f i0 hk0 hf
      refine zWP_run gX10_copies 60 [2] ?_
      refine zBrF (by first | (simp only [rI]; omega) | (simp only [rL]; omega)) (by omega) ?_
      refine mVc_i (by omega) ?_
      refine mVc_i (by omega) ?_
      exact ih (i + 1) (va_up f i.toNat (K.2 2 i.toNat)) (by omega) (by omega) (fun q q0 q1 => by
        by_cases z : q = i
        · rw [z, va_up_s]
        · rw [va_up_o _ _ (by omega)]; exact hf q q0 (by omega))
  refine zEv_run gX10_copies 60 [2] rfl ?_
  have k9 := lp 3108 0 (K.2 0) (by omega) (by omega) (fun q q0 q1 => by omega)
  rw [kA_same] at k9
  exact k9
theorem vTl_stop (num : Nat → Int) : ∀ (k : Nat) (i : Int) (u : vV), ¬ (vTl num k i u).1 = i + k → ¬ vTold (vTl num k i u).2 (num (vTl num k i u).1.toNat) = 0 := by
  intro k
  induction k with
  | zero => intro i u h; exact absurd (show i = i + ((0 : Nat) : Int) by omega) h
  | succ k ih =>
    intro i u h
    simp only [vTl] at h ⊢
    by_cases c : vTold u (num i.toNat) = 0
    · rw [if_pos c] at h ⊢
      exact ih (i + 1) _ (fun q => h (by rw [q]; omega))
    · rw [if_neg c] at h ⊢
      exact c
set_option maxHeartbeats 1000000 in
set_option maxRecDepth 100000 in
theorem kJudge (hk : kVn (K.2 0) v (v.1 4)) (hT : kTr K T) {x : Int} (hx : rI x) {w : Int} (hw : rI w) : zEv X 10 mX10_judge [zR 29, zI x, zI w] (cX S ++ (cM K ++ t)) (kTp S K t (kcd [1, 2, 0]) (pJudge v T x w)) := by
  unfold pJudge
  have b1 := hk.1.2.1
  have b2 := hk.1.2.2.1
  have b4 := hk.1.2.2.2.2.1
  have hx1 := hx.1
  have hx2 := hx.2
  have hw1 := hw.1
  have hw2 := hw.2
  by_cases c1 : 0 ≤ x ∧ x ≤ 3
  · rw [if_pos c1]
    by_cases c2 : ¬ (T x).1 = -1
    · rw [if_pos c2]
      by_cases c3 : 0 ≤ w ∧ w ≤ 2
      · rw [if_pos c3]
        have em := (hT.2 x c1.1 (by omega)).2.1
        have en := (hT.2 x c1.1 (by omega)).2.2
        have hb := (hT.1 x).2
        refine zEv_run gX10_judge 120 [88] rfl ?_
        refine zCl_e (ktr_t hT hx c1 c2) (by decide) ?_
        refine zBrT (by first | (simp only [rI]; omega) | (simp only [rL]; omega)) (by omega) ?_
        refine mVc_i (by first | omega | (simp only [rI]; omega) | (simp only [rL]; omega)) ?_
        refine zCl_e (kwi_t (by simp only [rL]; omega) (by simp only [rL]; omega) (by simp only [rL]; omega) (by omega)) (by decide) ?_
        refine zBrF (by first | (simp only [rI]; omega) | (simp only [rL]; omega)) (by omega) ?_
        refine zBrT (by first | (simp only [rI]; omega) | (simp only [rL]; omega)) (by omega) ?_
        refine zCl_i (kcp1 (K := kI K 0 0)) (by decide) ?_
        rintro o9 h9 ⟨rfl, f, hf, rfl⟩
        refine zCl_i (kgb (K := kA (kI K 0 0) 2 f) hk hT c1) (by decide) ?_
        rintro o9 h9 ⟨c, rfl, hc, rfl⟩
        have hn := vTl_n (T x).2.2 (T x).2.1.toNat 0 v
        have hn2 : 0 ≤ (tPr v T x).1 ∧ (tPr v T x).1 ≤ (T x).2.1 := by
          have a : (0 : Int) ≤ (tPr v T x).1 := hn.2.1
          have b : (tPr v T x).1 ≤ 0 + ((T x).2.1.toNat : Int) := hn.2.2
          omega
        have hwt := vTold_b (tPr v T x).2 ((T x).2.2 (tPr v T x).1.toNat)
        have tail : ∀ fv : Int, fv = (if (tPr v T x).1 = (T x).2.1 then 0 else vTold (tPr v T x).2 ((T x).2.2 (tPr v T x).1.toNat)) → (fv = 0 ↔ (tPr v T x).1 = (T x).2.1) → 0 ≤ fv ∧ fv ≤ 4 → zWP X mX10_judge 10 (kTp S K t (kcd [1, 2, 0]) (.inl (if w = 0 then (if (tPr v T x).1 = (T x).2.1 then -1 else (tPr v T x).1) else if w = 1 then (if (tPr v T x).1 = (T x).2.1 then 0 else vTold (tPr v T x).2 ((T x).2.2 (tPr v T x).1.toNat)) else zSum (vTot (tPr v T x).2.2.1) ((tPr v T x).2.1 1)), v)) 88 [some (zR 29), some (zI x), some (zI w), some (zI (tPr v T x).1), none, none] [zI fv] (cX S ++ (cM (kA (kA (kI K 0 0) 2 f) 0 c) ++ t)) 0 0 := by
          intro fv hfv h0 bf
          refine zWP_run gX10_judge 120 [] ?_
          refine zCl_e (ktl (K := kA (kA (kI K 0 0) 2 f) 0 c) hc) (by decide) ?_
          refine zCl_i (kcp2 (K := kA (kA (kI K 0 0) 2 f) 0 c)) (by decide) ?_
          rintro o9 h9 ⟨rfl, f2, hf2, rfl⟩
          have hv2 : kV f2 v := kV_cg (c := K.2 0) (fun i hi => by
            have e1 := hf2 i (by omega) (by omega)
            have e2 := hf i (by omega) (by omega)
            rw [Int.toNat_natCast] at e1 e2
            rw [e1]
            exact e2) hk
          by_cases w0 : w = 0
          · refine zBrT (by first | (simp only [rI]; omega) | (simp only [rL]; omega)) w0 ?_
            rw [if_pos w0]
            by_cases z : fv = 0
            · refine zBrT (by first | (simp only [rI]; omega) | (simp only [rL]; omega)) z ?_
              rw [if_pos (h0.mp z)]
              exact ⟨_, kA (kA (kA (kI K 0 0) 2 f) 0 c) 0 f2, rfl, rfl, kF_t (kF_t (kF_t (kF_t (kF_r K) (kF_I _ _ (by omega))) (kF_A _ _ (by omega))) (kF_A _ _ (by omega))) (kF_A _ _ (by omega)), hv2, rfl, rfl⟩
            · refine zBrF (by first | (simp only [rI]; omega) | (simp only [rL]; omega)) z ?_
              rw [if_neg (fun q => z (h0.mpr q))]
              exact ⟨_, kA (kA (kA (kI K 0 0) 2 f) 0 c) 0 f2, rfl, rfl, kF_t (kF_t (kF_t (kF_t (kF_r K) (kF_I _ _ (by omega))) (kF_A _ _ (by omega))) (kF_A _ _ (by omega))) (kF_A _ _ (by omega)), hv2, rfl, rfl⟩
          · refine zBrF (by first | (simp only [rI]; omega) | (simp only [rL]; omega)) w0 ?_
            rw [if_neg w0]
            by_cases w1 : w = 1
            · refine zBrT (by first | (simp only [rI]; omega) | (simp only [rL]; omega)) w1 ?_
              rw [if_pos w1, ← hfv]
              exact ⟨_, kA (kA (kA (kI K 0 0) 2 f) 0 c) 0 f2, rfl, rfl, kF_t (kF_t (kF_t (kF_t (kF_r K) (kF_I _ _ (by omega))) (kF_A _ _ (by omega))) (kF_A _ _ (by omega))) (kF_A _ _ (by omega)), hv2, rfl, rfl⟩
            · refine zBrF (by first | (simp only [rI]; omega) | (simp only [rL]; omega)) w1 ?_
              rw [if_neg w1]
              exact ⟨_, kA (kA (kA (kI K 0 0) 2 f) 0 c) 0 f2, rfl, rfl, kF_t (kF_t (kF_t (kF_t (kF_r K) (kF_I _ _ (by omega))) (kF_A _ _ (by omega))) (kF_A _ _ (by omega))) (kF_A _ _ (by omega)), hv2, rfl, rfl⟩
        refine mVc_i (by omega) ?_
        by_cases z : (tPr v T x).1 = (T x).2.1
        · refine zBrT (by show rI (tPr v T x).1 ∧ rI (K.2 13 x.toNat); rw [em]; simp only [rI]; omega) (by show (tPr v T x).1 = K.2 13 x.toNat; rw [em]; exact z) ?_
          exact tail 0 (by rw [if_pos z]) ⟨fun _ => z, fun _ => rfl⟩ (by omega)
        · refine zBrF (by show rI (tPr v T x).1 ∧ rI (K.2 13 x.toNat); rw [em]; simp only [rI]; omega) (by show ¬ (tPr v T x).1 = K.2 13 x.toNat; rw [em]; exact z) ?_
          have ei := en (tPr v T x).1 hn2.1 (by omega)
          refine mVc_i (by omega) ?_
          refine zCl_e (kwt (K := kA (kA (kI K 0 0) 2 f) 0 c) (z := K.2 14 (30 * x + (tPr v T x).1).toNat) hc (by rw [ei]; exact hb.2 _)) (by decide) ?_
          rw [ei]
          refine tail _ (by rw [if_neg z]) ⟨fun q => absurd q ?_, fun q => absurd q z⟩ hwt
          exact vTl_stop (T x).2.2 (T x).2.1.toNat 0 v (fun q => z (by rw [show (tPr v T x).1 = _ from q]; omega))
      · rw [if_neg c3]
        refine zEv_run gX10_judge 120 [] rfl ?_
        refine zCl_e (ktr_t hT hx c1 c2) (by decide) ?_
        refine zBrT (by first | (simp only [rI]; omega) | (simp only [rL]; omega)) (by omega) ?_
        refine mVc_i (by first | omega | (simp only [rI]; omega) | (simp only [rL]; omega)) ?_
        refine zCl_e (kwi_f (by simp only [rL]; omega) (by simp only [rL]; omega) (by simp only [rL]; omega) (by omega)) (by decide) ?_
        refine zBrT (by first | (simp only [rI]; omega) | (simp only [rL]; omega)) (by omega) ?_
        refine zBrF (by first | (simp only [rI]; omega) | (simp only [rL]; omega)) (by omega) ?_
        exact ⟨0, kI (kI K 0 0) 0 3, rfl, rfl, kF_t (kF_t (kF_r K) (kF_I _ _ (by omega))) (kF_I _ _ (by omega)), hk, rfl⟩
    · rw [if_neg c2]
      refine zEv_run gX10_judge 120 [] rfl ?_
      refine zCl_e (ktr_2 hT hx c1 (Decidable.not_not.mp c2)) (by decide) ?_
      refine zBrF (by first | (simp only [rI]; omega) | (simp only [rL]; omega)) (by omega) ?_
      refine zBrF (by first | (simp only [rI]; omega) | (simp only [rL]; omega)) (by omega) ?_
      exact ⟨0, kI K 0 2, rfl, rfl, kF_t (kF_r K) (kF_I _ _ (by omega)), hk, rfl⟩
  · rw [if_neg c1]
    refine zEv_run gX10_judge 120 [] rfl ?_
    refine zCl_e (ktr_1 hx c1) (by decide) ?_
    refine zBrF (by first | (simp only [rI]; omega) | (simp only [rL]; omega)) (by omega) ?_
    refine zBrF (by first | (simp only [rI]; omega) | (simp only [rL]; omega)) (by omega) ?_
    exact ⟨0, kI K 0 1, rfl, rfl, kF_t (kF_r K) (kF_I _ _ (by omega)), hk, rfl⟩
set_option maxHeartbeats 1000000 in
set_option maxRecDepth 100000 in
theorem kcut (hT : kTr K T) {x p z : Int} (c1 : 0 ≤ x ∧ x ≤ 3) (c2 : ¬ (T x).1 = -1) (hp : 0 ≤ p ∧ p < 30) (hz : rL z) : zEv X 1 mX10_cut [zR 29, zI x, zI p, zJ z] (cX S ++ (cM K ++ t)) (fun o9 h9 => o9 = .inl (some (zJ (tCut (T x).1 z))) ∧ ∃ f : Nat → Int, f = va_up (K.2 14) (30 * x + p).toNat (tCut (T x).1 z) ∧ h9 = cX S ++ (cM (kA K 14 f) ++ t)) := by
  have es := (hT.2 x c1.1 (by omega)).1
  have hb := (hT.1 x).1
  have ec := cu64_ok (so := (T x).1) (z := z) (by omega) hz
  rw [← es] at ec
  refine zEv_run gX10_cut 80 [] rfl ?_
  refine mVc_i (by omega) ?_
  refine mVc_i (by omega) ?_
  refine mVc_i (by omega) ?_
  refine ⟨?_, va_up (K.2 14) (30 * x + p).toNat (cu64 (K.2 12 x.toNat) z), by rw [ec, es], rfl⟩
  show (Sum.inl (some (zJ (va_up (K.2 14) (30 * x + p).toNat (cu64 (K.2 12 x.toNat) z) (30 * x + p).toNat))) : zO) = _
  rw [va_up_s, ec, es]
theorem kTr_up {K : kK} {T : tT} (h : kTr K T) {x p z : Int} (hx : 0 ≤ x ∧ x ≤ 3) (hp : 0 ≤ p ∧ p < 30) (hz : rL z) : kTr (kA K 14 (va_up (K.2 14) (30 * x + p).toNat z)) (tUp T x ((T x).1, (T x).2.1, va_up (T x).2.2 p.toNat z)) := by
  refine ⟨tB_up h.1 x ⟨(h.1 x).1, (h.1 x).2.1, tUp_rL (h.1 x).2.2 _ hz⟩, fun j j0 j1 => ?_⟩
  have hj := h.2 j j0 j1
  by_cases e : j = x
  · subst e
    rw [tUp_s]
    refine ⟨hj.1, hj.2.1, fun k k0 k1 => ?_⟩
    show va_up (K.2 14) (30 * j + p).toNat z (30 * j + k).toNat = va_up (T j).2.2 p.toNat z k.toNat
    by_cases e2 : k = p
    · rw [e2, va_up_s, va_up_s]
    · rw [va_up_o _ _ (by omega), va_up_o _ _ (by omega)]
      exact hj.2.2 k k0 k1
  · rw [tUp_o T _ e]
    refine ⟨hj.1, hj.2.1, fun k k0 k1 => ?_⟩
    show va_up (K.2 14) (30 * x + p).toNat z (30 * j + k).toNat = _
    rw [va_up_o _ _ (by omega)]
    exact hj.2.2 k k0 k1
set_option maxHeartbeats 1000000 in
set_option maxRecDepth 100000 in
theorem kWrite (hT : kTr K T) {x : Int} (hx : rI x) {p z : Int} (hp : rI p) (hz : rL z) : zEv X 10 mX10_write [zR 29, zI x, zI p, zJ z] (cX S ++ (cM K ++ t)) (kTt S K t (kcd [1, 2, 3]) zJ (pWrite T x p z).1 (pWrite T x p z).2) := by
  unfold pWrite
  have hx1 := hx.1
  have hx2 := hx.2
  have hp1 := hp.1
  have hp2 := hp.2
  by_cases c1 : 0 ≤ x ∧ x ≤ 3
  · rw [if_pos c1]
    by_cases c2 : ¬ (T x).1 = -1
    · rw [if_pos c2]
      by_cases c3 : 0 ≤ p ∧ p < (T x).2.1
      · rw [if_pos c3]
        have em := (hT.2 x c1.1 (by omega)).2.1
        have hb := (hT.1 x).2
        refine zEv_run gX10_write 80 [] rfl ?_
        refine zCl_e (ktr_t hT hx c1 c2) (by decide) ?_
        refine zBrT (by first | (simp only [rI]; omega) | (simp only [rL]; omega)) (by omega) ?_
        refine mVc_i (by first | omega | (simp only [rI]; omega) | (simp only [rL]; omega)) ?_
        refine mVc_i (by omega) ?_
        refine mVc_i (by show rI (K.2 13 x.toNat - 1); rw [em]; simp only [rI]; omega) ?_
        refine zCl_e (kwi_t (x := p) (b := K.2 13 x.toNat - 1) (by simp only [rL]; omega) (by simp only [rL]; omega) (by rw [em]; simp only [rL]; omega) (by rw [em]; omega)) (by decide) ?_
        refine zBrF (by first | (simp only [rI]; omega) | (simp only [rL]; omega)) (by omega) ?_
        refine zCl_i (kcut (K := kI K 0 0) hT c1 c2 (by omega) hz) (by decide) ?_
        rintro o9 h9 ⟨rfl, f, hf, rfl⟩
        subst hf
        exact ⟨_, kA (kI K 0 0) 14 _, rfl, rfl, kG_t (kG_t (kG_r K) (kG_I _ _ (by omega))) (kG_A _ _ (by omega)), kTr_up (K := kI K 0 0) hT c1 (by omega) (tCut_b hz), rfl, rfl⟩
      · rw [if_neg c3]
        have em := (hT.2 x c1.1 (by omega)).2.1
        have hb := (hT.1 x).2
        refine zEv_run gX10_write 80 [] rfl ?_
        refine zCl_e (ktr_t hT hx c1 c2) (by decide) ?_
        refine zBrT (by first | (simp only [rI]; omega) | (simp only [rL]; omega)) (by omega) ?_
        refine mVc_i (by first | omega | (simp only [rI]; omega) | (simp only [rL]; omega)) ?_
        refine mVc_i (by omega) ?_
        refine mVc_i (by show rI (K.2 13 x.toNat - 1); rw [em]; simp only [rI]; omega) ?_
        refine zCl_e (kwi_f (x := p) (b := K.2 13 x.toNat - 1) (by simp only [rL]; omega) (by simp only [rL]; omega) (by rw [em]; simp only [rL]; omega) (by rw [em]; omega)) (by decide) ?_
        refine zBrT (by first | (simp only [rI]; omega) | (simp only [rL]; omega)) (by omega) ?_
        refine zCl_e (kfa (K := kI K 0 0)) (by decide) ?_
        refine mVc_i (by first | omega | (simp only [rI]; omega) | (simp only [rL]; omega)) ?_
        exact ⟨0, kI (kI K 0 0) 0 3, rfl, rfl, kG_t (kG_t (kG_r K) (kG_I _ _ (by omega))) (kG_I _ _ (by omega)), hT, rfl⟩
    · rw [if_neg c2]
      refine zEv_run gX10_write 80 [] rfl ?_
      refine zCl_e (ktr_2 hT hx c1 (Decidable.not_not.mp c2)) (by decide) ?_
      refine zBrF (by first | (simp only [rI]; omega) | (simp only [rL]; omega)) (by omega) ?_
      exact ⟨0, kI K 0 2, rfl, rfl, kG_t (kG_r K) (kG_I _ _ (by omega)), hT, rfl⟩
  · rw [if_neg c1]
    refine zEv_run gX10_write 80 [] rfl ?_
    refine zCl_e (ktr_1 hx c1) (by decide) ?_
    refine zBrF (by first | (simp only [rI]; omega) | (simp only [rL]; omega)) (by omega) ?_
    exact ⟨0, kI K 0 1, rfl, rfl, kG_t (kG_r K) (kG_I _ _ (by omega)), hT, rfl⟩
set_option maxHeartbeats 1000000 in
set_option maxRecDepth 100000 in
theorem kPour (hk : kVn (K.2 0) v (v.1 4)) (hT : kTr K T) {x : Int} (hx : rI x) : zEv X 10 mX10_pour [zR 29, zI x] (cX S ++ (cM K ++ t)) (kTt S K t (kcd [1, 2]) zI (pPour v T x).1 (pPour v T x).2) := by
  unfold pPour
  have b1 := hk.1.2.1
  have b2 := hk.1.2.2.1
  have b4 := hk.1.2.2.2.2.1
  have hx1 := hx.1
  have hx2 := hx.2
  by_cases c1 : 0 ≤ x ∧ x ≤ 3
  · rw [if_pos c1]
    by_cases c2 : ¬ (T x).1 = -1
    · rw [if_pos c2]
      have em := (hT.2 x c1.1 (by omega)).2.1
      have hb := (hT.1 x).2
      have lp : ∀ (k : Nat) (i : Int) (R : kK), 0 ≤ i → i + k = (min (T x).2.1 (v.1 4)) → kG K R → R.1 0 = 0 → kTr R (tUp T x ((T x).1, (T x).2.1, vPu v (T x).1 (T x).2.2 i)) → zWP X mX10_pour 10 (kTt S K t (kcd [1, 2]) zI (.inl (min (T x).2.1 (v.1 4))) (tUp T x ((T x).1, (T x).2.1, vPu v (T x).1 (T x).2.2 (min (T x).2.1 (v.1 4))))) 34 [some (zR 29), some (zI x), some (zI (min (T x).2.1 (v.1 4))), some (zI i)] [] (cX S ++ (cM R ++ t)) 0 0 := by
        intro k
        induction k with
        | zero =>
          intro i R i0 hk0 hg R0 hr
          refine zWP_run gX10_pour 80 [34] ?_
          refine zBrT (by first | (simp only [rI]; omega) | (simp only [rL]; omega)) (by omega) ?_
          rw [show i = (min (T x).2.1 (v.1 4)) by omega] at hr
          exact ⟨_, R, rfl, rfl, hg, hr, rfl, R0⟩
        | succ k ih =>
          intro i R i0 hk0 hg R0 hr
          have hv2 : kVn (R.2 0) v (v.1 4) := by rw [hg.2 0 (by omega)]; exact hk
          have hbt := hk.1.2.2.2.2.2.2 i i0 (by omega)
          have es : ((tUp T x ((T x).1, (T x).2.1, vPu v (T x).1 (T x).2.2 i)) x) = ((T x).1, (T x).2.1, vPu v (T x).1 (T x).2.2 i) := tUp_s T x _
          refine zWP_run gX10_pour 80 [34] ?_
          refine zBrF (by first | (simp only [rI]; omega) | (simp only [rL]; omega)) (by omega) ?_
          refine zCl_e (kp2 hv2 ⟨i0, by omega⟩) (by decide) ?_
          refine mVc_i (by simp only [rI]; omega) ?_
          refine zCl_i (kcut (K := R) hr (p := i) (z := v.2.2.2.2.1 i) c1 (by rw [es]; exact c2) (by omega) (by simp only [rL]; omega)) (by decide) ?_
          rintro o9 h9 ⟨rfl, f, hf, rfl⟩
          subst hf
          have h3 := kTr_up hr c1 (p := i) (z := tCut ((tUp T x ((T x).1, (T x).2.1, vPu v (T x).1 (T x).2.2 i)) x).1 (v.2.2.2.2.1 i)) (by omega) (tCut_b (by simp only [rL]; omega))
          rw [es] at h3
          have e4 : tUp (tUp T x ((T x).1, (T x).2.1, vPu v (T x).1 (T x).2.2 i)) x ((T x).1, (T x).2.1, va_up (vPu v (T x).1 (T x).2.2 i) i.toNat (tCut (T x).1 (v.2.2.2.2.1 i))) = (tUp T x ((T x).1, (T x).2.1, vPu v (T x).1 (T x).2.2 (i + 1))) := by
            rw [vPu_s v (T x).1 (T x).2.2 i0]
            funext j
            simp only [tUp]
            split <;> rfl
          rw [es]
          have h5 : kTr (kA R 14 (va_up (R.2 14) (30 * x + i).toNat (tCut (T x).1 (v.2.2.2.2.1 i)))) (tUp T x ((T x).1, (T x).2.1, vPu v (T x).1 (T x).2.2 (i + 1))) := by rw [← e4]; exact h3
          exact ih (i + 1) _ (by omega) (by omega) (kG_t hg (kG_A _ _ (by omega))) R0 h5
      have e0 : (tUp T x ((T x).1, (T x).2.1, vPu v (T x).1 (T x).2.2 0)) = T := by
        funext j
        simp only [tUp]
        split
        · rename_i z
          rw [z]
          rfl
        · rfl
      refine zEv_run gX10_pour 80 [34] rfl ?_
      refine zCl_e (ktr_t hT hx c1 c2) (by decide) ?_
      refine zBrT (by first | (simp only [rI]; omega) | (simp only [rL]; omega)) (by omega) ?_
      refine mVc_i (by omega) ?_
      refine zCl_e (kth (K := kI K 0 0) hk) (by decide) ?_
      refine mVc_i (by show rI (K.2 13 x.toNat) ∧ rI (v.1 4); rw [em]; simp only [rI]; omega) ?_
      have k9 := lp (min (T x).2.1 (v.1 4)).toNat 0 (kI K 0 0) (by omega) (by omega) (kG_t (kG_r K) (kG_I _ _ (by omega))) rfl (by rw [e0]; exact hT)
      rw [← em] at k9 ⊢
      exact k9
    · rw [if_neg c2]
      refine zEv_run gX10_pour 80 [34] rfl ?_
      refine zCl_e (ktr_2 hT hx c1 (Decidable.not_not.mp c2)) (by decide) ?_
      refine zBrF (by first | (simp only [rI]; omega) | (simp only [rL]; omega)) (by omega) ?_
      exact ⟨0, kI K 0 2, rfl, rfl, kG_t (kG_r K) (kG_I _ _ (by omega)), hT, rfl⟩
  · rw [if_neg c1]
    refine zEv_run gX10_pour 80 [34] rfl ?_
    refine zCl_e (ktr_1 hx c1) (by decide) ?_
    refine zBrF (by first | (simp only [rI]; omega) | (simp only [rL]; omega)) (by omega) ?_
    exact ⟨0, kI K 0 1, rfl, rfl, kG_t (kG_r K) (kG_I _ _ (by omega)), hT, rfl⟩
def kTv (S : sS) (K : kK) (t : zH) (cd : Nat → Int) (n : Nat) (T : tT) : zO → zH → Prop := fun o9 h9 => o9 = .inl none ∧ ∃ R : kK, h9 = cX S ++ (cM R ++ t) ∧ kG K R ∧ kTr R T ∧ R.1 0 = if n = 9 then 0 else cd n
set_option maxHeartbeats 1000000 in
set_option maxRecDepth 100000 in
theorem kTray (hT : kTr K T) {x : Int} (hx : rI x) {so mn : Int} (hso : rI so) (hmn : rI mn) : zEv X 10 mX10_tray [zR 29, zI x, zI so, zI mn] (cX S ++ (cM K ++ t)) (kTv S K t (kcd [1, 0]) (pTray T x so mn).1 (pTray T x so mn).2) := by
  unfold pTray
  have hx1 := hx.1
  have hx2 := hx.2
  have hs1 := hso.1
  have hs2 := hso.2
  have hm1 := hmn.1
  have hm2 := hmn.2
  by_cases c1 : 0 ≤ x ∧ x ≤ 3
  · rw [if_pos c1]
    by_cases c2 : (0 ≤ so ∧ so ≤ 3) ∧ 0 ≤ mn ∧ mn ≤ 30
    · rw [if_pos c2]
      have lp : ∀ (k : Nat) (i : Int) (f : Nat → Int), 0 ≤ i → i + k = 30 → (∀ q : Int, 0 ≤ q → q < i → f (30 * x + q).toNat = 0) → (∀ j : Nat, ¬ ((30 * x).toNat ≤ j ∧ j < (30 * x).toNat + 30) → f j = K.2 14 j) → zWP X mX10_tray 10 (kTv S K t (kcd [1, 0]) 9 (tUp T x (so, mn, fun k => if k < 30 then 0 else (T x).2.2 k))) 69 [some (zR 29), some (zI x), some (zI so), some (zI mn), some (zI i)] [] (cX S ++ (cM (kA (kA (kA (kI K 0 0) 12 (va_up (K.2 12) x.toNat so)) 13 (va_up (K.2 13) x.toNat mn)) 14 f) ++ t)) 0 0 := by
        intro k
        induction k with
        | zero =>
          intro i f i0 hk0 hf hfr
          refine zWP_run gX10_tray 80 [69] ?_
          refine zBrT (by first | (simp only [rI]; omega) | (simp only [rL]; omega)) (by omega) ?_
          refine ⟨rfl, kA (kA (kA (kI K 0 0) 12 (va_up (K.2 12) x.toNat so)) 13 (va_up (K.2 13) x.toNat mn)) 14 f, rfl, kG_t (kG_t (kG_t (kG_t (kG_r K) (kG_I _ _ (by omega))) (kG_A _ _ (by omega))) (kG_A _ _ (by omega))) (kG_A _ _ (by omega)), ⟨tB_up hT.1 x ⟨⟨by show -1 ≤ so; omega, by show so ≤ 3; omega⟩, c2.2, fun k => ?_⟩, fun j j0 j1 => ?_⟩, rfl⟩
          · show rL (if k < 30 then 0 else (T x).2.2 k)
            split
            · simp only [rL]; omega
            · exact (hT.1 x).2.2 k
          · have hj := hT.2 j j0 j1
            by_cases e : j = x
            · subst e
              rw [tUp_s]
              refine ⟨va_up_s _ _ _, va_up_s _ _ _, fun k k0 k1 => ?_⟩
              show f (30 * j + k).toNat = if k.toNat < 30 then 0 else (T j).2.2 k.toNat
              rw [if_pos (by omega), hf k k0 (by omega)]
            · rw [tUp_o T _ e]
              refine ⟨?_, ?_, fun k k0 k1 => ?_⟩
              · show va_up (K.2 12) x.toNat so j.toNat = _
                rw [va_up_o _ _ (by omega)]; exact hj.1
              · show va_up (K.2 13) x.toNat mn j.toNat = _
                rw [va_up_o _ _ (by omega)]; exact hj.2.1
              · show f (30 * j + k).toNat = _
                rw [hfr _ (by omega)]; exact hj.2.2 k k0 k1
        | succ k ih =>
          intro i f i0 hk0 hf hfr
          refine zWP_run gX10_tray 80 [69] ?_
          refine zBrF (by first | (simp only [rI]; omega) | (simp only [rL]; omega)) (by omega) ?_
          refine mVc_i (by omega) ?_
          exact ih (i + 1) (va_up f (30 * x + i).toNat 0) (by omega) (by omega) (fun q q0 q1 => by
            by_cases z : q = i
            · rw [z, va_up_s]
            · rw [va_up_o _ _ (by omega)]; exact hf q q0 (by omega)) (fun j hj => by rw [va_up_o _ _ (by omega)]; exact hfr j hj)
      refine zEv_run gX10_tray 80 [69] rfl ?_
      refine zCl_e (kit_t hx c1) (by decide) ?_
      refine zBrF (by first | (simp only [rI]; omega) | (simp only [rL]; omega)) (by omega) ?_
      refine mVc_i (by first | omega | (simp only [rI]; omega) | (simp only [rL]; omega)) ?_
      refine zCl_e (kwi_t (by simp only [rL]; omega) (by simp only [rL]; omega) (by simp only [rL]; omega) (by omega)) (by decide) ?_
      refine zBrF (by first | (simp only [rI]; omega) | (simp only [rL]; omega)) (by omega) ?_
      refine mVc_i (by first | omega | (simp only [rI]; omega) | (simp only [rL]; omega)) ?_
      refine zCl_e (kwi_t (by simp only [rL]; omega) (by simp only [rL]; omega) (by simp only [rL]; omega) (by omega)) (by decide) ?_
      refine zBrF (by first | (simp only [rI]; omega) | (simp only [rL]; omega)) (by omega) ?_
      refine zBrT (by first | (simp only [rI]; omega) | (simp only [rL]; omega)) (by omega) ?_
      refine mVc_i (by first | omega | (simp only [rI]; omega) | (simp only [rL]; omega)) ?_
      refine mVc_i (by first | omega | (simp only [rI]; omega) | (simp only [rL]; omega)) ?_
      have k9 := lp 30 0 (K.2 14) (by omega) (by omega) (fun q q0 q1 => by omega) (fun _ _ => rfl)
      rw [show kA (kA (kA (kI K 0 0) 12 (va_up (K.2 12) x.toNat so)) 13 (va_up (K.2 13) x.toNat mn)) 14 (K.2 14) = kA (kA (kI K 0 0) 12 (va_up (K.2 12) x.toNat so)) 13 (va_up (K.2 13) x.toNat mn) from kA_same (kA (kA (kI K 0 0) 12 (va_up (K.2 12) x.toNat so)) 13 (va_up (K.2 13) x.toNat mn)) 14] at k9
      exact k9
    · rw [if_neg c2]
      by_cases cs : 0 ≤ so ∧ so ≤ 3
      · refine zEv_run gX10_tray 80 [69] rfl ?_
        refine zCl_e (kit_t hx c1) (by decide) ?_
        refine zBrF (by first | (simp only [rI]; omega) | (simp only [rL]; omega)) (by omega) ?_
        refine mVc_i (by first | omega | (simp only [rI]; omega) | (simp only [rL]; omega)) ?_
        refine zCl_e (kwi_t (by simp only [rL]; omega) (by simp only [rL]; omega) (by simp only [rL]; omega) (by omega)) (by decide) ?_
        refine zBrF (by first | (simp only [rI]; omega) | (simp only [rL]; omega)) (by omega) ?_
        refine mVc_i (by first | omega | (simp only [rI]; omega) | (simp only [rL]; omega)) ?_
        refine zCl_e (kwi_f (by simp only [rL]; omega) (by simp only [rL]; omega) (by simp only [rL]; omega) (by omega)) (by decide) ?_
        refine zBrT (by first | (simp only [rI]; omega) | (simp only [rL]; omega)) (by omega) ?_
        refine zBrF (by first | (simp only [rI]; omega) | (simp only [rL]; omega)) (by omega) ?_
        exact ⟨rfl, kI K 0 2, rfl, kG_t (kG_r K) (kG_I _ _ (by omega)), hT, rfl⟩
      · refine zEv_run gX10_tray 80 [69] rfl ?_
        refine zCl_e (kit_t hx c1) (by decide) ?_
        refine zBrF (by first | (simp only [rI]; omega) | (simp only [rL]; omega)) (by omega) ?_
        refine mVc_i (by first | omega | (simp only [rI]; omega) | (simp only [rL]; omega)) ?_
        refine zCl_e (kwi_f (by simp only [rL]; omega) (by simp only [rL]; omega) (by simp only [rL]; omega) (by omega)) (by decide) ?_
        refine zBrT (by first | (simp only [rI]; omega) | (simp only [rL]; omega)) (by omega) ?_
        refine zBrF (by first | (simp only [rI]; omega) | (simp only [rL]; omega)) (by omega) ?_
        exact ⟨rfl, kI K 0 2, rfl, kG_t (kG_r K) (kG_I _ _ (by omega)), hT, rfl⟩
  · rw [if_neg c1]
    refine zEv_run gX10_tray 80 [69] rfl ?_
    refine zCl_e (kit_f hx c1) (by decide) ?_
    refine zBrT (by first | (simp only [rI]; omega) | (simp only [rL]; omega)) (by omega) ?_
    refine zBrF (by first | (simp only [rI]; omega) | (simp only [rL]; omega)) (by omega) ?_
    exact ⟨rfl, kI K 0 1, rfl, kG_t (kG_r K) (kG_I _ _ (by omega)), hT, rfl⟩
end Mdlf
