/-! the reference: count, image, restore -/
section Kp
variable {X : mX} {S : sS} {K : kK} {t : zH} {v : vV}
set_option maxHeartbeats 1000000 in
set_option maxRecDepth 100000 in
theorem kCount (hk : kVn (K.2 0) v (v.1 4)) {w : Int} (hw : rI w) : zEv X 10 mX10_count [zR 29, zI w] (cX S ++ (cM (K) ++ t)) (zIs (.inl (some (zI (pCount v (K.1 1) w)))) (cX S ++ (cM (kI K 0 0) ++ t))) := by
  have b1 := hk.1.2.1
  have lp : ∀ (k : Nat) (i : Int), 0 ≤ i → i + k = v.1 1 → zWP X mX10_count 10 (zIs (.inl (some (zI (pCount v (K.1 1) w)))) (cX S ++ (cM (kI K 0 0) ++ t))) 9 [some (zR 29), some (zI w), some (zI (zSum (fun d => if vTot v.2.1 d = 0 then 1 else 0) i)), some (zI i)] [] (cX S ++ (cM (kI K 0 0) ++ t)) 0 0 := by
    intro k
    induction k with
    | zero =>
      intro i i0 hk9
      refine zWP_run gX10_count 80 [9] ?_
      refine zCl_e (kdi (K := kI K 0 0) hk) (by decide) ?_
      refine zBrT (by simp only [rI]; omega) (by omega) ?_
      rw [show i = v.1 1 by omega]
      unfold pCount
      refine mVc_i hw ⟨fun q => ?_, fun q => ?_, fun q => ?_, fun q => ?_, fun q => ?_, fun q => ?_, fun q => ?_, fun q => ?_, fun q => ?_, trivial⟩
      · have q2 : w < 0 ∨ 7 < w := q
        rw [if_neg (by omega), if_neg (by omega), if_neg (by omega), if_neg (by omega), if_neg (by omega), if_neg (by omega), if_neg (by omega), if_neg (by omega)]
        exact ⟨rfl, rfl⟩
      · have q2 : w = 0 := q
        rw [if_pos (by omega)]
        refine mVc_i (by omega) ?_
        rw [← hk.2.1.1]
        exact ⟨rfl, rfl⟩
      · have q2 : w = 0 + 1 := q
        rw [if_neg (by omega), if_pos (by omega)]
        refine zCl_e (kdi (K := kI K 0 0) hk) (by decide) ?_
        exact ⟨rfl, rfl⟩
      · have q2 : w = 0 + 1 + 1 := q
        rw [if_neg (by omega), if_neg (by omega), if_pos (by omega)]
        refine zCl_e (kha (K := kI K 0 0) hk) (by decide) ?_
        exact ⟨rfl, rfl⟩
      · have q2 : w = 0 + 1 + 1 + 1 := q
        rw [if_neg (by omega), if_neg (by omega), if_neg (by omega), if_pos (by omega)]
        refine mVc_i (by omega) ?_
        rw [← hk.2.1.2.2.2.1]
        exact ⟨rfl, rfl⟩
      · have q2 : w = 0 + 1 + 1 + 1 + 1 := q
        rw [if_neg (by omega), if_neg (by omega), if_neg (by omega), if_neg (by omega), if_pos (by omega)]
        refine zCl_e (kth (K := kI K 0 0) hk) (by decide) ?_
        exact ⟨rfl, rfl⟩
      · have q2 : w = 0 + 1 + 1 + 1 + 1 + 1 := q
        rw [if_neg (by omega), if_neg (by omega), if_neg (by omega), if_neg (by omega), if_neg (by omega), if_pos (by omega)]
        exact ⟨rfl, rfl⟩
      · have q2 : w = 0 + 1 + 1 + 1 + 1 + 1 + 1 := q
        rw [if_neg (by omega), if_neg (by omega), if_neg (by omega), if_neg (by omega), if_neg (by omega), if_neg (by omega), if_pos (by omega)]
        refine zCl_e (ktl (K := kI K 0 0) hk) (by decide) ?_
        exact ⟨rfl, rfl⟩
      · have q2 : w = 0 + 1 + 1 + 1 + 1 + 1 + 1 + 1 := q
        rw [if_neg (by omega), if_neg (by omega), if_neg (by omega), if_neg (by omega), if_neg (by omega), if_neg (by omega), if_neg (by omega), if_pos (by omega)]
        exact ⟨rfl, rfl⟩
    | succ k ih =>
      intro i i0 hk9
      refine zWP_run gX10_count 80 [9] ?_
      refine zCl_e (kdi (K := kI K 0 0) hk) (by decide) ?_
      refine zBrF (by simp only [rI]; omega) (by omega) ?_
      refine zCl_e (kgo (K := kI K 0 0) hk (d := i) (by omega)) (by decide) ?_
      have k1 := ih (i + 1) (by omega) (by omega)
      rw [zSum_s i0] at k1
      refine zBb (P := vTot v.2.1 i = 0) (fun c => ?_) (fun c => ?_)
      · rw [if_neg c] at k1
        exact k1
      · rw [if_pos c] at k1
        exact k1
  refine zEv_run gX10_count 80 [9] rfl ?_
  exact lp (v.1 1).toNat 0 (by omega) (by omega)
set_option maxHeartbeats 1000000 in
set_option maxRecDepth 100000 in
theorem kImF {i : Int} (hi : rI i) (c : ¬ (0 ≤ i ∧ i < 3)) : zEv X 10 mX10_image [zR 29, zI i] (cX S ++ (cM (K) ++ t)) (zIs (.inl none) (cX S ++ (cM (kI K 0 1) ++ t))) := by
  have h1 := hi.1
  have h2 := hi.2
  refine zEv_run gX10_image 80 [] rfl ?_
  refine mVc_i hi ?_
  refine zCl_e (kwi_f (x := i) (a := 0) (b := 2) (by simp only [rL]; omega) (by simp only [rL]; omega) (by simp only [rL]; omega) (by omega)) (by decide) ?_
  refine zBrT rI_0 rfl ?_
  refine zBrF rI_1 (by show ¬ (1 : Int) ≤ 0; omega) ?_
  exact ⟨rfl, rfl⟩
set_option maxHeartbeats 1000000 in
set_option maxRecDepth 100000 in
theorem kImT {i : Int} (c : 0 ≤ i ∧ i < 3) : zEv X 10 mX10_image [zR 29, zI i] (cX S ++ (cM (K) ++ t)) (fun o9 h9 => o9 = .inl none ∧ ∃ f : Nat → Int, h9 = cX S ++ (cM (kA (kA (kI K 0 0) 4 (va_up (K.2 4) i.toNat 1)) 3 f) ++ t) ∧ ∀ j : Nat, f j = if 3108 * i.toNat ≤ j ∧ j < 3108 * i.toNat + 3108 then K.2 0 (j - 3108 * i.toNat) else K.2 3 j) := by
  have lp : ∀ (k : Nat) (z : Int) (f : Nat → Int), 0 ≤ z → z + k = 3108 → (∀ j : Nat, f j = if 3108 * i.toNat ≤ j ∧ j < 3108 * i.toNat + z.toNat then K.2 0 (j - 3108 * i.toNat) else K.2 3 j) → zWP X mX10_image 10 (fun o9 h9 => o9 = .inl none ∧ ∃ f : Nat → Int, h9 = cX S ++ (cM (kA (kA (kI K 0 0) 4 (va_up (K.2 4) i.toNat 1)) 3 f) ++ t) ∧ ∀ j : Nat, f j = if 3108 * i.toNat ≤ j ∧ j < 3108 * i.toNat + 3108 then K.2 0 (j - 3108 * i.toNat) else K.2 3 j) 38 [some (zR 29), some (zI i), some (zI z)] [] (cX S ++ (cM (kA (kA (kI K 0 0) 4 (va_up (K.2 4) i.toNat 1)) 3 f) ++ t)) 0 0 := by
    intro k
    induction k with
    | zero =>
      intro z f z0 hk hf
      refine zWP_run gX10_image 80 [38] ?_
      refine zBrT (by simp only [rI]; omega) (by omega) ?_
      refine ⟨rfl, f, rfl, fun j => ?_⟩
      rw [hf j, show z.toNat = 3108 by omega]
    | succ k ih =>
      intro z f z0 hk hf
      refine zWP_run gX10_image 80 [38] ?_
      refine zBrF (by simp only [rI]; omega) (by omega) ?_
      refine mVc_i (by omega) ?_
      refine mVc_i (by omega) ?_
      exact ih (z + 1) (va_up f (3108 * i + z).toNat (K.2 0 z.toNat)) (by omega) (by omega) (fun j => by
        by_cases e : j = (3108 * i + z).toNat
        · rw [e, va_up_s, if_pos (by omega), show (3108 * i + z).toNat - 3108 * i.toNat = z.toNat by omega]
        · rw [va_up_o _ _ e, hf j]
          by_cases e2 : 3108 * i.toNat ≤ j ∧ j < 3108 * i.toNat + z.toNat
          · rw [if_pos e2, if_pos (by omega)]
          · rw [if_neg e2, if_neg (by omega)])
  have k9 := lp 3108 0 (K.2 3) (by omega) (by omega) (fun j => by rw [if_neg (by omega)])
  have e9 : kA (kA (kI K 0 0) 4 (va_up (K.2 4) i.toNat 1)) 3 (K.2 3) = kA (kI K 0 0) 4 (va_up (K.2 4) i.toNat 1) := by
    show ((kI K 0 0).1, va_up (va_up K.2 4 (va_up (K.2 4) i.toNat 1)) 3 (K.2 3)) = ((kI K 0 0).1, va_up K.2 4 (va_up (K.2 4) i.toNat 1))
    have := va_up_i (va_up K.2 4 (va_up (K.2 4) i.toNat 1)) 3
    rw [show va_up K.2 4 (va_up (K.2 4) i.toNat 1) 3 = K.2 3 from rfl] at this
    rw [this]
  rw [e9] at k9
  refine zEv_run gX10_image 80 [38] rfl ?_
  refine mVc_i (by simp only [rI]; omega) ?_
  refine zCl_e (kwi_t (x := i) (a := 0) (b := 2) (by simp only [rL]; omega) (by simp only [rL]; omega) (by simp only [rL]; omega) (by omega)) (by decide) ?_
  refine zBrF rI_1 (by omega) ?_
  refine zBrT rI_0 (by show (0 : Int) ≤ 0; omega) ?_
  refine mVc_i ⟨by omega, by omega, Or.inr rfl⟩ ?_
  exact k9
set_option maxHeartbeats 1000000 in
set_option maxRecDepth 100000 in
theorem kRsF {i : Int} (hi : rI i) (c : ¬ (0 ≤ i ∧ i < 3)) : zEv X 10 mX10_restore [zR 29, zI i] (cX S ++ (cM (K) ++ t)) (zIs (.inl none) (cX S ++ (cM (kI K 0 1) ++ t))) := by
  have h1 := hi.1
  have h2 := hi.2
  refine zEv_run gX10_restore 80 [] rfl ?_
  refine mVc_i hi ?_
  refine zCl_e (kwi_f (x := i) (a := 0) (b := 2) (by simp only [rL]; omega) (by simp only [rL]; omega) (by simp only [rL]; omega) (by omega)) (by decide) ?_
  refine zBrT rI_0 rfl ?_
  refine zBrF rI_1 (by show ¬ (1 : Int) ≤ 0; omega) ?_
  exact ⟨rfl, rfl⟩
set_option maxHeartbeats 1000000 in
set_option maxRecDepth 100000 in
theorem kRsN {i : Int} (c : 0 ≤ i ∧ i < 3) (h4 : K.2 4 i.toNat = 0) : zEv X 10 mX10_restore [zR 29, zI i] (cX S ++ (cM (K) ++ t)) (zIs (.inl none) (cX S ++ (cM (kI K 0 2) ++ t))) := by
  refine zEv_run gX10_restore 80 [] rfl ?_
  refine mVc_i (by simp only [rI]; omega) ?_
  refine zCl_e (kwi_t (x := i) (a := 0) (b := 2) (by simp only [rL]; omega) (by simp only [rL]; omega) (by simp only [rL]; omega) (by omega)) (by decide) ?_
  refine zBrF rI_1 (by omega) ?_
  refine mVc_i (by omega) ?_
  refine zBrT (by rw [h4]; exact rI_0) h4 ?_
  refine zBrF (by show rI 2; simp only [rI]; omega) (by show ¬ (2 : Int) ≤ 0; omega) ?_
  exact ⟨rfl, rfl⟩
set_option maxHeartbeats 1000000 in
set_option maxRecDepth 100000 in
theorem kRsT {i : Int} (c : 0 ≤ i ∧ i < 3) (h4 : K.2 4 i.toNat = 1) : zEv X 10 mX10_restore [zR 29, zI i] (cX S ++ (cM (K) ++ t)) (fun o9 h9 => o9 = .inl none ∧ ∃ f : Nat → Int, h9 = cX S ++ (cM (kA (kI K 0 0) 0 f) ++ t) ∧ ∀ j : Nat, j < 3108 → f j = K.2 3 (3108 * i.toNat + j)) := by
  have lp : ∀ (k : Nat) (z : Int) (f : Nat → Int), 0 ≤ z → z + k = 3108 → (∀ j : Nat, j < z.toNat → f j = K.2 3 (3108 * i.toNat + j)) → zWP X mX10_restore 10 (fun o9 h9 => o9 = .inl none ∧ ∃ f : Nat → Int, h9 = cX S ++ (cM (kA (kI K 0 0) 0 f) ++ t) ∧ ∀ j : Nat, j < 3108 → f j = K.2 3 (3108 * i.toNat + j)) 44 [some (zR 29), some (zI i), some (zI z)] [] (cX S ++ (cM (kA (kI K 0 0) 0 f) ++ t)) 0 0 := by
    intro k
    induction k with
    | zero =>
      intro z f z0 hk hf
      refine zWP_run gX10_restore 80 [44] ?_
      refine zBrT (by simp only [rI]; omega) (by omega) ?_
      exact ⟨rfl, f, rfl, fun j hj => hf j (by omega)⟩
    | succ k ih =>
      intro z f z0 hk hf
      refine zWP_run gX10_restore 80 [44] ?_
      refine zBrF (by simp only [rI]; omega) (by omega) ?_
      refine mVc_i (by omega) ?_
      refine mVc_i (by omega) ?_
      exact ih (z + 1) (va_up f z.toNat (K.2 3 (3108 * i + z).toNat)) (by omega) (by omega) (fun j hj => by
        by_cases e : j = z.toNat
        · rw [e, va_up_s, show (3108 * i + z).toNat = 3108 * i.toNat + z.toNat by omega]
        · rw [va_up_o _ _ e]
          exact hf j (by omega))
  have k9 := lp 3108 0 (K.2 0) (by omega) (by omega) (fun j hj => absurd hj (Nat.not_lt_zero j))
  have e9 : kA (kI K 0 0) 0 (K.2 0) = kI K 0 0 := by
    show ((kI K 0 0).1, va_up K.2 0 (K.2 0)) = ((kI K 0 0).1, K.2)
    rw [va_up_i]
  rw [e9] at k9
  refine zEv_run gX10_restore 80 [44] rfl ?_
  refine mVc_i (by simp only [rI]; omega) ?_
  refine zCl_e (kwi_t (x := i) (a := 0) (b := 2) (by simp only [rL]; omega) (by simp only [rL]; omega) (by simp only [rL]; omega) (by omega)) (by decide) ?_
  refine zBrF rI_1 (by omega) ?_
  refine mVc_i (by omega) ?_
  refine zBrF (by rw [h4]; exact rI_1) (by rw [h4]; omega) ?_
  refine zBrT rI_0 (by show (0 : Int) ≤ 0; omega) ?_
  exact k9
end Kp
