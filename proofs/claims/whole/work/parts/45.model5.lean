/-! the reference: odds of sums -/
theorem vWh_0 {v : vV} {c i : Int} (h0 : 0 ≤ i) (h : vWh v c i = 0) : ∀ k : Nat, vWh v c (i + k) = 0 := by
  intro k
  induction k with
  | zero => simp only [Int.natCast_zero, Int.add_zero]; exact h
  | succ k ih =>
    rw [show i + ((k + 1 : Nat) : Int) = i + k + 1 by omega, vWh_s v c (by omega), ih]
    split
    · exact Int.zero_mul _
    · rfl
theorem vWh_g {v : vV} {c d n : Int} (h0 : 0 ≤ d) (h1 : d < n) (hb : bit c d = 1) (ht : vTot v.2.1 d = 0) : vWh v c n = 0 := by
  have e : vWh v c (d + 1) = 0 := by rw [vWh_s v c h0, if_pos hb, ht, Int.mul_zero]
  have := vWh_0 (by omega) e (n - (d + 1)).toNat
  rw [show d + 1 + ((n - (d + 1)).toNat : Int) = n by omega] at this
  exact this
theorem vWh_n {v : vV} {c i : Int} (h0 : 0 ≤ i) (h : ¬ vWh v c i = 0) (hn : bit c i = 1 → ¬ vTot v.2.1 i = 0) : ¬ vWh v c (i + 1) = 0 := by
  rw [vWh_s v c h0]
  split
  · rename_i q
    intro e
    rcases Int.mul_eq_zero.mp e with e | e
    · exact h e
    · exact hn q e
  · exact h
theorem aS_c (w r : Int → Int) (s : Int) : aS w r s = zSum (fun i => r (s - (i + 1)) * w (i + 1)) (min 6 s) := by
  unfold aS
  exact zSum_cg fun i _ _ => Int.mul_comm _ _
theorem or_0 {b : Int} (h : rI b) : (Int32.ofInt b ||| Int32.ofInt 0).toInt = b := by
  have e : Int32.ofInt b ||| Int32.ofInt 0 = Int32.ofInt b := by
    show Int32.ofInt b ||| 0 = _
    exact Int32.or_zero
  rw [e, rI_to h]
theorem vPo_b (r : Int → Int) {i : Int} (h0 : 0 ≤ i) : rI (vPo r i) :=
  zIt_i _ _ (fun _ x => rI x) rI_0 (fun s x _ hx => by
    split
    · exact rI_toInt _
    · exact hx) h0
section Mdl6
variable {X : mX} {S : sS} {K : kK} {t : zH} {v : vV}
set_option maxHeartbeats 1000000 in
set_option maxRecDepth 100000 in
theorem khs {c d : Int} (hc : 0 ≤ c ∧ c < 64) (hd : 0 ≤ d ∧ d < 6) {h : zH} : zEv X 1 mX10_has [zI c, zI d] (h) (zIs (.inl (some (zI (bit c d)))) h) := by
  have e := bt_in hc.1 hc.2 hd.1 hd.2
  have hb := bit_01 c d
  refine zEv_run gX10_has 40 [] rfl ?_
  refine zBr ⟨?_, by simp only [rI]; omega⟩ (fun q => ?_) (fun q => ?_)
  · show rI ((Int32.ofInt ((Int32.ofInt c >>> (Int32.ofInt d &&& 31)).toInt) &&& Int32.ofInt 1).toInt)
    rw [e]
    simp only [rI]
    omega
  · have q2 : (Int32.ofInt ((Int32.ofInt c >>> (Int32.ofInt d &&& 31)).toInt) &&& Int32.ofInt 1).toInt = 1 := q
    rw [e] at q2
    rw [q2]
    exact mVc_i (Or.inr rfl) ⟨rfl, rfl⟩
  · have q2 : ¬ (Int32.ofInt ((Int32.ofInt c >>> (Int32.ofInt d &&& 31)).toInt) &&& Int32.ofInt 1).toInt = 1 := q
    rw [e] at q2
    rw [show bit c d = 0 by omega]
    exact mVc_i (Or.inl rfl) ⟨rfl, rfl⟩
set_option maxHeartbeats 1000000 in
set_option maxRecDepth 100000 in
theorem ksf_1 (hk : kVn (K.2 0) v (v.1 4)) {x : Int} (hx : rI x) (c : ¬ (0 ≤ x ∧ x < 2 ^ (v.1 1).toNat)) : zEv X 4 mX10_setFault [zR 29, zI x] (cX S ++ (cM K ++ t)) (zIs (.inl (some (zI (1)))) (cX S ++ (cM K ++ t))) := by
  have b1 := hk.1.2.1
  have b2 := hk.1.2.2.1
  have b4 := hk.1.2.2.2.2.1
  have p2 : (2 : Int) ^ (v.1 1).toNat ≤ 32 ∧ 1 ≤ (2 : Int) ^ (v.1 1).toNat := by
    have h : v.1 1 = 0 ∨ v.1 1 = 1 ∨ v.1 1 = 2 ∨ v.1 1 = 3 ∨ v.1 1 = 4 ∨ v.1 1 = 5 := by omega
    rcases h with h | h | h | h | h | h <;> rw [h] <;> decide
  have e0 := bt_shl (k := v.1 1) b1.1 (by omega)
  have hx1 := hx.1
  have hx2 := hx.2
  refine zEv_run gX10_setFault 60 [22] rfl ?_
  refine mVc_i (by simp only [rI]; omega) ?_
  refine zCl_e (kdi hk) (by decide) ?_
  refine mVc_i (by show rI ((Int32.ofInt 1 <<< (Int32.ofInt (v.1 1) &&& 31)).toInt - 1); rw [e0]; simp only [rI]; omega) ?_
  refine zCl_e (kwi_f (x := x) (a := 0) (b := (Int32.ofInt 1 <<< (Int32.ofInt (v.1 1) &&& 31)).toInt - 1) (by simp only [rL]; omega) (by simp only [rL]; omega) (by rw [e0]; simp only [rL]; omega) (by rw [e0]; omega)) (by decide) ?_
  refine zBrT (by first | (simp only [rI]; omega) | (simp only [rL]; omega)) (by omega) ?_
  exact ⟨rfl, rfl⟩
set_option maxHeartbeats 1000000 in
set_option maxRecDepth 100000 in
theorem ksf_t (hk : kVn (K.2 0) v (v.1 4)) {x : Int} (hx : rI x) (c : 0 ≤ x ∧ x < 2 ^ (v.1 1).toNat) (c2 : ¬ vWh v x (v.1 1) = 0) : zEv X 4 mX10_setFault [zR 29, zI x] (cX S ++ (cM K ++ t)) (zIs (.inl (some (zI (0)))) (cX S ++ (cM K ++ t))) := by
  have b1 := hk.1.2.1
  have b2 := hk.1.2.2.1
  have b4 := hk.1.2.2.2.2.1
  have p2 : (2 : Int) ^ (v.1 1).toNat ≤ 32 ∧ 1 ≤ (2 : Int) ^ (v.1 1).toNat := by
    have h : v.1 1 = 0 ∨ v.1 1 = 1 ∨ v.1 1 = 2 ∨ v.1 1 = 3 ∨ v.1 1 = 4 ∨ v.1 1 = 5 := by omega
    rcases h with h | h | h | h | h | h <;> rw [h] <;> decide
  have e0 := bt_shl (k := v.1 1) b1.1 (by omega)
  have hx1 := hx.1
  have hx2 := hx.2
  have lp : ∀ (k : Nat) (i : Int), 0 ≤ i → ¬ vWh v x i = 0 → i + k = v.1 1 → zWP X mX10_setFault 4 (zIs (.inl (some (zI (0)))) (cX S ++ (cM K ++ t))) 22 [some (zR 29), some (zI x), some (zI i)] [] (cX S ++ (cM K ++ t)) 0 0 := by
    intro k
    induction k with
    | zero =>
      intro i i0 hw hk0
      refine zWP_run gX10_setFault 60 [22] ?_
      refine zCl_e (kdi hk) (by decide) ?_
      refine zBrT (by first | (simp only [rI]; omega) | (simp only [rL]; omega)) (by omega) ?_
      exact ⟨rfl, rfl⟩
    | succ k ih =>
      intro i i0 hw hk0
      have hb := bit_01 x i
      refine zWP_run gX10_setFault 60 [22] ?_
      refine zCl_e (kdi hk) (by decide) ?_
      refine zBrF (by first | (simp only [rI]; omega) | (simp only [rL]; omega)) (by omega) ?_
      refine zCl_e (khs (by omega) (by omega)) (by decide) ?_
      refine zBr (by first | (simp only [rI]; omega) | (simp only [rL]; omega)) (fun q => ?_) (fun q => ?_)
      · exact ih (i + 1) (by omega) (vWh_n i0 hw (fun z => by omega)) (by omega)
      · refine zCl_e (kgo hk ⟨i0, by omega⟩) (by decide) ?_
        refine zBb (P := vTot v.2.1 i = 0) (fun e => ?_) (fun e => ?_)
        · exact ih (i + 1) (by omega) (vWh_n i0 hw (fun _ => e)) (by omega)
        · exact absurd (vWh_g i0 (by omega) (by omega) e) c2
  refine zEv_run gX10_setFault 60 [22] rfl ?_
  refine mVc_i (by simp only [rI]; omega) ?_
  refine zCl_e (kdi hk) (by decide) ?_
  refine mVc_i (by show rI ((Int32.ofInt 1 <<< (Int32.ofInt (v.1 1) &&& 31)).toInt - 1); rw [e0]; simp only [rI]; omega) ?_
  refine zCl_e (kwi_t (x := x) (a := 0) (b := (Int32.ofInt 1 <<< (Int32.ofInt (v.1 1) &&& 31)).toInt - 1) (by simp only [rL]; omega) (by simp only [rL]; omega) (by rw [e0]; simp only [rL]; omega) (by rw [e0]; omega)) (by decide) ?_
  refine zBrF (by first | (simp only [rI]; omega) | (simp only [rL]; omega)) (by omega) ?_
  exact lp (v.1 1).toNat 0 (by omega) (by show ¬ (1 : Int) = 0; omega) (by omega)
set_option maxHeartbeats 1000000 in
set_option maxRecDepth 100000 in
theorem ksf_2 (hk : kVn (K.2 0) v (v.1 4)) {x : Int} (hx : rI x) (c : 0 ≤ x ∧ x < 2 ^ (v.1 1).toNat) (c2 : vWh v x (v.1 1) = 0) : zEv X 4 mX10_setFault [zR 29, zI x] (cX S ++ (cM K ++ t)) (zIs (.inl (some (zI (2)))) (cX S ++ (cM K ++ t))) := by
  have b1 := hk.1.2.1
  have b2 := hk.1.2.2.1
  have b4 := hk.1.2.2.2.2.1
  have p2 : (2 : Int) ^ (v.1 1).toNat ≤ 32 ∧ 1 ≤ (2 : Int) ^ (v.1 1).toNat := by
    have h : v.1 1 = 0 ∨ v.1 1 = 1 ∨ v.1 1 = 2 ∨ v.1 1 = 3 ∨ v.1 1 = 4 ∨ v.1 1 = 5 := by omega
    rcases h with h | h | h | h | h | h <;> rw [h] <;> decide
  have e0 := bt_shl (k := v.1 1) b1.1 (by omega)
  have hx1 := hx.1
  have hx2 := hx.2
  have lp : ∀ (k : Nat) (i : Int), 0 ≤ i → ¬ vWh v x i = 0 → i + k = v.1 1 → zWP X mX10_setFault 4 (zIs (.inl (some (zI (2)))) (cX S ++ (cM K ++ t))) 22 [some (zR 29), some (zI x), some (zI i)] [] (cX S ++ (cM K ++ t)) 0 0 := by
    intro k
    induction k with
    | zero =>
      intro i i0 hw hk0
      refine zWP_run gX10_setFault 60 [22] ?_
      rw [show i = v.1 1 by omega] at hw
      exact absurd c2 hw
    | succ k ih =>
      intro i i0 hw hk0
      have hb := bit_01 x i
      refine zWP_run gX10_setFault 60 [22] ?_
      refine zCl_e (kdi hk) (by decide) ?_
      refine zBrF (by first | (simp only [rI]; omega) | (simp only [rL]; omega)) (by omega) ?_
      refine zCl_e (khs (by omega) (by omega)) (by decide) ?_
      refine zBr (by first | (simp only [rI]; omega) | (simp only [rL]; omega)) (fun q => ?_) (fun q => ?_)
      · exact ih (i + 1) (by omega) (vWh_n i0 hw (fun z => by omega)) (by omega)
      · refine zCl_e (kgo hk ⟨i0, by omega⟩) (by decide) ?_
        refine zBb (P := vTot v.2.1 i = 0) (fun e => ?_) (fun e => ?_)
        · exact ih (i + 1) (by omega) (vWh_n i0 hw (fun _ => e)) (by omega)
        · exact ⟨rfl, rfl⟩
  refine zEv_run gX10_setFault 60 [22] rfl ?_
  refine mVc_i (by simp only [rI]; omega) ?_
  refine zCl_e (kdi hk) (by decide) ?_
  refine mVc_i (by show rI ((Int32.ofInt 1 <<< (Int32.ofInt (v.1 1) &&& 31)).toInt - 1); rw [e0]; simp only [rI]; omega) ?_
  refine zCl_e (kwi_t (x := x) (a := 0) (b := (Int32.ofInt 1 <<< (Int32.ofInt (v.1 1) &&& 31)).toInt - 1) (by simp only [rL]; omega) (by simp only [rL]; omega) (by rw [e0]; simp only [rL]; omega) (by rw [e0]; omega)) (by decide) ?_
  refine zBrF (by first | (simp only [rI]; omega) | (simp only [rL]; omega)) (by omega) ?_
  exact lp (v.1 1).toNat 0 (by omega) (by show ¬ (1 : Int) = 0; omega) (by omega)
set_option maxHeartbeats 1000000 in
set_option maxRecDepth 100000 in
theorem kall (hk : kVn (K.2 0) v (v.1 4)) {c : Int} (hc : 0 ≤ c ∧ c < 32) : zEv X 3 mX10_all [zR 29, zI c] (cX S ++ (cM K ++ t)) (zIs (.inl (some (zJ (vWh v c (v.1 1))))) (cX S ++ (cM K ++ t))) := by
  have b1 := hk.1.2.1
  have b2 := hk.1.2.2.1
  have b4 := hk.1.2.2.2.2.1
  have lp : ∀ (k : Nat) (i : Int), 0 ≤ i → i + k = v.1 1 → zWP X mX10_all 3 (zIs (.inl (some (zJ (vWh v c (v.1 1))))) (cX S ++ (cM K ++ t))) 5 [some (zR 29), some (zI c), some (zJ (vWh v c i)), none, some (zI i)] [] (cX S ++ (cM K ++ t)) 0 0 := by
    intro k
    induction k with
    | zero =>
      intro i i0 hk0
      refine zWP_run gX10_all 60 [5] ?_
      refine zCl_e (kdi hk) (by decide) ?_
      refine zBrT (by first | (simp only [rI]; omega) | (simp only [rL]; omega)) (by omega) ?_
      rw [show i = v.1 1 by omega]
      exact ⟨rfl, rfl⟩
    | succ k ih =>
      intro i i0 hk0
      have hb := bit_01 c i
      have ht := vTot_b hk.1.2.2.2.2.2.1 i
      have k3 := ih (i + 1) (by omega) (by omega)
      rw [vWh_s v c i0] at k3
      refine zWP_run gX10_all 60 [5] ?_
      refine zCl_e (kdi hk) (by decide) ?_
      refine zBrF (by first | (simp only [rI]; omega) | (simp only [rL]; omega)) (by omega) ?_
      refine zCl_e (khs (by omega) (by omega)) (by decide) ?_
      refine zBr (by first | (simp only [rI]; omega) | (simp only [rL]; omega)) (fun q => ?_) (fun q => ?_)
      · rw [if_neg (by omega), ← Int.mul_one (vWh v c i)] at k3
        exact k3
      · rw [if_pos (by omega)] at k3
        refine zCl_e (kto hk ⟨i0, by omega⟩) (by decide) ?_
        refine mVc_i (by simp only [rI]; omega) ?_
        exact k3
  refine zEv_run gX10_all 60 [5] rfl ?_
  exact lp (v.1 1).toNat 0 (by omega) (by omega)
set_option maxHeartbeats 1000000 in
set_option maxRecDepth 100000 in
theorem klw (hk : kVn (K.2 0) v (v.1 4)) {c : Int} (hc : 0 ≤ c ∧ c < 32) : zEv X 2 mX10_laysWays [zR 29, zI c] (cX S ++ (cM K ++ t)) (fun o9 h9 => o9 = .inl none ∧ ∃ f : Nat → Int, (∀ s : Int, 0 ≤ s → s < 31 → f s.toNat = vSm v c (v.1 1) s) ∧ h9 = cX S ++ (cM (kA K 7 f) ++ t)) := by
  have b1 := hk.1.2.1
  have b2 := hk.1.2.2.1
  have b4 := hk.1.2.2.2.2.1
  have l1 : ∀ (d : Int) (r : Int → Int), 0 ≤ d ∧ d < v.1 1 → (∀ f2 : Nat → Int, (∀ j : Int, 0 ≤ j → j < 31 → f2 j.toNat = aS (v.2.1.1 d) r j) → zWP X mX10_laysWays 2 (fun o9 h9 => o9 = .inl none ∧ ∃ f : Nat → Int, (∀ s : Int, 0 ≤ s → s < 31 → f s.toNat = vSm v c (v.1 1) s) ∧ h9 = cX S ++ (cM (kA K 7 f) ++ t)) 31 [some (zR 29), some (zI c), some (zI (d + 1)), none, none, none, none] [] (cX S ++ (cM (kA K 7 f2) ++ t)) 0 0) → ∀ (k : Nat) (s : Int) (f : Nat → Int), s + 1 = k → s < 31 → (∀ j : Int, s < j → j < 31 → f j.toNat = aS (v.2.1.1 d) r j) → (∀ j : Int, 0 ≤ j → j ≤ s → f j.toNat = r j) → zWP X mX10_laysWays 2 (fun o9 h9 => o9 = .inl none ∧ ∃ f : Nat → Int, (∀ s : Int, 0 ≤ s → s < 31 → f s.toNat = vSm v c (v.1 1) s) ∧ h9 = cX S ++ (cM (kA K 7 f) ++ t)) 53 [some (zR 29), some (zI c), some (zI d), some (zI s), none, none, none] [] (cX S ++ (cM (kA K 7 f) ++ t)) 0 0 := by
    intro d r hd kk k
    induction k with
    | zero =>
      intro s f hk0 s1 hf hr2
      refine zWP_run gX10_laysWays 80 [31, 53] ?_
      refine zBrT (by first | (simp only [rI]; omega) | (simp only [rL]; omega)) (by omega) ?_
      exact zWP_fg (kk f (fun j j0 j1 => hf j (by omega) j1)) (by repeat (first | exact trivial | refine ⟨rfl, ?_⟩))
    | succ k ih =>
      intro s f hk0 s1 hf hr2
      have l2 : ∀ (k : Nat) (i : Int), 0 ≤ i → i + k = min 6 s → zWP X mX10_laysWays 2 (fun o9 h9 => o9 = .inl none ∧ ∃ f : Nat → Int, (∀ s : Int, 0 ≤ s → s < 31 → f s.toNat = vSm v c (v.1 1) s) ∧ h9 = cX S ++ (cM (kA K 7 f) ++ t)) 63 [some (zR 29), some (zI c), some (zI d), some (zI s), some (zJ (zSum (fun i => r (s - (i + 1)) * v.2.1.1 d (i + 1)) i)), none, some (zI (i + 1))] [] (cX S ++ (cM (kA K 7 f) ++ t)) 0 0 := by
        intro k2
        induction k2 with
        | zero =>
          intro i i0 hk2
          have k3 := ih (s - 1) (va_up f s.toNat (aS (v.2.1.1 d) r s)) (by omega) (by omega) (fun j j0 j1 => by
            by_cases e : j = s
            · rw [e, va_up_s]
            · rw [va_up_o _ _ (by omega)]; exact hf j (by omega) j1) (fun j j0 j1 => by
              rw [va_up_o _ _ (by omega)]; exact hr2 j j0 (by omega))
          rw [aS_c, ← show i = min 6 s by omega] at k3
          refine zWP_run gX10_laysWays 80 [53, 63] ?_
          by_cases q : 6 ≤ i
          · refine zBrT (by first | (simp only [rI]; omega) | (simp only [rL]; omega)) (by omega) ?_
            refine mVc_i (by omega) ?_
            exact zWP_fg k3 (by repeat (first | exact trivial | refine ⟨rfl, ?_⟩))
          · refine zBrF (by first | (simp only [rI]; omega) | (simp only [rL]; omega)) (by omega) ?_
            refine zBrT (by first | (simp only [rI]; omega) | (simp only [rL]; omega)) (by omega) ?_
            refine mVc_i (by omega) ?_
            exact zWP_fg k3 (by repeat (first | exact trivial | refine ⟨rfl, ?_⟩))
        | succ k2 ih2 =>
          intro i i0 hk2
          have hw := hk.1.2.2.2.2.2.1.1 d (i + 1)
          refine zWP_run gX10_laysWays 80 [53, 63] ?_
          refine zBrF (by first | (simp only [rI]; omega) | (simp only [rL]; omega)) (by omega) ?_
          refine zBrF (by first | (simp only [rI]; omega) | (simp only [rL]; omega)) (by omega) ?_
          refine mVc_i (by omega) ?_
          refine zCl_e (kw (K := kA K 7 f) hk hd (by omega)) (by decide) ?_
          refine mVc_i (by simp only [rI]; omega) ?_
          have k3 := ih2 (i + 1) (by omega) (by omega)
          rw [zSum_s i0, ← hr2 (s - (i + 1)) (by omega) (by omega)] at k3
          exact k3
      refine zWP_run gX10_laysWays 80 [53, 63] ?_
      refine zBrF (by first | (simp only [rI]; omega) | (simp only [rL]; omega)) (by omega) ?_
      exact l2 (min 6 s).toNat 0 (by omega) (by omega)
  have l0 : ∀ (k : Nat) (d : Int) (f : Nat → Int), 0 ≤ d → d + k = v.1 1 → (∀ s : Int, 0 ≤ s → s < 31 → f s.toNat = vSm v c d s) → zWP X mX10_laysWays 2 (fun o9 h9 => o9 = .inl none ∧ ∃ f : Nat → Int, (∀ s : Int, 0 ≤ s → s < 31 → f s.toNat = vSm v c (v.1 1) s) ∧ h9 = cX S ++ (cM (kA K 7 f) ++ t)) 31 [some (zR 29), some (zI c), some (zI d), none, none, none, none] [] (cX S ++ (cM (kA K 7 f) ++ t)) 0 0 := by
    intro k
    induction k with
    | zero =>
      intro d f d0 hk0 hf
      refine zWP_run gX10_laysWays 80 [31, 53] ?_
      refine zCl_e (kdi (K := kA K 7 f) hk) (by decide) ?_
      refine zBrT (by first | (simp only [rI]; omega) | (simp only [rL]; omega)) (by omega) ?_
      exact ⟨rfl, f, by rw [← show d = v.1 1 by omega]; exact hf, rfl⟩
    | succ k ih =>
      intro d f d0 hk0 hf
      have hb := bit_01 c d
      refine zWP_run gX10_laysWays 80 [31, 53] ?_
      refine zCl_e (kdi (K := kA K 7 f) hk) (by decide) ?_
      refine zBrF (by first | (simp only [rI]; omega) | (simp only [rL]; omega)) (by omega) ?_
      refine zCl_e (khs (by omega) (by omega)) (by decide) ?_
      refine zBr (by first | (simp only [rI]; omega) | (simp only [rL]; omega)) (fun q => ?_) (fun q => ?_)
      · exact ih (d + 1) f (by omega) (by omega) (by rw [vSm_s v c d0, if_neg (by omega)]; exact hf)
      · exact l1 d (vSm v c d) ⟨d0, by omega⟩ (fun f2 hf2 => ih (d + 1) f2 (by omega) (by omega) (by rw [vSm_s v c d0, if_pos (by omega)]; exact hf2)) 31 30 f (by omega) (by omega) (fun j j0 j1 => by omega) (fun j j0 j1 => hf j j0 (by omega))
  have li : ∀ (k : Nat) (i : Int) (f : Nat → Int), 0 ≤ i → i + k = 31 → (∀ s : Int, 0 ≤ s → s < i → f s.toNat = r0 s) → zWP X mX10_laysWays 2 (fun o9 h9 => o9 = .inl none ∧ ∃ f : Nat → Int, (∀ s : Int, 0 ≤ s → s < 31 → f s.toNat = vSm v c (v.1 1) s) ∧ h9 = cX S ++ (cM (kA K 7 f) ++ t)) 2 [some (zR 29), some (zI c), some (zI i), none, none, none, none] [] (cX S ++ (cM (kA K 7 f) ++ t)) 0 0 := by
    intro k
    induction k with
    | zero =>
      intro i f i0 hk0 hf
      refine zWP_run gX10_laysWays 80 [2, 31] ?_
      refine zBrT (by first | (simp only [rI]; omega) | (simp only [rL]; omega)) (by omega) ?_
      exact l0 (v.1 1).toNat 0 f (by omega) (by omega) (fun s s0 s1 => hf s s0 (by omega))
    | succ k ih =>
      intro i f i0 hk0 hf
      refine zWP_run gX10_laysWays 80 [2, 31] ?_
      refine zBrF (by first | (simp only [rI]; omega) | (simp only [rL]; omega)) (by omega) ?_
      refine zBr (by first | (simp only [rI]; omega) | (simp only [rL]; omega)) (fun q => ?_) (fun q => ?_)
      · refine mVc_i (by omega) ?_
        exact ih (i + 1) (va_up f i.toNat 1) (by omega) (by omega) (fun s s0 s1 => by
          by_cases e : s = i
          · rw [e, va_up_s, r0, if_pos q]
          · rw [va_up_o _ _ (by omega)]; exact hf s s0 (by omega))
      · refine mVc_i (by omega) ?_
        exact ih (i + 1) (va_up f i.toNat 0) (by omega) (by omega) (fun s s0 s1 => by
          by_cases e : s = i
          · rw [e, va_up_s, r0, if_neg q]
          · rw [va_up_o _ _ (by omega)]; exact hf s s0 (by omega))
  refine zEv_run gX10_laysWays 40 [2] rfl ?_
  have k9 := li 31 0 (K.2 7) (by omega) (by omega) (fun s s0 s1 => by omega)
  rw [kA_same] at k9
  exact k9
theorem zCl_w {X : mX} {d d2 : Nat} {S : sS} {K : kK} {t : zH} {row n : Nat} {r : Int → Int} {M2 : mM} {as : List zV} {h : zH} {Q : zO → zH → Prop} (hE : zEv X d2 M2 as h (fun o9 h9 => o9 = .inl none ∧ ∃ f : Nat → Int, (∀ s : Int, 0 ≤ s → s < n → f s.toNat = r s) ∧ h9 = cX S ++ (cM (kA K row f) ++ t))) (hd : d2 < d) (hq : ∀ f : Nat → Int, (∀ s : Int, 0 ≤ s → s < n → f s.toNat = r s) → Q (.inl none) (cX S ++ (cM (kA K row f) ++ t))) : zCl X d M2 as h Q := ⟨d2, _, hd, hE, fun o9 h9 q => by
  obtain ⟨q1, f, q2, q3⟩ := q
  rw [q1, q3]
  exact hq f q2⟩
set_option maxHeartbeats 1000000 in
set_option maxRecDepth 100000 in
theorem kge (hk : kVn (K.2 0) v (v.1 4)) {c : Int} (hc : 0 ≤ c ∧ c < 32) {s : Int} (hs : rI s) : zEv X 3 mX10_atLeast [zR 29, zI c, zI s] (cX S ++ (cM K ++ t)) (fun o9 h9 => o9 = .inl (some (zJ (vGe (vSm v c (v.1 1)) (max s 0)))) ∧ ∃ f : Nat → Int, h9 = cX S ++ (cM (kA K 7 f) ++ t)) := by
  have hs1 := hs.1
  have hs2 := hs.2
  have lp : ∀ (f : Nat → Int), (∀ s : Int, 0 ≤ s → s < 31 → f s.toNat = vSm v c (v.1 1) s) → ∀ (k : Nat) (i : Int), 0 ≤ i → i + k = max 0 (31 - max s 0) → zWP X mX10_atLeast 3 (fun o9 h9 => o9 = .inl (some (zJ (vGe (vSm v c (v.1 1)) (max s 0)))) ∧ ∃ f : Nat → Int, h9 = cX S ++ (cM (kA K 7 f) ++ t)) 14 [some (zR 29), some (zI c), some (zI s), some (zJ (zSum (fun i => vSm v c (v.1 1) (max s 0 + i)) i)), none, some (zI (max s 0 + i))] [] (cX S ++ (cM (kA K 7 f) ++ t)) 0 0 := by
    intro f hf k
    induction k with
    | zero =>
      intro i i0 hk0
      refine zWP_run gX10_atLeast 60 [14] ?_
      refine zBrT (by first | (simp only [rI]; omega) | (simp only [rL]; omega)) (by omega) ?_
      refine ⟨?_, f, rfl⟩
      by_cases c9 : max s 0 ≤ 31
      · rw [vGe, show i = 31 - max s 0 by omega]
      · have e1 : (31 - max s 0).toNat = 0 := by omega
        have e2 : i.toNat = 0 := by omega
        rw [vGe]
        simp only [zSum, e1, e2, vSum]
    | succ k ih =>
      intro i i0 hk0
      refine zWP_run gX10_atLeast 60 [14] ?_
      refine zBrF (by first | (simp only [rI]; omega) | (simp only [rL]; omega)) (by omega) ?_
      refine mVc_i (by omega) ?_
      have k3 := ih (i + 1) (by omega) (by omega)
      rw [zSum_s i0, ← hf (max s 0 + i) (by omega) (by omega), show max s 0 + (i + 1) = max s 0 + i + 1 by omega] at k3
      exact k3
  refine zEv_run gX10_atLeast 60 [14] rfl ?_
  refine zCl_w (klw hk hc) (by decide) ?_
  intro f hf
  refine mVc_i (by simp only [rI]; omega) ?_
  have k3 := lp f hf (max 0 (31 - max s 0)).toNat 0 (by omega) (by omega)
  rw [show max s 0 + 0 = max 0 s by omega] at k3
  exact k3
set_option maxHeartbeats 1000000 in
set_option maxRecDepth 100000 in
theorem kWhole (hk : kVn (K.2 0) v (v.1 4)) {x : Int} (hx : rI x) : zEv X 10 mX10_whole [zR 29, zI x] (cX S ++ (cM K ++ t)) (kTq S K t (kcd [0, 2]) (pWhole v x)) := by
  unfold pWhole
  have b1 := hk.1.2.1
  have b2 := hk.1.2.2.1
  have b4 := hk.1.2.2.2.2.1
  have hx1 := hx.1
  have hx2 := hx.2
  have p2 : (2 : Int) ^ (v.1 1).toNat ≤ 32 ∧ 1 ≤ (2 : Int) ^ (v.1 1).toNat := by
    have h : v.1 1 = 0 ∨ v.1 1 = 1 ∨ v.1 1 = 2 ∨ v.1 1 = 3 ∨ v.1 1 = 4 ∨ v.1 1 = 5 := by omega
    rcases h with h | h | h | h | h | h <;> rw [h] <;> decide
  have h32 : 0 ≤ x ∧ x < 2 ^ (v.1 1).toNat → 0 ≤ x ∧ x < 32 := fun q => by omega
  by_cases c1 : 0 ≤ x ∧ x < 2 ^ (v.1 1).toNat
  · rw [if_pos c1]
    by_cases c2 : ¬ vWh v x (v.1 1) = 0
    · rw [if_pos c2]
      refine zEv_run gX10_whole 60 [] rfl ?_
      refine zCl_e (ksf_t hk hx c1 c2) (by decide) ?_
      refine zBrT (by first | (simp only [rI]; omega) | (simp only [rL]; omega)) (by omega) ?_
      refine zCl_e (kall (K := kI K 0 0) hk (h32 c1)) (by decide) ?_
      exact ⟨_, kI K 0 0, rfl, rfl, kF_t (kF_r K) (kF_I _ _ (by omega)), hk, rfl, rfl⟩
    · rw [if_neg c2]
      refine zEv_run gX10_whole 60 [] rfl ?_
      refine zCl_e (ksf_2 hk hx c1 (Decidable.not_not.mp c2)) (by decide) ?_
      refine zBrF (by first | (simp only [rI]; omega) | (simp only [rL]; omega)) (by omega) ?_
      exact ⟨0, kI K 0 2, rfl, rfl, kF_t (kF_r K) (kF_I _ _ (by omega)), hk, rfl⟩
  · rw [if_neg c1]
    refine zEv_run gX10_whole 60 [] rfl ?_
    refine zCl_e (ksf_1 hk hx c1) (by decide) ?_
    refine zBrF (by first | (simp only [rI]; omega) | (simp only [rL]; omega)) (by omega) ?_
    exact ⟨0, kI K 0 1, rfl, rfl, kF_t (kF_r K) (kF_I _ _ (by omega)), hk, rfl⟩
set_option maxHeartbeats 1000000 in
set_option maxRecDepth 100000 in
theorem kSum (hk : kVn (K.2 0) v (v.1 4)) {x s : Int} (hx : rI x) (hs : rI s) : zEv X 10 mX10_sum [zR 29, zI x, zI s] (cX S ++ (cM K ++ t)) (kTq S K t (kcd [0, 2]) (pSum v x s)) := by
  unfold pSum
  have b1 := hk.1.2.1
  have b2 := hk.1.2.2.1
  have b4 := hk.1.2.2.2.2.1
  have hx1 := hx.1
  have hx2 := hx.2
  have hs1 := hs.1
  have hs2 := hs.2
  have p2 : (2 : Int) ^ (v.1 1).toNat ≤ 32 ∧ 1 ≤ (2 : Int) ^ (v.1 1).toNat := by
    have h : v.1 1 = 0 ∨ v.1 1 = 1 ∨ v.1 1 = 2 ∨ v.1 1 = 3 ∨ v.1 1 = 4 ∨ v.1 1 = 5 := by omega
    rcases h with h | h | h | h | h | h <;> rw [h] <;> decide
  have h32 : 0 ≤ x ∧ x < 2 ^ (v.1 1).toNat → 0 ≤ x ∧ x < 32 := fun q => by omega
  by_cases c1 : 0 ≤ x ∧ x < 2 ^ (v.1 1).toNat
  · rw [if_pos c1]
    by_cases c2 : ¬ vWh v x (v.1 1) = 0
    · rw [if_pos c2]
      refine zEv_run gX10_sum 60 [] rfl ?_
      refine zCl_e (ksf_t hk hx c1 c2) (by decide) ?_
      refine zBrT (by first | (simp only [rI]; omega) | (simp only [rL]; omega)) (by omega) ?_
      refine zCl_w (klw (K := kI K 0 0) hk (h32 c1)) (by decide) ?_
      intro f hf
      refine mVc_i (by simp only [rI]; omega) ?_
      unfold vAt
      by_cases c9 : 0 ≤ s ∧ s < 31
      · rw [if_pos c9]
        refine zCl_e (kwi_t (by simp only [rL]; omega) (by simp only [rL]; omega) (by simp only [rL]; omega) (by omega)) (by decide) ?_
        refine zBrF (by first | (simp only [rI]; omega) | (simp only [rL]; omega)) (by omega) ?_
        refine mVc_i (by omega) ?_
        exact ⟨_, kA (kI K 0 0) 7 f, rfl, rfl, kF_t (kF_t (kF_r K) (kF_I _ _ (by omega))) (kF_A _ _ (by omega)), hk, hf s c9.1 c9.2, rfl⟩
      · rw [if_neg c9]
        refine zCl_e (kwi_f (by simp only [rL]; omega) (by simp only [rL]; omega) (by simp only [rL]; omega) (by omega)) (by decide) ?_
        refine zBrT (by first | (simp only [rI]; omega) | (simp only [rL]; omega)) (by omega) ?_
        exact ⟨_, kA (kI K 0 0) 7 f, rfl, rfl, kF_t (kF_t (kF_r K) (kF_I _ _ (by omega))) (kF_A _ _ (by omega)), hk, rfl, rfl⟩
    · rw [if_neg c2]
      refine zEv_run gX10_sum 60 [] rfl ?_
      refine zCl_e (ksf_2 hk hx c1 (Decidable.not_not.mp c2)) (by decide) ?_
      refine zBrF (by first | (simp only [rI]; omega) | (simp only [rL]; omega)) (by omega) ?_
      exact ⟨0, kI K 0 2, rfl, rfl, kF_t (kF_r K) (kF_I _ _ (by omega)), hk, rfl⟩
  · rw [if_neg c1]
    refine zEv_run gX10_sum 60 [] rfl ?_
    refine zCl_e (ksf_1 hk hx c1) (by decide) ?_
    refine zBrF (by first | (simp only [rI]; omega) | (simp only [rL]; omega)) (by omega) ?_
    exact ⟨0, kI K 0 1, rfl, rfl, kF_t (kF_r K) (kF_I _ _ (by omega)), hk, rfl⟩
set_option maxHeartbeats 1000000 in
set_option maxRecDepth 100000 in
theorem kLeast (hk : kVn (K.2 0) v (v.1 4)) {x s : Int} (hx : rI x) (hs : rI s) : zEv X 10 mX10_least [zR 29, zI x, zI s] (cX S ++ (cM K ++ t)) (kTq S K t (kcd [0, 2]) (pLeast v x s)) := by
  unfold pLeast
  have b1 := hk.1.2.1
  have b2 := hk.1.2.2.1
  have b4 := hk.1.2.2.2.2.1
  have hx1 := hx.1
  have hx2 := hx.2
  have hs1 := hs.1
  have hs2 := hs.2
  have p2 : (2 : Int) ^ (v.1 1).toNat ≤ 32 ∧ 1 ≤ (2 : Int) ^ (v.1 1).toNat := by
    have h : v.1 1 = 0 ∨ v.1 1 = 1 ∨ v.1 1 = 2 ∨ v.1 1 = 3 ∨ v.1 1 = 4 ∨ v.1 1 = 5 := by omega
    rcases h with h | h | h | h | h | h <;> rw [h] <;> decide
  have h32 : 0 ≤ x ∧ x < 2 ^ (v.1 1).toNat → 0 ≤ x ∧ x < 32 := fun q => by omega
  by_cases c1 : 0 ≤ x ∧ x < 2 ^ (v.1 1).toNat
  · rw [if_pos c1]
    by_cases c2 : ¬ vWh v x (v.1 1) = 0
    · rw [if_pos c2]
      refine zEv_run gX10_least 60 [] rfl ?_
      refine zCl_e (ksf_t hk hx c1 c2) (by decide) ?_
      refine zBrT (by first | (simp only [rI]; omega) | (simp only [rL]; omega)) (by omega) ?_
      refine zCl_i (kge (K := kI K 0 0) hk (h32 c1) hs) (by decide) ?_
      rintro o9 h9 ⟨rfl, f, rfl⟩
      exact ⟨_, kA (kI K 0 0) 7 f, rfl, rfl, kF_t (kF_t (kF_r K) (kF_I _ _ (by omega))) (kF_A _ _ (by omega)), hk, rfl, rfl⟩
    · rw [if_neg c2]
      refine zEv_run gX10_least 60 [] rfl ?_
      refine zCl_e (ksf_2 hk hx c1 (Decidable.not_not.mp c2)) (by decide) ?_
      refine zBrF (by first | (simp only [rI]; omega) | (simp only [rL]; omega)) (by omega) ?_
      exact ⟨0, kI K 0 2, rfl, rfl, kF_t (kF_r K) (kF_I _ _ (by omega)), hk, rfl⟩
  · rw [if_neg c1]
    refine zEv_run gX10_least 60 [] rfl ?_
    refine zCl_e (ksf_1 hk hx c1) (by decide) ?_
    refine zBrF (by first | (simp only [rI]; omega) | (simp only [rL]; omega)) (by omega) ?_
    exact ⟨0, kI K 0 1, rfl, rfl, kF_t (kF_r K) (kF_I _ _ (by omega)), hk, rfl⟩
set_option maxHeartbeats 1000000 in
set_option maxRecDepth 100000 in
theorem kMode (hk : kVn (K.2 0) v (v.1 4)) {x : Int} (hx : rI x) : zEv X 10 mX10_mode [zR 29, zI x] (cX S ++ (cM K ++ t)) (kTp S K t (kcd [0, 2]) (pMode v x)) := by
  unfold pMode
  have b1 := hk.1.2.1
  have b2 := hk.1.2.2.1
  have b4 := hk.1.2.2.2.2.1
  have hx1 := hx.1
  have hx2 := hx.2
  have p2 : (2 : Int) ^ (v.1 1).toNat ≤ 32 ∧ 1 ≤ (2 : Int) ^ (v.1 1).toNat := by
    have h : v.1 1 = 0 ∨ v.1 1 = 1 ∨ v.1 1 = 2 ∨ v.1 1 = 3 ∨ v.1 1 = 4 ∨ v.1 1 = 5 := by omega
    rcases h with h | h | h | h | h | h <;> rw [h] <;> decide
  have h32 : 0 ≤ x ∧ x < 2 ^ (v.1 1).toNat → 0 ≤ x ∧ x < 32 := fun q => by omega
  by_cases c1 : 0 ≤ x ∧ x < 2 ^ (v.1 1).toNat
  · rw [if_pos c1]
    by_cases c2 : ¬ vWh v x (v.1 1) = 0
    · rw [if_pos c2]
      have lp : ∀ (f : Nat → Int), (∀ s : Int, 0 ≤ s → s < 31 → f s.toNat = vSm v x (v.1 1) s) → ∀ (k : Nat) (i : Int), 0 ≤ i → i + k = 30 → zWP X mX10_mode 10 (kTp S K t (kcd [0, 2]) (.inl (vMo (vSm v x (v.1 1)) 30), v)) 27 [some (zR 29), some (zI x), some (zI (vMo (vSm v x (v.1 1)) i)), some (zI (i + 1))] [] (cX S ++ (cM (kA (kI K 0 0) 7 f) ++ t)) 0 0 := by
        intro f hf k
        induction k with
        | zero =>
          intro i i0 hk0
          refine zWP_run gX10_mode 60 [27] ?_
          refine zBrT (by first | (simp only [rI]; omega) | (simp only [rL]; omega)) (by omega) ?_
          refine ⟨_, kA (kI K 0 0) 7 f, rfl, rfl, kF_t (kF_t (kF_r K) (kF_I _ _ (by omega))) (kF_A _ _ (by omega)), hk, ?_, rfl⟩
          rw [show i = 30 by omega]
        | succ k ih =>
          intro i i0 hk0
          have hb := vMo_b (vSm v x (v.1 1)) i0
          have e1 := hf (i + 1) (by omega) (by omega)
          have e2 := hf (vMo (vSm v x (v.1 1)) i) (by omega) (by omega)
          have s1 := vSm_5 hk.1 x (i + 1)
          have s2 := vSm_5 hk.1 x (vMo (vSm v x (v.1 1)) i)
          have k3 := ih (i + 1) (by omega) (by omega)
          rw [vMo_s _ i0] at k3
          refine zWP_run gX10_mode 60 [27] ?_
          refine zBrF (by first | (simp only [rI]; omega) | (simp only [rL]; omega)) (by omega) ?_
          refine mVc_i (by omega) ?_
          refine mVc_i (by omega) ?_
          refine zBr (by show rL (f (i + 1).toNat) ∧ rL (f (vMo (vSm v x (v.1 1)) i).toNat); rw [e1, e2]; simp only [rL]; omega) (fun q => ?_) (fun q => ?_)
          · have q2 : f (i + 1).toNat ≤ f (vMo (vSm v x (v.1 1)) i).toNat := q
            rw [e1, e2] at q2
            rw [if_neg (by omega)] at k3
            exact k3
          · have q2 : ¬ f (i + 1).toNat ≤ f (vMo (vSm v x (v.1 1)) i).toNat := q
            rw [e1, e2] at q2
            rw [if_pos (by omega)] at k3
            exact k3
      refine zEv_run gX10_mode 60 [27] rfl ?_
      refine zCl_e (ksf_t hk hx c1 c2) (by decide) ?_
      refine zBrT (by first | (simp only [rI]; omega) | (simp only [rL]; omega)) (by omega) ?_
      refine zCl_w (klw (K := kI K 0 0) hk (h32 c1)) (by decide) ?_
      intro f hf
      exact lp f hf 30 0 (by omega) (by omega)
    · rw [if_neg c2]
      refine zEv_run gX10_mode 60 [27] rfl ?_
      refine zCl_e (ksf_2 hk hx c1 (Decidable.not_not.mp c2)) (by decide) ?_
      refine zBrF (by first | (simp only [rI]; omega) | (simp only [rL]; omega)) (by omega) ?_
      exact ⟨0, kI K 0 2, rfl, rfl, kF_t (kF_r K) (kF_I _ _ (by omega)), hk, rfl⟩
  · rw [if_neg c1]
    refine zEv_run gX10_mode 60 [27] rfl ?_
    refine zCl_e (ksf_1 hk hx c1) (by decide) ?_
    refine zBrF (by first | (simp only [rI]; omega) | (simp only [rL]; omega)) (by omega) ?_
    exact ⟨0, kI K 0 1, rfl, rfl, kF_t (kF_r K) (kF_I _ _ (by omega)), hk, rfl⟩
set_option maxHeartbeats 1000000 in
set_option maxRecDepth 100000 in
theorem kSums (hk : kVn (K.2 0) v (v.1 4)) {x : Int} (hx : rI x) : zEv X 10 mX10_sums [zR 29, zI x] (cX S ++ (cM K ++ t)) (kTp S K t (kcd [0, 2]) (pSums v x)) := by
  unfold pSums
  have b1 := hk.1.2.1
  have b2 := hk.1.2.2.1
  have b4 := hk.1.2.2.2.2.1
  have hx1 := hx.1
  have hx2 := hx.2
  have p2 : (2 : Int) ^ (v.1 1).toNat ≤ 32 ∧ 1 ≤ (2 : Int) ^ (v.1 1).toNat := by
    have h : v.1 1 = 0 ∨ v.1 1 = 1 ∨ v.1 1 = 2 ∨ v.1 1 = 3 ∨ v.1 1 = 4 ∨ v.1 1 = 5 := by omega
    rcases h with h | h | h | h | h | h <;> rw [h] <;> decide
  have h32 : 0 ≤ x ∧ x < 2 ^ (v.1 1).toNat → 0 ≤ x ∧ x < 32 := fun q => by omega
  by_cases c1 : 0 ≤ x ∧ x < 2 ^ (v.1 1).toNat
  · rw [if_pos c1]
    by_cases c2 : ¬ vWh v x (v.1 1) = 0
    · rw [if_pos c2]
      have lp : ∀ (f : Nat → Int), (∀ s : Int, 0 ≤ s → s < 31 → f s.toNat = vSm v x (v.1 1) s) → ∀ (k : Nat) (i : Int), 0 ≤ i → i + k = 31 → zWP X mX10_sums 10 (kTp S K t (kcd [0, 2]) (.inl (vPo (vSm v x (v.1 1)) 31), v)) 27 [some (zR 29), some (zI x), some (zI (vPo (vSm v x (v.1 1)) i)), some (zI i)] [] (cX S ++ (cM (kA (kI K 0 0) 7 f) ++ t)) 0 0 := by
        intro f hf k
        induction k with
        | zero =>
          intro i i0 hk0
          refine zWP_run gX10_sums 60 [27] ?_
          refine zBrT (by first | (simp only [rI]; omega) | (simp only [rL]; omega)) (by omega) ?_
          refine ⟨_, kA (kI K 0 0) 7 f, rfl, rfl, kF_t (kF_t (kF_r K) (kF_I _ _ (by omega))) (kF_A _ _ (by omega)), hk, ?_, rfl⟩
          rw [show i = 31 by omega]
        | succ k ih =>
          intro i i0 hk0
          have e1 := hf i (by omega) (by omega)
          have s1 := vSm_5 hk.1 x i
          have k3 := ih (i + 1) (by omega) (by omega)
          rw [vPo_s _ i0] at k3
          refine zWP_run gX10_sums 60 [27] ?_
          refine zBrF (by first | (simp only [rI]; omega) | (simp only [rL]; omega)) (by omega) ?_
          refine mVc_i (by omega) ?_
          refine zBr (by show rL (f i.toNat) ∧ rL 0; rw [e1]; simp only [rL]; omega) (fun q => ?_) (fun q => ?_)
          · have q2 : f i.toNat ≤ 0 := q
            rw [e1] at q2
            rw [if_neg (by omega), ← or_0 (vPo_b (vSm v x (v.1 1)) i0)] at k3
            exact k3
          · have q2 : ¬ f i.toNat ≤ 0 := q
            rw [e1] at q2
            rw [if_pos (by omega)] at k3
            exact k3
      refine zEv_run gX10_sums 60 [27] rfl ?_
      refine zCl_e (ksf_t hk hx c1 c2) (by decide) ?_
      refine zBrT (by first | (simp only [rI]; omega) | (simp only [rL]; omega)) (by omega) ?_
      refine zCl_w (klw (K := kI K 0 0) hk (h32 c1)) (by decide) ?_
      intro f hf
      exact lp f hf 31 0 (by omega) (by omega)
    · rw [if_neg c2]
      refine zEv_run gX10_sums 60 [27] rfl ?_
      refine zCl_e (ksf_2 hk hx c1 (Decidable.not_not.mp c2)) (by decide) ?_
      refine zBrF (by first | (simp only [rI]; omega) | (simp only [rL]; omega)) (by omega) ?_
      exact ⟨0, kI K 0 2, rfl, rfl, kF_t (kF_r K) (kF_I _ _ (by omega)), hk, rfl⟩
  · rw [if_neg c1]
    refine zEv_run gX10_sums 60 [27] rfl ?_
    refine zCl_e (ksf_1 hk hx c1) (by decide) ?_
    refine zBrF (by first | (simp only [rI]; omega) | (simp only [rL]; omega)) (by omega) ?_
    exact ⟨0, kI K 0 1, rfl, rfl, kF_t (kF_r K) (kF_I _ _ (by omega)), hk, rfl⟩
set_option maxHeartbeats 1000000 in
set_option maxRecDepth 100000 in
theorem kMean (hk : kVn (K.2 0) v (v.1 4)) {x w : Int} (hx : rI x) (hw : rI w) : zEv X 10 mX10_mean [zR 29, zI x, zI w] (cX S ++ (cM K ++ t)) (kTq S K t (kcd [0, 2]) (pMean v x w)) := by
  unfold pMean
  have b1 := hk.1.2.1
  have b2 := hk.1.2.2.1
  have b4 := hk.1.2.2.2.2.1
  have hx1 := hx.1
  have hx2 := hx.2
  have hw1 := hw.1
  have hw2 := hw.2
  have p2 : (2 : Int) ^ (v.1 1).toNat ≤ 32 ∧ 1 ≤ (2 : Int) ^ (v.1 1).toNat := by
    have h : v.1 1 = 0 ∨ v.1 1 = 1 ∨ v.1 1 = 2 ∨ v.1 1 = 3 ∨ v.1 1 = 4 ∨ v.1 1 = 5 := by omega
    rcases h with h | h | h | h | h | h <;> rw [h] <;> decide
  have h32 : 0 ≤ x ∧ x < 2 ^ (v.1 1).toNat → 0 ≤ x ∧ x < 32 := fun q => by omega
  by_cases c1 : 0 ≤ x ∧ x < 2 ^ (v.1 1).toNat
  · rw [if_pos c1]
    by_cases c2 : 0 ≤ w ∧ w ≤ 1
    · rw [if_pos c2]
      by_cases c3 : ¬ vWh v x (v.1 1) = 0
      · rw [if_pos c3]
        have hA := vAw_b (r := vSm v x (v.1 1)) (B := 24883200000) (by omega) (fun s => vSm_5 hk.1 x s) (i := 31) (by omega) (by omega)
        have hW := vWh_5 hk.1 x
        have lp : ∀ (f : Nat → Int), (∀ s : Int, 0 ≤ s → s < 31 → f s.toNat = vSm v x (v.1 1) s) → ∀ (k : Nat) (i : Int), 0 ≤ i → i + k = 31 → zWP X mX10_mean 10 (kTq S K t (kcd [0, 2]) (.inl (if w = 0 then vAw (vSm v x (v.1 1)) 31 / vWh v x (v.1 1) else vAw (vSm v x (v.1 1)) 31 % vWh v x (v.1 1)), v)) 42 [some (zR 29), some (zI x), some (zI w), some (zJ (vAw (vSm v x (v.1 1)) i)), none, some (zI i)] [] (cX S ++ (cM (kA (kI K 0 0) 7 f) ++ t)) 0 0 := by
          intro f hf k
          induction k with
          | zero =>
            intro i i0 hk0
            rw [show i = 31 by omega]
            refine zWP_run gX10_mean 60 [42] ?_
            refine zBrT (by first | (simp only [rI]; omega) | (simp only [rL]; omega)) (by omega) ?_
            by_cases e : w = 0
            · refine zBrT (by first | (simp only [rI]; omega) | (simp only [rL]; omega)) e ?_
              refine zCl_e (kall (K := kA (kI K 0 0) 7 f) hk (h32 c1)) (by decide) ?_
              refine mVc_i (by simp only [rL]; omega) ?_
              rw [if_pos e]
              exact ⟨_, kA (kI K 0 0) 7 f, rfl, rfl, kF_t (kF_t (kF_r K) (kF_I _ _ (by omega))) (kF_A _ _ (by omega)), hk, rfl, rfl⟩
            · refine zBrF (by first | (simp only [rI]; omega) | (simp only [rL]; omega)) e ?_
              refine zCl_e (kall (K := kA (kI K 0 0) 7 f) hk (h32 c1)) (by decide) ?_
              refine mVc_i (by simp only [rL]; omega) ?_
              rw [if_neg e]
              exact ⟨_, kA (kI K 0 0) 7 f, rfl, rfl, kF_t (kF_t (kF_r K) (kF_I _ _ (by omega))) (kF_A _ _ (by omega)), hk, rfl, rfl⟩
          | succ k ih =>
            intro i i0 hk0
            have e1 := hf i (by omega) (by omega)
            have k3 := ih (i + 1) (by omega) (by omega)
            rw [vAw_s _ i0, ← e1] at k3
            refine zWP_run gX10_mean 60 [42] ?_
            refine zBrF (by first | (simp only [rI]; omega) | (simp only [rL]; omega)) (by omega) ?_
            refine mVc_i (by simp only [rI]; omega) ?_
            refine mVc_i (by omega) ?_
            exact k3
        refine zEv_run gX10_mean 60 [42] rfl ?_
        refine mVc_i (by first | omega | (simp only [rI]; omega) | (simp only [rL]; omega)) ?_
        refine zCl_e (kwi_t (by simp only [rL]; omega) (by simp only [rL]; omega) (by simp only [rL]; omega) (by omega)) (by decide) ?_
        refine zBrF (by first | (simp only [rI]; omega) | (simp only [rL]; omega)) (by omega) ?_
        refine zCl_e (ksf_t hk hx c1 c3) (by decide) ?_
        refine zBrT (by first | (simp only [rI]; omega) | (simp only [rL]; omega)) (by omega) ?_
        refine zCl_w (klw (K := kI K 0 0) hk (h32 c1)) (by decide) ?_
        intro f hf
        exact lp f hf 31 0 (by omega) (by omega)
      · rw [if_neg c3]
        refine zEv_run gX10_mean 60 [42] rfl ?_
        refine mVc_i (by first | omega | (simp only [rI]; omega) | (simp only [rL]; omega)) ?_
        refine zCl_e (kwi_t (by simp only [rL]; omega) (by simp only [rL]; omega) (by simp only [rL]; omega) (by omega)) (by decide) ?_
        refine zBrF (by first | (simp only [rI]; omega) | (simp only [rL]; omega)) (by omega) ?_
        refine zCl_e (ksf_2 hk hx c1 (Decidable.not_not.mp c3)) (by decide) ?_
        refine zBrF (by first | (simp only [rI]; omega) | (simp only [rL]; omega)) (by omega) ?_
        exact ⟨0, kI K 0 2, rfl, rfl, kF_t (kF_r K) (kF_I _ _ (by omega)), hk, rfl⟩
    · rw [if_neg c2]
      refine zEv_run gX10_mean 60 [42] rfl ?_
      refine mVc_i (by first | omega | (simp only [rI]; omega) | (simp only [rL]; omega)) ?_
      refine zCl_e (kwi_f (by simp only [rL]; omega) (by simp only [rL]; omega) (by simp only [rL]; omega) (by omega)) (by decide) ?_
      refine zBrT (by first | (simp only [rI]; omega) | (simp only [rL]; omega)) (by omega) ?_
      refine zBrF (by first | (simp only [rI]; omega) | (simp only [rL]; omega)) (by omega) ?_
      exact ⟨0, kI K 0 1, rfl, rfl, kF_t (kF_r K) (kF_I _ _ (by omega)), hk, rfl⟩
  · rw [if_neg c1]
    by_cases c2 : 0 ≤ w ∧ w ≤ 1
    · refine zEv_run gX10_mean 60 [42] rfl ?_
      refine mVc_i (by first | omega | (simp only [rI]; omega) | (simp only [rL]; omega)) ?_
      refine zCl_e (kwi_t (by simp only [rL]; omega) (by simp only [rL]; omega) (by simp only [rL]; omega) (by omega)) (by decide) ?_
      refine zBrF (by first | (simp only [rI]; omega) | (simp only [rL]; omega)) (by omega) ?_
      refine zCl_e (ksf_1 hk hx c1) (by decide) ?_
      refine zBrF (by first | (simp only [rI]; omega) | (simp only [rL]; omega)) (by omega) ?_
      exact ⟨0, kI K 0 1, rfl, rfl, kF_t (kF_r K) (kF_I _ _ (by omega)), hk, rfl⟩
    · refine zEv_run gX10_mean 60 [42] rfl ?_
      refine mVc_i (by first | omega | (simp only [rI]; omega) | (simp only [rL]; omega)) ?_
      refine zCl_e (kwi_f (by simp only [rL]; omega) (by simp only [rL]; omega) (by simp only [rL]; omega) (by omega)) (by decide) ?_
      refine zBrT (by first | (simp only [rI]; omega) | (simp only [rL]; omega)) (by omega) ?_
      refine zBrF (by first | (simp only [rI]; omega) | (simp only [rL]; omega)) (by omega) ?_
      exact ⟨0, kI K 0 1, rfl, rfl, kF_t (kF_r K) (kF_I _ _ (by omega)), hk, rfl⟩
set_option maxHeartbeats 1000000 in
set_option maxRecDepth 100000 in
theorem kAlike (hk : kVn (K.2 0) v (v.1 4)) {x : Int} (hx : rI x) : zEv X 10 mX10_alike [zR 29, zI x] (cX S ++ (cM K ++ t)) (kTq S K t (kcd [0, 2]) (pAlike v x)) := by
  unfold pAlike
  have b1 := hk.1.2.1
  have b2 := hk.1.2.2.1
  have b4 := hk.1.2.2.2.2.1
  have hx1 := hx.1
  have hx2 := hx.2
  have p2 : (2 : Int) ^ (v.1 1).toNat ≤ 32 ∧ 1 ≤ (2 : Int) ^ (v.1 1).toNat := by
    have h : v.1 1 = 0 ∨ v.1 1 = 1 ∨ v.1 1 = 2 ∨ v.1 1 = 3 ∨ v.1 1 = 4 ∨ v.1 1 = 5 := by omega
    rcases h with h | h | h | h | h | h <;> rw [h] <;> decide
  have h32 : 0 ≤ x ∧ x < 2 ^ (v.1 1).toNat → 0 ≤ x ∧ x < 32 := fun q => by omega
  by_cases c1 : 0 ≤ x ∧ x < 2 ^ (v.1 1).toNat
  · rw [if_pos c1]
    by_cases c2 : ¬ vWh v x (v.1 1) = 0
    · rw [if_pos c2]
      unfold vOf
      by_cases ex : x = 0
      · rw [if_pos ex]
        refine zEv_run gX10_alike 60 [29] rfl ?_
        refine zCl_e (ksf_t hk hx c1 c2) (by decide) ?_
        refine zBrT (by first | (simp only [rI]; omega) | (simp only [rL]; omega)) (by omega) ?_
        refine zBrT (by first | (simp only [rI]; omega) | (simp only [rL]; omega)) (by omega) ?_
        exact ⟨_, kI K 0 0, rfl, rfl, kF_t (kF_r K) (kF_I _ _ (by omega)), hk, rfl, rfl⟩
      · rw [if_neg ex]
        have lin : ∀ (i : Int), 0 ≤ i → i < 6 → (zWP X mX10_alike 10 (kTq S K t (kcd [0, 2]) (.inl (zSum (fun i => vPf v x (i + 1) (v.1 1)) 6), v)) 29 [some (zR 29), some (zI x), some (zJ (zSum (fun i => vPf v x (i + 1) (v.1 1)) (i + 1))), none, some (zI (i + 1 + 1)), none, none, none] [] (cX S ++ (cM (kI K 0 0) ++ t)) 0 0) → ∀ (k : Nat) (d : Int), 0 ≤ d → d + k = v.1 1 → zWP X mX10_alike 10 (kTq S K t (kcd [0, 2]) (.inl (zSum (fun i => vPf v x (i + 1) (v.1 1)) 6), v)) 42 [some (zR 29), some (zI x), some (zJ (zSum (fun i => vPf v x (i + 1) (v.1 1)) i)), none, some (zI (i + 1)), some (zJ (vPf v x (i + 1) d)), none, some (zI d)] [] (cX S ++ (cM (kI K 0 0) ++ t)) 0 0 := by
          intro i i0 i1 kk k
          induction k with
          | zero =>
            intro d d0 hk0
            refine zWP_run gX10_alike 60 [29, 42] ?_
            refine zCl_e (kdi (K := kI K 0 0) hk) (by decide) ?_
            refine zBrT (by first | (simp only [rI]; omega) | (simp only [rL]; omega)) (by omega) ?_
            rw [show d = v.1 1 by omega]
            rw [zSum_s i0] at kk
            exact zWP_fg kk (by repeat (first | exact trivial | refine ⟨rfl, ?_⟩))
          | succ k ih =>
            intro d d0 hk0
            have hb := bit_01 x d
            have hw := hk.1.2.2.2.2.2.1.1 d (i + 1)
            have h3 := h32 c1
            have k3 := ih (d + 1) (by omega) (by omega)
            rw [vPf_s v x (i + 1) d0] at k3
            refine zWP_run gX10_alike 60 [29, 42] ?_
            refine zCl_e (kdi (K := kI K 0 0) hk) (by decide) ?_
            refine zBrF (by first | (simp only [rI]; omega) | (simp only [rL]; omega)) (by omega) ?_
            refine zCl_e (khs (by omega) (by omega)) (by decide) ?_
            refine zBr (by first | (simp only [rI]; omega) | (simp only [rL]; omega)) (fun q => ?_) (fun q => ?_)
            · rw [if_neg (by omega)] at k3
              exact k3
            · rw [if_pos (by omega)] at k3
              refine zCl_e (kw (K := kI K 0 0) hk ⟨d0, by omega⟩ (by omega)) (by decide) ?_
              refine mVc_i (by simp only [rI]; omega) ?_
              exact k3
        have lout : ∀ (k : Nat) (i : Int), 0 ≤ i → i + k = 6 → zWP X mX10_alike 10 (kTq S K t (kcd [0, 2]) (.inl (zSum (fun i => vPf v x (i + 1) (v.1 1)) 6), v)) 29 [some (zR 29), some (zI x), some (zJ (zSum (fun i => vPf v x (i + 1) (v.1 1)) i)), none, some (zI (i + 1)), none, none, none] [] (cX S ++ (cM (kI K 0 0) ++ t)) 0 0 := by
          intro k
          induction k with
          | zero =>
            intro i i0 hk0
            refine zWP_run gX10_alike 60 [29, 42] ?_
            refine zBrT (by first | (simp only [rI]; omega) | (simp only [rL]; omega)) (by omega) ?_
            rw [show i = 6 by omega]
            exact ⟨_, kI K 0 0, rfl, rfl, kF_t (kF_r K) (kF_I _ _ (by omega)), hk, rfl, rfl⟩
          | succ k ih =>
            intro i i0 hk0
            refine zWP_run gX10_alike 60 [29, 42] ?_
            refine zBrF (by first | (simp only [rI]; omega) | (simp only [rL]; omega)) (by omega) ?_
            exact lin i i0 (by omega) (ih (i + 1) (by omega) (by omega)) (v.1 1).toNat 0 (by omega) (by omega)
        refine zEv_run gX10_alike 60 [29] rfl ?_
        refine zCl_e (ksf_t hk hx c1 c2) (by decide) ?_
        refine zBrT (by first | (simp only [rI]; omega) | (simp only [rL]; omega)) (by omega) ?_
        refine zBrF (by first | (simp only [rI]; omega) | (simp only [rL]; omega)) (by omega) ?_
        exact lout 6 0 (by omega) (by omega)
    · rw [if_neg c2]
      refine zEv_run gX10_alike 60 [29] rfl ?_
      refine zCl_e (ksf_2 hk hx c1 (Decidable.not_not.mp c2)) (by decide) ?_
      refine zBrF (by first | (simp only [rI]; omega) | (simp only [rL]; omega)) (by omega) ?_
      exact ⟨0, kI K 0 2, rfl, rfl, kF_t (kF_r K) (kF_I _ _ (by omega)), hk, rfl⟩
  · rw [if_neg c1]
    refine zEv_run gX10_alike 60 [29] rfl ?_
    refine zCl_e (ksf_1 hk hx c1) (by decide) ?_
    refine zBrF (by first | (simp only [rI]; omega) | (simp only [rL]; omega)) (by omega) ?_
    exact ⟨0, kI K 0 1, rfl, rfl, kF_t (kF_r K) (kF_I _ _ (by omega)), hk, rfl⟩
end Mdl6
