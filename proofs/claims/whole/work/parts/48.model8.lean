/-! the reference: which die beats which -/
theorem vTot_0 {s : vS} (h : vSb s) {a : Int} (ht : vTot s a = 0) : s.1 a 1 = 0 ∧ s.1 a 2 = 0 ∧ s.1 a 3 = 0 ∧ s.1 a 4 = 0 ∧ s.1 a 5 = 0 ∧ s.1 a 6 = 0 := by
  have h1 := h.1 a 1
  have h2 := h.1 a 2
  have h3 := h.1 a 3
  have h4 := h.1 a 4
  have h5 := h.1 a 5
  have h6 := h.1 a 6
  simp only [vTot] at ht
  omega
theorem vBt_g {s : vS} (h : vSb s) {a b : Int} (ht : vTot s a = 0 ∨ vTot s b = 0) : vBt s a b = 0 := by
  rcases ht with ht | ht
  · obtain ⟨e1, e2, e3, e4, e5, e6⟩ := vTot_0 h ht
    simp only [vBt, e2, e3, e4, e5, e6, Int.zero_mul, Int.add_zero]
  · obtain ⟨e1, e2, e3, e4, e5, e6⟩ := vTot_0 h ht
    simp only [vBt, e1, e2, e3, e4, e5, Int.mul_zero, Int.add_zero]
section Mdla
variable {X : mX} {S : sS} {K : kK} {t : zH} {v : vV}
set_option maxHeartbeats 1000000 in
set_option maxRecDepth 100000 in
theorem kbt (hk : kVn (K.2 0) v (v.1 4)) {a b : Int} (ha : 0 ≤ a ∧ a < v.1 1) (hb : 0 ≤ b ∧ b < v.1 1) : zEv X 2 mX10_beatsOf [zR 29, zI a, zI b] (cX S ++ (cM K ++ t)) (zIs (.inl (some (zI (vBt v.2.1 a b)))) (cX S ++ (cM K ++ t))) := by
  rw [vBt_m]
  refine zEv_run gX10_beatsOf 800 [] rfl ?_
  repeat (first
    | refine zBrF (by simp only [rI]; omega) (by omega) ?_
    | refine zBrT (by simp only [rI]; omega) (by omega) ?_
    | refine zCl_e (kw hk ha (by omega)) (by decide) ?_
    | refine zCl_e (kw hk hb (by omega)) (by decide) ?_
    | refine mVc_i (by first | omega | (simp only [rI]; omega)) ?_)
  refine ⟨?_, rfl⟩
  simp only [Int.zero_add]
  rfl
set_option maxHeartbeats 1000000 in
set_option maxRecDepth 100000 in
theorem ktt (hk : kVn (K.2 0) v (v.1 4)) {a b : Int} (ha : 0 ≤ a ∧ a < v.1 1) (hb : 0 ≤ b ∧ b < v.1 1) : zEv X 2 mX10_tiesOf [zR 29, zI a, zI b] (cX S ++ (cM K ++ t)) (zIs (.inl (some (zI (vTi v.2.1 a b)))) (cX S ++ (cM K ++ t))) := by
  refine zEv_run gX10_tiesOf 400 [] rfl ?_
  repeat (first
    | refine zBrF (by simp only [rI]; omega) (by omega) ?_
    | refine zBrT (by simp only [rI]; omega) (by omega) ?_
    | refine zCl_e (kw hk ha (by omega)) (by decide) ?_
    | refine zCl_e (kw hk hb (by omega)) (by decide) ?_
    | refine mVc_i (by first | omega | (simp only [rI]; omega)) ?_)
  refine ⟨?_, rfl⟩
  simp only [vTi, Int.zero_add]
  rfl
set_option maxHeartbeats 1000000 in
set_option maxRecDepth 100000 in
theorem ktf_1 (hk : kVn (K.2 0) v (v.1 4)) {a b : Int} (ra : rI a) (rb : rI b) (c : ¬ ((0 ≤ a ∧ a < v.1 1) ∧ 0 ≤ b ∧ b < v.1 1)) : zEv X 4 mX10_twoFault [zR 29, zI a, zI b] (cX S ++ (cM K ++ t)) (zIs (.inl (some (zI (1)))) (cX S ++ (cM K ++ t))) := by
  have a1 := ra.1
  have a2 := ra.2
  have d1 := rb.1
  have d2 := rb.2
  refine zEv_run gX10_twoFault 60 [] rfl ?_
  by_cases ca : 0 ≤ a ∧ a < v.1 1
  · have cb : ¬ (0 ≤ b ∧ b < v.1 1) := fun q => c ⟨ca, q⟩
    refine mVc_i (by simp only [rI]; omega) ?_
    refine zCl_e (kdie_t hk (by simp only [rL]; omega) ca) (by decide) ?_
    refine zBrF (by first | (simp only [rI]; omega) | (simp only [rL]; omega)) (by omega) ?_
    refine mVc_i (by simp only [rI]; omega) ?_
    refine zCl_e (kdie_f hk (by simp only [rL]; omega) cb) (by decide) ?_
    refine zBrT (by first | (simp only [rI]; omega) | (simp only [rL]; omega)) (by omega) ?_
    exact ⟨rfl, rfl⟩
  · refine mVc_i (by simp only [rI]; omega) ?_
    refine zCl_e (kdie_f hk (by simp only [rL]; omega) ca) (by decide) ?_
    refine zBrT (by first | (simp only [rI]; omega) | (simp only [rL]; omega)) (by omega) ?_
    exact ⟨rfl, rfl⟩
set_option maxHeartbeats 1000000 in
set_option maxRecDepth 100000 in
theorem ktf_2 (hk : kVn (K.2 0) v (v.1 4)) {a b : Int} (ra : rI a) (rb : rI b) (c : (0 ≤ a ∧ a < v.1 1) ∧ 0 ≤ b ∧ b < v.1 1) (c2 : vTot v.2.1 a = 0 ∨ vTot v.2.1 b = 0) : zEv X 4 mX10_twoFault [zR 29, zI a, zI b] (cX S ++ (cM K ++ t)) (zIs (.inl (some (zI (2)))) (cX S ++ (cM K ++ t))) := by
  have a1 := ra.1
  have a2 := ra.2
  have d1 := rb.1
  have d2 := rb.2
  refine zEv_run gX10_twoFault 60 [] rfl ?_
  refine mVc_i (by simp only [rI]; omega) ?_
  refine zCl_e (kdie_t hk (by simp only [rL]; omega) c.1) (by decide) ?_
  refine zBrF (by simp only [rI]; omega) (by omega) ?_
  refine mVc_i (by simp only [rI]; omega) ?_
  refine zCl_e (kdie_t hk (by simp only [rL]; omega) c.2) (by decide) ?_
  refine zBrF (by simp only [rI]; omega) (by omega) ?_
  refine zCl_e (kgo hk c.1) (by decide) ?_
  refine zBb (P := vTot v.2.1 a = 0) (fun q => ?_) (fun q => ⟨rfl, rfl⟩)
  refine zCl_e (kgo hk c.2) (by decide) ?_
  refine zBb (P := vTot v.2.1 b = 0) (fun q2 => ?_) (fun q2 => ⟨rfl, rfl⟩)
  rcases c2 with c2 | c2
  · exact absurd c2 q
  · exact absurd c2 q2
set_option maxHeartbeats 1000000 in
set_option maxRecDepth 100000 in
theorem ktf_t (hk : kVn (K.2 0) v (v.1 4)) {a b : Int} (ra : rI a) (rb : rI b) (c : (0 ≤ a ∧ a < v.1 1) ∧ 0 ≤ b ∧ b < v.1 1) (c2 : ¬ (vTot v.2.1 a = 0 ∨ vTot v.2.1 b = 0)) : zEv X 4 mX10_twoFault [zR 29, zI a, zI b] (cX S ++ (cM K ++ t)) (zIs (.inl (some (zI (0)))) (cX S ++ (cM K ++ t))) := by
  have a1 := ra.1
  have a2 := ra.2
  have d1 := rb.1
  have d2 := rb.2
  refine zEv_run gX10_twoFault 60 [] rfl ?_
  refine mVc_i (by simp only [rI]; omega) ?_
  refine zCl_e (kdie_t hk (by simp only [rL]; omega) c.1) (by decide) ?_
  refine zBrF (by simp only [rI]; omega) (by omega) ?_
  refine mVc_i (by simp only [rI]; omega) ?_
  refine zCl_e (kdie_t hk (by simp only [rL]; omega) c.2) (by decide) ?_
  refine zBrF (by simp only [rI]; omega) (by omega) ?_
  refine zCl_e (kgo hk c.1) (by decide) ?_
  refine zBb (P := vTot v.2.1 a = 0) (fun q => ?_) (fun q => absurd (Or.inl q) c2)
  refine zCl_e (kgo hk c.2) (by decide) ?_
  exact zBb (P := vTot v.2.1 b = 0) (fun q2 => ⟨rfl, rfl⟩) (fun q2 => absurd (Or.inr q2) c2)
set_option maxHeartbeats 1000000 in
set_option maxRecDepth 100000 in
theorem kBeats (hk : kVn (K.2 0) v (v.1 4)) {a b : Int} (ha : rI a) (hb : rI b) : zEv X 10 mX10_beats [zR 29, zI a, zI b] (cX S ++ (cM K ++ t)) (kTp S K t (kcd [1, 2]) (pBeats v a b)) := by
  unfold pBeats
  have b1 := hk.1.2.1
  have b2 := hk.1.2.2.1
  have b4 := hk.1.2.2.2.2.1
  have ha1 := ha.1
  have ha2 := ha.2
  have hb1 := hb.1
  have hb2 := hb.2
  by_cases c1 : (0 ≤ a ∧ a < v.1 1) ∧ 0 ≤ b ∧ b < v.1 1
  · rw [if_pos c1]
    by_cases c2 : ¬ (vTot v.2.1 a = 0 ∨ vTot v.2.1 b = 0)
    · rw [if_pos c2]
      refine zEv_run gX10_beats 60 [] rfl ?_
      refine zCl_e (ktf_t hk ha hb c1 c2) (by decide) ?_
      refine zBrT (by first | (simp only [rI]; omega) | (simp only [rL]; omega)) (by omega) ?_
      refine zCl_e (kbt (K := kI K 0 0) hk c1.1 c1.2) (by decide) ?_
      exact ⟨_, kI K 0 0, rfl, rfl, kF_t (kF_r K) (kF_I _ _ (by omega)), hk, rfl, rfl⟩
    · rw [if_neg c2]
      refine zEv_run gX10_beats 60 [] rfl ?_
      refine zCl_e (ktf_2 hk ha hb c1 (Decidable.not_not.mp c2)) (by decide) ?_
      refine zBrF (by first | (simp only [rI]; omega) | (simp only [rL]; omega)) (by omega) ?_
      exact ⟨0, kI K 0 2, rfl, rfl, kF_t (kF_r K) (kF_I _ _ (by omega)), hk, rfl⟩
  · rw [if_neg c1]
    refine zEv_run gX10_beats 60 [] rfl ?_
    refine zCl_e (ktf_1 hk ha hb c1) (by decide) ?_
    refine zBrF (by first | (simp only [rI]; omega) | (simp only [rL]; omega)) (by omega) ?_
    exact ⟨0, kI K 0 1, rfl, rfl, kF_t (kF_r K) (kF_I _ _ (by omega)), hk, rfl⟩
set_option maxHeartbeats 1000000 in
set_option maxRecDepth 100000 in
theorem kTies (hk : kVn (K.2 0) v (v.1 4)) {a b : Int} (ha : rI a) (hb : rI b) : zEv X 10 mX10_ties [zR 29, zI a, zI b] (cX S ++ (cM K ++ t)) (kTp S K t (kcd [1, 2]) (pTies v a b)) := by
  unfold pTies
  have b1 := hk.1.2.1
  have b2 := hk.1.2.2.1
  have b4 := hk.1.2.2.2.2.1
  have ha1 := ha.1
  have ha2 := ha.2
  have hb1 := hb.1
  have hb2 := hb.2
  by_cases c1 : (0 ≤ a ∧ a < v.1 1) ∧ 0 ≤ b ∧ b < v.1 1
  · rw [if_pos c1]
    by_cases c2 : ¬ (vTot v.2.1 a = 0 ∨ vTot v.2.1 b = 0)
    · rw [if_pos c2]
      refine zEv_run gX10_ties 60 [] rfl ?_
      refine zCl_e (ktf_t hk ha hb c1 c2) (by decide) ?_
      refine zBrT (by first | (simp only [rI]; omega) | (simp only [rL]; omega)) (by omega) ?_
      refine zCl_e (ktt (K := kI K 0 0) hk c1.1 c1.2) (by decide) ?_
      exact ⟨_, kI K 0 0, rfl, rfl, kF_t (kF_r K) (kF_I _ _ (by omega)), hk, rfl, rfl⟩
    · rw [if_neg c2]
      refine zEv_run gX10_ties 60 [] rfl ?_
      refine zCl_e (ktf_2 hk ha hb c1 (Decidable.not_not.mp c2)) (by decide) ?_
      refine zBrF (by first | (simp only [rI]; omega) | (simp only [rL]; omega)) (by omega) ?_
      exact ⟨0, kI K 0 2, rfl, rfl, kF_t (kF_r K) (kF_I _ _ (by omega)), hk, rfl⟩
  · rw [if_neg c1]
    refine zEv_run gX10_ties 60 [] rfl ?_
    refine zCl_e (ktf_1 hk ha hb c1) (by decide) ?_
    refine zBrF (by first | (simp only [rI]; omega) | (simp only [rL]; omega)) (by omega) ?_
    exact ⟨0, kI K 0 1, rfl, rfl, kF_t (kF_r K) (kF_I _ _ (by omega)), hk, rfl⟩
set_option maxHeartbeats 1000000 in
set_option maxRecDepth 100000 in
theorem kbe (hk : kVn (K.2 0) v (v.1 4)) {a b : Int} (ha : 0 ≤ a ∧ a < v.1 1) (hb : 0 ≤ b ∧ b < v.1 1) : zEv X 3 mX10_isBetter [zR 29, zI a, zI b] (cX S ++ (cM K ++ t)) (zIs (.inl (some (zI (if vBt v.2.1 b a < vBt v.2.1 a b then 1 else 0)))) (cX S ++ (cM K ++ t))) := by
  have q1 := vBt_b hk.1.2.2.2.2.2.1 a b
  have q2 := vBt_b hk.1.2.2.2.2.2.1 b a
  refine zEv_run gX10_isBetter 60 [] rfl ?_
  refine zCl_e (kbt hk ha hb) (by decide) ?_
  refine zCl_e (kbt hk hb ha) (by decide) ?_
  refine zBr (by simp only [rI]; omega) (fun c => ?_) (fun c => ?_)
  · rw [if_neg (by omega)]
    exact mVc_i (Or.inl rfl) ⟨rfl, rfl⟩
  · rw [if_pos (by omega)]
    exact mVc_i (Or.inr rfl) ⟨rfl, rfl⟩
set_option maxHeartbeats 1000000 in
set_option maxRecDepth 100000 in
theorem kStrongest (hk : kVn (K.2 0) v (v.1 4)) : zEv X 10 mX10_strongest [zR 29] (cX S ++ (cM K ++ t)) (kTp S K t (kcd []) (pStrongest v)) := by
  have b1 := hk.1.2.1
  have b2 := hk.1.2.2.1
  have b4 := hk.1.2.2.2.2.1
  have inner : ∀ (k : Nat) (x y i n j : Int), 0 ≤ i ∧ i < v.1 1 → ¬ vTot v.2.1 i = 0 → 0 ≤ j → j + k = v.1 1 → n = zSum (fun b => if vBt v.2.1 b i < vBt v.2.1 i b then 1 else 0) j → (zWP X mX10_strongest 10 (kTp S K t (kcd []) (pStrongest v)) 86 [some (zR 29), some (zI x), some (zI y), some (zI i), some (zI (vWk v i)), none] [] (cX S ++ (cM (kI K 0 0) ++ t)) 0 0) → zWP X mX10_strongest 10 (kTp S K t (kcd []) (pStrongest v)) 36 [some (zR 29), some (zI x), some (zI y), some (zI i), some (zI n), some (zI j)] [] (cX S ++ (cM (kI K 0 0) ++ t)) 0 0 := by
    intro k
    induction k with
    | zero =>
      intro x y i n j hi hg j0 hk0 hn kk
      refine zWP_run gX10_strongest 80 [36, 86] ?_
      refine zCl_e (kdi (K := kI K 0 0) hk) (by decide) ?_
      refine zBrT (by first | (simp only [rI]; omega) | (simp only [rL]; omega)) (by omega) ?_
      rw [hn, show j = v.1 1 by omega]
      exact zWP_fg kk (by repeat (first | exact trivial | refine ⟨rfl, ?_⟩))
    | succ k ih =>
      intro x y i n j hi hg j0 hk0 hn kk
      have st : ∀ z : Int, z = (if vBt v.2.1 j i < vBt v.2.1 i j then 1 else 0) → zWP X mX10_strongest 10 (kTp S K t (kcd []) (pStrongest v)) 36 [some (zR 29), some (zI x), some (zI y), some (zI i), some (zI (n + z)), some (zI (j + 1))] [] (cX S ++ (cM (kI K 0 0) ++ t)) 0 0 := by
        intro z hz
        exact ih x y i (n + z) (j + 1) hi hg (by omega) (by omega) (by rw [zSum_s j0, ← hn, hz]) kk
      refine zWP_run gX10_strongest 80 [36, 86] ?_
      refine zCl_e (kdi (K := kI K 0 0) hk) (by decide) ?_
      refine zBrF (by first | (simp only [rI]; omega) | (simp only [rL]; omega)) (by omega) ?_
      by_cases e : j = i
      · refine zBrT (by first | (simp only [rI]; omega) | (simp only [rL]; omega)) e ?_
        exact st 0 (by rw [e, if_neg (by omega)])
      · refine zBrF (by first | (simp only [rI]; omega) | (simp only [rL]; omega)) e ?_
        refine zCl_e (kgo (K := kI K 0 0) hk ⟨j0, by omega⟩) (by decide) ?_
        refine zBb (P := vTot v.2.1 j = 0) (fun q => ?_) (fun q => ?_)
        · refine zCl_e (kbe (K := kI K 0 0) hk hi ⟨j0, by omega⟩) (by decide) ?_
          refine zBb (P := vBt v.2.1 j i < vBt v.2.1 i j) (fun q2 => ?_) (fun q2 => ?_)
          · exact st 0 (by rw [if_neg q2])
          · exact st 1 (by rw [if_pos q2])
        · have e1 := vBt_g hk.1.2.2.2.2.2.1 (a := i) (b := j) (Or.inr q)
          have e2 := vBt_g hk.1.2.2.2.2.2.1 (a := j) (b := i) (Or.inl q)
          exact st 0 (by rw [e1, e2, if_neg (by omega)])
  have outer : ∀ (k : Nat) (x y i : Int), 0 ≤ i → i + k = v.1 1 → x = (zIt (fun d x => if ¬ vTot v.2.1 d = 0 ∧ x.2 < vWk v d then (d, vWk v d) else x) (-1, -1) i).1 → (x = -1 → (zIt (fun d x => if ¬ vTot v.2.1 d = 0 ∧ x.2 < vWk v d then (d, vWk v d) else x) (-1, -1) i).2 = -1) → (x ≠ -1 → y = (zIt (fun d x => if ¬ vTot v.2.1 d = 0 ∧ x.2 < vWk v d then (d, vWk v d) else x) (-1, -1) i).2) → -1 ≤ x ∧ x ≤ 5 → 0 ≤ y ∧ y ≤ 5 → zWP X mX10_strongest 10 (kTp S K t (kcd []) (pStrongest v)) 11 [some (zR 29), some (zI x), some (zI y), some (zI i), none, none] [] (cX S ++ (cM (kI K 0 0) ++ t)) 0 0 := by
    intro k
    induction k with
    | zero =>
      intro x y i i0 hk0 hx h1 h2 bx by0
      refine zWP_run gX10_strongest 80 [11, 36] ?_
      refine zCl_e (kdi (K := kI K 0 0) hk) (by decide) ?_
      refine zBrT (by first | (simp only [rI]; omega) | (simp only [rL]; omega)) (by omega) ?_
      refine ⟨x, kI K 0 0, rfl, rfl, kF_t (kF_r K) (kF_I _ _ (by omega)), hk, ?_, rfl⟩
      rw [hx, show i = v.1 1 by omega]
      rfl
    | succ k ih =>
      intro x y i i0 hk0 hx h1 h2 bx by0
      have hw := vWk_b hk.1 i
      have st0 : ¬ (¬ vTot v.2.1 i = 0 ∧ (zIt (fun d x => if ¬ vTot v.2.1 d = 0 ∧ x.2 < vWk v d then (d, vWk v d) else x) (-1, -1) i).2 < vWk v i) → zWP X mX10_strongest 10 (kTp S K t (kcd []) (pStrongest v)) 11 [some (zR 29), some (zI x), some (zI y), some (zI (i + 1)), none, none] [] (cX S ++ (cM (kI K 0 0) ++ t)) 0 0 := by
        intro q
        have e : zIt (fun d x => if ¬ vTot v.2.1 d = 0 ∧ x.2 < vWk v d then (d, vWk v d) else x) (-1, -1) (i + 1) = (zIt (fun d x => if ¬ vTot v.2.1 d = 0 ∧ x.2 < vWk v d then (d, vWk v d) else x) (-1, -1) i) := by rw [zIt_s _ _ i0, if_neg q]
        exact ih x y (i + 1) (by omega) (by omega) (by rw [e]; exact hx) (by rw [e]; exact h1) (by rw [e]; exact h2) bx by0
      have st1 : (¬ vTot v.2.1 i = 0 ∧ (zIt (fun d x => if ¬ vTot v.2.1 d = 0 ∧ x.2 < vWk v d then (d, vWk v d) else x) (-1, -1) i).2 < vWk v i) → zWP X mX10_strongest 10 (kTp S K t (kcd []) (pStrongest v)) 11 [some (zR 29), some (zI i), some (zI (vWk v i)), some (zI (i + 1)), none, none] [] (cX S ++ (cM (kI K 0 0) ++ t)) 0 0 := by
        intro q
        have e : zIt (fun d x => if ¬ vTot v.2.1 d = 0 ∧ x.2 < vWk v d then (d, vWk v d) else x) (-1, -1) (i + 1) = (i, vWk v i) := by rw [zIt_s _ _ i0, if_pos q]
        exact ih i (vWk v i) (i + 1) (by omega) (by omega) (by rw [e]) (fun z => by omega) (fun _ => by rw [e]) (by omega) hw
      refine zWP_run gX10_strongest 80 [11, 36] ?_
      refine zCl_e (kdi (K := kI K 0 0) hk) (by decide) ?_
      refine zBrF (by first | (simp only [rI]; omega) | (simp only [rL]; omega)) (by omega) ?_
      refine zCl_e (kgo (K := kI K 0 0) hk ⟨i0, by omega⟩) (by decide) ?_
      refine zBb (P := vTot v.2.1 i = 0) (fun q => ?_) (fun q => ?_)
      · refine inner (v.1 1).toNat x y i 0 0 ⟨i0, by omega⟩ q (by omega) (by omega) rfl ?_
        refine zWP_run gX10_strongest 80 [11] ?_
        by_cases ex : x = -1
        · refine zBrT (by first | (simp only [rI]; omega) | (simp only [rL]; omega)) ex ?_
          exact zWP_fg (st1 ⟨q, by rw [h1 ex]; omega⟩) (by repeat (first | exact trivial | refine ⟨rfl, ?_⟩))
        · refine zBrF (by first | (simp only [rI]; omega) | (simp only [rL]; omega)) ex ?_
          have e2 := h2 ex
          refine zBr (by first | (simp only [rI]; omega) | (simp only [rL]; omega)) (fun q2 => ?_) (fun q2 => ?_)
          · exact zWP_fg (st1 ⟨q, by omega⟩) (by repeat (first | exact trivial | refine ⟨rfl, ?_⟩))
          · exact zWP_fg (st0 (fun z => by have := z.2; omega)) (by repeat (first | exact trivial | refine ⟨rfl, ?_⟩))
      · exact zWP_fg (st0 (fun z => z.1 q)) (by repeat (first | exact trivial | refine ⟨rfl, ?_⟩))
  refine zEv_run gX10_strongest 80 [11] rfl ?_
  exact outer (v.1 1).toNat (-1) 0 0 (by omega) (by omega) rfl (fun _ => rfl) (fun q => absurd rfl q) (by omega) (by omega)
set_option maxHeartbeats 1000000 in
set_option maxRecDepth 100000 in
theorem kri (hk : kVn (K.2 0) v (v.1 4)) {a b c : Int} (ha : 0 ≤ a ∧ a < v.1 1) (hb : 0 ≤ b ∧ b < v.1 1) (hc : 0 ≤ c ∧ c < v.1 1) : zEv X 4 mX10_isRing [zR 29, zI a, zI b, zI c] (cX S ++ (cM K ++ t)) (zIs (.inl (some (zI (if vBt v.2.1 b a < vBt v.2.1 a b ∧ vBt v.2.1 c b < vBt v.2.1 b c ∧ vBt v.2.1 a c < vBt v.2.1 c a then 1 else 0)))) (cX S ++ (cM K ++ t))) := by
  have b1 := hk.1.2.1
  have b2 := hk.1.2.2.1
  have b4 := hk.1.2.2.2.2.1
  have hs := hk.1.2.2.2.2.2.1
  refine zEv_run gX10_isRing 80 [] rfl ?_
  by_cases e : b = c
  · refine zBrT (by first | (simp only [rI]; omega) | (simp only [rL]; omega)) e ?_
    exact mVc_i (Or.inl rfl) ⟨by rw [if_neg (fun z => by have := z.2.1; rw [e] at this; omega)], rfl⟩
  refine zBrF (by first | (simp only [rI]; omega) | (simp only [rL]; omega)) e ?_
  refine zCl_e (kgo hk ha) (by decide) ?_
  refine zBb (P := vTot v.2.1 a = 0) (fun g1 => ?_) (fun g1 => ?_)
  rotate_left
  · have z1 := vBt_g hs (a := a) (b := b) (Or.inl g1)
    have z2 := vBt_b hs b a
    exact mVc_i (Or.inl rfl) ⟨by rw [if_neg (fun z => by have := z.1; omega)], rfl⟩
  refine zCl_e (kgo hk hb) (by decide) ?_
  refine zBb (P := vTot v.2.1 b = 0) (fun g2 => ?_) (fun g2 => ?_)
  rotate_left
  · have z1 := vBt_g hs (a := a) (b := b) (Or.inr g2)
    have z2 := vBt_b hs b a
    exact mVc_i (Or.inl rfl) ⟨by rw [if_neg (fun z => by have := z.1; omega)], rfl⟩
  refine zCl_e (kgo hk hc) (by decide) ?_
  refine zBb (P := vTot v.2.1 c = 0) (fun g3 => ?_) (fun g3 => ?_)
  rotate_left
  · have z1 := vBt_g hs (a := b) (b := c) (Or.inr g3)
    have z2 := vBt_b hs c b
    exact mVc_i (Or.inl rfl) ⟨by rw [if_neg (fun z => by have := z.2.1; omega)], rfl⟩
  refine zCl_e (kbe hk ha hb) (by decide) ?_
  refine zBb (P := vBt v.2.1 b a < vBt v.2.1 a b) (fun d1 => ?_) (fun d1 => ?_)
  · exact mVc_i (Or.inl rfl) ⟨by rw [if_neg (fun z => d1 z.1)], rfl⟩
  refine zCl_e (kbe hk hb hc) (by decide) ?_
  refine zBb (P := vBt v.2.1 c b < vBt v.2.1 b c) (fun d2 => ?_) (fun d2 => ?_)
  · exact mVc_i (Or.inl rfl) ⟨by rw [if_neg (fun z => d2 z.2.1)], rfl⟩
  refine zCl_e (kbe hk hc ha) (by decide) ?_
  refine zBb (P := vBt v.2.1 a c < vBt v.2.1 c a) (fun d3 => ?_) (fun d3 => ?_)
  · exact mVc_i (Or.inl rfl) ⟨by rw [if_neg (fun z => d3 z.2.2)], rfl⟩
  · exact mVc_i (Or.inr rfl) ⟨by rw [if_pos ⟨d1, d2, d3⟩], rfl⟩
set_option maxHeartbeats 1000000 in
set_option maxRecDepth 100000 in
theorem kRing (hk : kVn (K.2 0) v (v.1 4)) {y : Int} (hy : rI y) : zEv X 10 mX10_ring [zR 29, zI y] (cX S ++ (cM K ++ t)) (kTp S K t (kcd []) (pRing v y)) := by
  have b1 := hk.1.2.1
  have b2 := hk.1.2.2.1
  have b4 := hk.1.2.2.2.2.1
  have hy1 := hy.1
  have hy2 := hy.2
  have l3 : ∀ (k : Nat) (a b c n : Int) (fin : Int → Int), 0 ≤ a → a < v.1 1 → 0 ≤ b → b < v.1 1 → 0 ≤ c → c + k = v.1 1 → 0 ≤ n → n ≤ 25 * a + 5 * b + c → (∀ z, 0 ≤ z → z ≤ 25 * a + 5 * (b + 1) → zWP X mX10_ring 10 (kTp S K t (kcd []) (.inl (fin z), v)) 22 [some (zR 29), some (zI y), some (zI z), some (zI a), some (zI (b + 1)), none] [] (cX S ++ (cM (kI K 0 0) ++ t)) 0 0) → zWP X mX10_ring 10 (kTp S K t (kcd []) (.inl (vC3 v y a b k c n fin), v)) 36 [some (zR 29), some (zI y), some (zI n), some (zI a), some (zI b), some (zI c)] [] (cX S ++ (cM (kI K 0 0) ++ t)) 0 0 := by
    intro k
    induction k with
    | zero =>
      intro a b c n fin a0 a1 b0 b1 c0 hk0 n0 n1 hf
      refine zWP_run gX10_ring 60 [22, 36] ?_
      refine zCl_e (kdi (K := kI K 0 0) hk) (by decide) ?_
      refine zBrT (by first | (simp only [rI]; omega) | (simp only [rL]; omega)) (by omega) ?_
      exact zWP_fg (hf n n0 (by omega)) (by repeat (first | exact trivial | refine ⟨rfl, ?_⟩))
    | succ k ih =>
      intro a b c n fin a0 a1 b0 b1 c0 hk0 n0 n1 hf
      refine zWP_run gX10_ring 60 [22, 36] ?_
      refine zCl_e (kdi (K := kI K 0 0) hk) (by decide) ?_
      refine zBrF (by first | (simp only [rI]; omega) | (simp only [rL]; omega)) (by omega) ?_
      refine zCl_e (kri (K := kI K 0 0) hk ⟨a0, a1⟩ ⟨b0, b1⟩ ⟨c0, by omega⟩) (by decide) ?_
      simp only [vC3]
      refine zBb (P := vBt v.2.1 b a < vBt v.2.1 a b ∧ vBt v.2.1 c b < vBt v.2.1 b c ∧ vBt v.2.1 a c < vBt v.2.1 c a) (fun q => ?_) (fun q => ?_)
      · rw [if_neg q]
        exact ih a b (c + 1) n fin a0 a1 b0 b1 (by omega) (by omega) n0 (by omega) hf
      · rw [if_pos q]
        refine zBr ⟨by simp only [rI]; omega, hy⟩ (fun d4 => ?_) (fun d4 => ?_)
        · rw [if_pos d4]
          exact ⟨_, kI K 0 0, rfl, rfl, kF_t (kF_r K) (kF_I _ _ (by omega)), hk, rfl, rfl⟩
        · rw [if_neg d4]
          exact ih a b (c + 1) (n + 1) fin a0 a1 b0 b1 (by omega) (by omega) (by omega) (by omega) hf
  have l2 : ∀ (k : Nat) (a b n : Int) (fin : Int → Int), 0 ≤ a → a < v.1 1 → 0 ≤ b → b + k = v.1 1 → 0 ≤ n → n ≤ 25 * a + 5 * b → (∀ z, 0 ≤ z → z ≤ 25 * (a + 1) → zWP X mX10_ring 10 (kTp S K t (kcd []) (.inl (fin z), v)) 9 [some (zR 29), some (zI y), some (zI z), some (zI (a + 1)), none, none] [] (cX S ++ (cM (kI K 0 0) ++ t)) 0 0) → zWP X mX10_ring 10 (kTp S K t (kcd []) (.inl (vC2 v y a k b n fin), v)) 22 [some (zR 29), some (zI y), some (zI n), some (zI a), some (zI b), none] [] (cX S ++ (cM (kI K 0 0) ++ t)) 0 0 := by
    intro k
    induction k with
    | zero =>
      intro a b n fin a0 a1 b0 hk0 n0 n1 hf
      refine zWP_run gX10_ring 60 [9, 22, 36] ?_
      refine zCl_e (kdi (K := kI K 0 0) hk) (by decide) ?_
      refine zBrT (by first | (simp only [rI]; omega) | (simp only [rL]; omega)) (by omega) ?_
      exact zWP_fg (hf n n0 (by omega)) (by repeat (first | exact trivial | refine ⟨rfl, ?_⟩))
    | succ k ih =>
      intro a b n fin a0 a1 b0 hk0 n0 n1 hf
      refine zWP_run gX10_ring 60 [9, 22, 36] ?_
      refine zCl_e (kdi (K := kI K 0 0) hk) (by decide) ?_
      refine zBrF (by first | (simp only [rI]; omega) | (simp only [rL]; omega)) (by omega) ?_
      exact l3 _ a b (a + 1) n _ a0 a1 b0 (by omega) (by omega) (by omega) n0 (by omega) (fun z z0 z1 => ih a (b + 1) z fin a0 a1 (by omega) (by omega) z0 (by omega) hf)
  have l1 : ∀ (k : Nat) (a n : Int), 0 ≤ a → a + k = v.1 1 → 0 ≤ n → n ≤ 25 * a → zWP X mX10_ring 10 (kTp S K t (kcd []) (.inl (vC1 v y k a n), v)) 9 [some (zR 29), some (zI y), some (zI n), some (zI a), none, none] [] (cX S ++ (cM (kI K 0 0) ++ t)) 0 0 := by
    intro k
    induction k with
    | zero =>
      intro a n a0 hk0 n0 n1
      refine zWP_run gX10_ring 60 [9, 22, 36] ?_
      refine zCl_e (kdi (K := kI K 0 0) hk) (by decide) ?_
      refine zBrT (by first | (simp only [rI]; omega) | (simp only [rL]; omega)) (by omega) ?_
      simp only [vC1]
      refine zBr ⟨hy, by simp only [rI]; omega⟩ (fun c => ?_) (fun c => ?_)
      · rw [if_pos c]
        exact ⟨_, kI K 0 0, rfl, rfl, kF_t (kF_r K) (kF_I _ _ (by omega)), hk, rfl, rfl⟩
      · rw [if_neg c]
        exact ⟨_, kI K 0 0, rfl, rfl, kF_t (kF_r K) (kF_I _ _ (by omega)), hk, rfl, rfl⟩
    | succ k ih =>
      intro a n a0 hk0 n0 n1
      refine zWP_run gX10_ring 60 [9, 22, 36] ?_
      refine zCl_e (kdi (K := kI K 0 0) hk) (by decide) ?_
      refine zBrF (by first | (simp only [rI]; omega) | (simp only [rL]; omega)) (by omega) ?_
      exact l2 _ a (a + 1) n _ a0 (by omega) (by omega) (by omega) n0 (by omega) (fun z z0 z1 => ih (a + 1) z (by omega) (by omega) z0 (by omega))
  refine zEv_run gX10_ring 60 [9] rfl ?_
  exact l1 (v.1 1).toNat 0 0 (by omega) (by omega) (by omega) (by omega)
set_option maxHeartbeats 1000000 in
set_option maxRecDepth 100000 in
theorem kEvenest (hk : kVn (K.2 0) v (v.1 4)) : zEv X 10 mX10_evenest [zR 29] (cX S ++ (cM K ++ t)) (kTp S K t (kcd []) (pEvenest v)) := by
  have b1 := hk.1.2.1
  have b2 := hk.1.2.2.1
  have b4 := hk.1.2.2.2.2.1
  have hs := hk.1.2.2.2.2.2.1
  have l2 : ∀ (k ka : Nat) (a b x y z : Int), 0 ≤ a → a < v.1 1 → 0 ≤ b → b + k = v.1 1 → -1 ≤ x ∧ x ≤ 100 → 0 ≤ y ∧ y ≤ 6000 → 0 ≤ z ∧ z ≤ 14400 → (∀ x y z : Int, -1 ≤ x ∧ x ≤ 100 → 0 ≤ y ∧ y ≤ 6000 → 0 ≤ z ∧ z ≤ 14400 → zWP X mX10_evenest 10 (kTp S K t (kcd []) (.inl ((vE0 v ka (a + 1) (x, y, z)).1), v)) 15 [some (zR 29), some (zI x), some (zJ y), none, some (zJ z), none, some (zI (a + 1)), none, none, none, none, none] [] (cX S ++ (cM (kI K 0 0) ++ t)) 0 0) → zWP X mX10_evenest 10 (kTp S K t (kcd []) (.inl ((vE0 v ka (a + 1) (vE2 v a k b (x, y, z))).1), v)) 30 [some (zR 29), some (zI x), some (zJ y), none, some (zJ z), none, some (zI a), some (zI b), none, none, none, none] [] (cX S ++ (cM (kI K 0 0) ++ t)) 0 0 := by
    intro k
    induction k with
    | zero =>
      intro ka a b x y z a0 a1 b0 hk0 hx hy hz hf
      refine zWP_run gX10_evenest 80 [15, 30] ?_
      refine zCl_e (kdi (K := kI K 0 0) hk) (by decide) ?_
      refine zBrT (by first | (simp only [rI]; omega) | (simp only [rL]; omega)) (by omega) ?_
      exact zWP_fg (hf x y z hx hy hz) (by repeat (first | exact trivial | refine ⟨rfl, ?_⟩))
    | succ k ih =>
      intro ka a b x y z a0 a1 b0 hk0 hx hy hz hf
      have ta := vTot_b hs a
      have tb := vTot_b hs b
      have q1 := vBt_b hs a b
      have q2 := vBt_b hs b a
      have tp := mul_b ta tb
      have ab : 0 ≤ vAb (vBt v.2.1 a b - vBt v.2.1 b a) ∧ vAb (vBt v.2.1 a b - vBt v.2.1 b a) ≤ 6000 := by simp only [vAb]; omega
      have m1 := mul_b ab hz
      have m2 := mul_b hy tp
      simp only [vE2]
      have st0 : ¬ (0 < (vTot v.2.1 a * vTot v.2.1 b) ∧ (x = -1 ∨ vAb (vBt v.2.1 a b - vBt v.2.1 b a) * z < y * (vTot v.2.1 a * vTot v.2.1 b))) → zWP X mX10_evenest 10 (kTp S K t (kcd []) (.inl ((vE0 v ka (a + 1) (vE2 v a k (b + 1) (vE1 v a b (x, y, z)))).1), v)) 30 [some (zR 29), some (zI x), some (zJ y), none, some (zJ z), none, some (zI a), some (zI (b + 1)), none, none, none, none] [] (cX S ++ (cM (kI K 0 0) ++ t)) 0 0 := by
        intro q
        have e : vE1 v a b (x, y, z) = (x, y, z) := by rw [vE1, if_neg q]
        rw [e]
        exact ih ka a (b + 1) x y z a0 a1 (by omega) (by omega) hx hy hz hf
      have st1 : (0 < (vTot v.2.1 a * vTot v.2.1 b) ∧ (x = -1 ∨ vAb (vBt v.2.1 a b - vBt v.2.1 b a) * z < y * (vTot v.2.1 a * vTot v.2.1 b))) → zWP X mX10_evenest 10 (kTp S K t (kcd []) (.inl ((vE0 v ka (a + 1) (vE2 v a k (b + 1) (vE1 v a b (x, y, z)))).1), v)) 30 [some (zR 29), some (zI (10 * a + b)), some (zJ (vAb (vBt v.2.1 a b - vBt v.2.1 b a))), none, some (zJ (vTot v.2.1 a * vTot v.2.1 b)), none, some (zI a), some (zI (b + 1)), none, none, none, none] [] (cX S ++ (cM (kI K 0 0) ++ t)) 0 0 := by
        intro q
        have e : vE1 v a b (x, y, z) = (10 * a + b, vAb (vBt v.2.1 a b - vBt v.2.1 b a), (vTot v.2.1 a * vTot v.2.1 b)) := by rw [vE1, if_pos q]
        rw [e]
        exact ih ka a (b + 1) _ _ _ a0 a1 (by omega) (by omega) (by omega) ab (by omega) hf
      refine zWP_run gX10_evenest 120 [15, 30] ?_
      refine zCl_e (kdi (K := kI K 0 0) hk) (by decide) ?_
      refine zBrF (by first | (simp only [rI]; omega) | (simp only [rL]; omega)) (by omega) ?_
      refine zCl_e (kgo (K := kI K 0 0) hk ⟨a0, a1⟩) (by decide) ?_
      refine zBb (P := vTot v.2.1 a = 0) (fun g1 => ?_) (fun g1 => ?_)
      rotate_left
      · exact st0 (fun q => by rw [g1, Int.zero_mul] at q; omega)
      refine zCl_e (kgo (K := kI K 0 0) hk ⟨b0, by omega⟩) (by decide) ?_
      refine zBb (P := vTot v.2.1 b = 0) (fun g2 => ?_) (fun g2 => ?_)
      rotate_left
      · exact st0 (fun q => by rw [g2, Int.mul_zero] at q; omega)
      have tpp : 0 < (vTot v.2.1 a * vTot v.2.1 b) := Int.mul_pos (by omega) (by omega)
      refine zCl_e (kbt (K := kI K 0 0) hk ⟨a0, a1⟩ ⟨b0, by omega⟩) (by decide) ?_
      refine zCl_e (kbt (K := kI K 0 0) hk ⟨b0, by omega⟩ ⟨a0, a1⟩) (by decide) ?_
      refine mVc_i (by simp only [rI]; omega) ?_
      refine mVc_i (by show rI (vAb (vBt v.2.1 a b - vBt v.2.1 b a)); simp only [rI]; omega) ?_
      refine zCl_e (kto (K := kI K 0 0) hk ⟨a0, a1⟩) (by decide) ?_
      refine zCl_e (kto (K := kI K 0 0) hk ⟨b0, by omega⟩) (by decide) ?_
      refine mVc_i (by simp only [rI]; omega) ?_
      refine zBr (by first | (simp only [rI]; omega) | (simp only [rL]; omega)) (fun q3 => ?_) (fun q3 => ?_)
      · exact zWP_fg (st1 ⟨tpp, Or.inl q3⟩) (by repeat (first | exact trivial | refine ⟨rfl, ?_⟩))
      · refine zBr ?_ (fun q4 => ?_) (fun q4 => ?_)
        · show rL (vAb (vBt v.2.1 a b - vBt v.2.1 b a) * z) ∧ rL (y * (vTot v.2.1 a * vTot v.2.1 b))
          simp only [rL]
          omega
        · exact zWP_fg (st1 ⟨tpp, Or.inr q4⟩) (by repeat (first | exact trivial | refine ⟨rfl, ?_⟩))
        · exact zWP_fg (st0 (fun q => by rcases q.2 with q | q; exact q3 q; exact q4 q)) (by repeat (first | exact trivial | refine ⟨rfl, ?_⟩))
  have l1 : ∀ (k : Nat) (a x y z : Int), 0 ≤ a → a + k = v.1 1 → -1 ≤ x ∧ x ≤ 100 → 0 ≤ y ∧ y ≤ 6000 → 0 ≤ z ∧ z ≤ 14400 → zWP X mX10_evenest 10 (kTp S K t (kcd []) (.inl ((vE0 v k a (x, y, z)).1), v)) 15 [some (zR 29), some (zI x), some (zJ y), none, some (zJ z), none, some (zI a), none, none, none, none, none] [] (cX S ++ (cM (kI K 0 0) ++ t)) 0 0 := by
    intro k
    induction k with
    | zero =>
      intro a x y z a0 hk0 hx hy hz
      refine zWP_run gX10_evenest 80 [15, 30] ?_
      refine zCl_e (kdi (K := kI K 0 0) hk) (by decide) ?_
      refine zBrT (by first | (simp only [rI]; omega) | (simp only [rL]; omega)) (by omega) ?_
      exact ⟨_, kI K 0 0, rfl, rfl, kF_t (kF_r K) (kF_I _ _ (by omega)), hk, rfl, rfl⟩
    | succ k ih =>
      intro a x y z a0 hk0 hx hy hz
      refine zWP_run gX10_evenest 80 [15, 30] ?_
      refine zCl_e (kdi (K := kI K 0 0) hk) (by decide) ?_
      refine zBrF (by first | (simp only [rI]; omega) | (simp only [rL]; omega)) (by omega) ?_
      exact zWP_fg (l2 (v.1 1 - (a + 1)).toNat k a (a + 1) x y z a0 (by omega) (by omega) (by omega) hx hy hz (fun x y z hx hy hz => ih (a + 1) x y z (by omega) (by omega) hx hy hz)) (by repeat (first | exact trivial | refine ⟨rfl, ?_⟩))
  refine zEv_run gX10_evenest 80 [15] rfl ?_
  exact l1 (v.1 1).toNat 0 (-1) 0 1 (by omega) (by omega) (by omega) (by omega) (by omega)
set_option maxHeartbeats 1000000 in
set_option maxRecDepth 100000 in
theorem kgm {w e l : Int} : ∀ (k : Nat) (a : Int), k ≤ 8 → -10 ≤ a - k ∧ a + k ≤ 10 → zEv X (1 + k) mX10_games [zR 29, zI k, zI a, zJ w, zJ l, zJ e] (cX S ++ (cM K ++ t)) (zIs (.inl (some (zJ (vLe w e l k a)))) (cX S ++ (cM K ++ t))) := by
  intro k
  induction k with
  | zero =>
    intro a k8 ha
    refine zEv_run gX10_games 80 [] rfl ?_
    refine zBrT (by simp only [rI]; omega) (by omega) ?_
    simp only [vLe]
    refine zBr (by simp only [rI]; omega) (fun c => ?_) (fun c => ?_)
    · rw [if_neg (by omega)]
      exact ⟨rfl, rfl⟩
    · rw [if_pos (by omega)]
      exact ⟨rfl, rfl⟩
  | succ k ih =>
    intro a k8 ha
    have ek : ((k + 1 : Nat) : Int) - 1 = (k : Int) := by omega
    have c1 := ih (a + 1) (by omega) (by omega)
    have c2 := ih (a - 1) (by omega) (by omega)
    have c3 := ih a (by omega) (by omega)
    rw [← ek] at c1 c2 c3
    refine zEv_run gX10_games 80 [] rfl ?_
    refine zBrF (by simp only [rI]; omega) (by omega) ?_
    refine zCl_e c1 (by omega) ?_
    refine zCl_e c2 (by omega) ?_
    refine zCl_e c3 (by omega) ?_
    simp only [vLe]
    refine ⟨?_, rfl⟩
    rw [Int.add_right_comm]
set_option maxHeartbeats 1000000 in
set_option maxRecDepth 100000 in
theorem kSeries (hk : kVn (K.2 0) v (v.1 4)) {a b n : Int} (ha : rI a) (hb : rI b) (hn : rI n) : zEv X 10 mX10_series [zR 29, zI a, zI b, zI n] (cX S ++ (cM K ++ t)) (kTq S K t (kcd [1, 2, 0]) (pSeries v a b n)) := by
  unfold pSeries
  have b1 := hk.1.2.1
  have b2 := hk.1.2.2.1
  have b4 := hk.1.2.2.2.2.1
  have ha1 := ha.1
  have ha2 := ha.2
  have hb1 := hb.1
  have hb2 := hb.2
  have hn1 := hn.1
  have hn2 := hn.2
  by_cases c1 : (0 ≤ a ∧ a < v.1 1) ∧ 0 ≤ b ∧ b < v.1 1
  · rw [if_pos c1]
    by_cases c2 : ¬ (vTot v.2.1 a = 0 ∨ vTot v.2.1 b = 0)
    · rw [if_pos c2]
      by_cases c3 : 1 ≤ n ∧ n ≤ 3
      · rw [if_pos c3]
        have z1 := vBt_b hk.1.2.2.2.2.2.1 a b
        have z2 := vBt_b hk.1.2.2.2.2.2.1 b a
        have z3 := vTi_b hk.1.2.2.2.2.2.1 a b
        have k9 := kgm (X := X) (S := S) (K := kI K 0 0) (t := t) (w := vBt v.2.1 a b) (e := vTi v.2.1 a b) (l := vBt v.2.1 b a) n.toNat 0 (by omega) (by omega)
        rw [show ((n.toNat : Nat) : Int) = n by omega] at k9
        refine zEv_run gX10_series 80 [] rfl ?_
        refine zCl_e (ktf_t hk ha hb c1 c2) (by decide) ?_
        refine zBrT (by first | (simp only [rI]; omega) | (simp only [rL]; omega)) (by omega) ?_
        refine mVc_i (by first | omega | (simp only [rI]; omega) | (simp only [rL]; omega)) ?_
        refine zCl_e (kwi_t (by simp only [rL]; omega) (by simp only [rL]; omega) (by simp only [rL]; omega) (by omega)) (by decide) ?_
        refine zBrF (by first | (simp only [rI]; omega) | (simp only [rL]; omega)) (by omega) ?_
        refine zBrT (by first | (simp only [rI]; omega) | (simp only [rL]; omega)) (by omega) ?_
        refine zCl_e (kbt (K := kI K 0 0) hk c1.1 c1.2) (by decide) ?_
        refine mVc_i (by first | omega | (simp only [rI]; omega) | (simp only [rL]; omega)) ?_
        refine zCl_e (kbt (K := kI K 0 0) hk c1.2 c1.1) (by decide) ?_
        refine mVc_i (by first | omega | (simp only [rI]; omega) | (simp only [rL]; omega)) ?_
        refine zCl_e (ktt (K := kI K 0 0) hk c1.1 c1.2) (by decide) ?_
        refine mVc_i (by first | omega | (simp only [rI]; omega) | (simp only [rL]; omega)) ?_
        refine zCl_e k9 (by omega) ?_
        exact ⟨_, kI K 0 0, rfl, rfl, kF_t (kF_r K) (kF_I _ _ (by omega)), hk, rfl, rfl⟩
      · rw [if_neg c3]
        refine zEv_run gX10_series 80 [] rfl ?_
        refine zCl_e (ktf_t hk ha hb c1 c2) (by decide) ?_
        refine zBrT (by first | (simp only [rI]; omega) | (simp only [rL]; omega)) (by omega) ?_
        refine mVc_i (by first | omega | (simp only [rI]; omega) | (simp only [rL]; omega)) ?_
        refine zCl_e (kwi_f (by simp only [rL]; omega) (by simp only [rL]; omega) (by simp only [rL]; omega) (by omega)) (by decide) ?_
        refine zBrT (by first | (simp only [rI]; omega) | (simp only [rL]; omega)) (by omega) ?_
        refine zBrF (by first | (simp only [rI]; omega) | (simp only [rL]; omega)) (by omega) ?_
        exact ⟨0, kI (kI K 0 0) 0 3, rfl, rfl, kF_t (kF_t (kF_r K) (kF_I _ _ (by omega))) (kF_I _ _ (by omega)), hk, rfl⟩
    · rw [if_neg c2]
      refine zEv_run gX10_series 80 [] rfl ?_
      refine zCl_e (ktf_2 hk ha hb c1 (Decidable.not_not.mp c2)) (by decide) ?_
      refine zBrF (by first | (simp only [rI]; omega) | (simp only [rL]; omega)) (by omega) ?_
      refine zBrF (by first | (simp only [rI]; omega) | (simp only [rL]; omega)) (by omega) ?_
      exact ⟨0, kI K 0 2, rfl, rfl, kF_t (kF_r K) (kF_I _ _ (by omega)), hk, rfl⟩
  · rw [if_neg c1]
    refine zEv_run gX10_series 80 [] rfl ?_
    refine zCl_e (ktf_1 hk ha hb c1) (by decide) ?_
    refine zBrF (by first | (simp only [rI]; omega) | (simp only [rL]; omega)) (by omega) ?_
    refine zBrF (by first | (simp only [rI]; omega) | (simp only [rL]; omega)) (by omega) ?_
    exact ⟨0, kI K 0 1, rfl, rfl, kF_t (kF_r K) (kF_I _ _ (by omega)), hk, rfl⟩
end Mdla
