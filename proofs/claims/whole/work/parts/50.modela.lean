/-! the reference: trays of faces -/
/-- the trays as the reference holds them -/
def kTr (K : kK) (T : tT) : Prop := tB T ∧ ∀ j : Int, 0 ≤ j → j < 4 → K.2 12 j.toNat = (T j).1 ∧ K.2 13 j.toNat = (T j).2.1 ∧ ∀ k : Int, 0 ≤ k → k < 30 → K.2 14 (30 * j + k).toNat = (T j).2.2 k.toNat
theorem kTr_F {K R : kK} {T : tT} (h : kF K R) (k : kTr K T) : kTr R T := by
  refine ⟨k.1, fun j j0 j1 => ?_⟩
  rw [h.2 12 (by omega), h.2 13 (by omega), h.2 14 (by omega)]
  exact k.2 j j0 j1
theorem tAll_n {f : Nat → Int} : ∀ (k : Nat) (i j : Int), i ≤ j → j < i + k → ¬ (1 ≤ f j.toNat ∧ f j.toNat ≤ 6) → ¬ tAll f k i = 1 := by
  intro k i j h0 h1 hn hq
  exact hn (tAll_f hq j h0 h1)
theorem tAll_y {f : Nat → Int} : ∀ (k : Nat) (i : Int), (∀ j : Int, i ≤ j → j < i + k → 1 ≤ f j.toNat ∧ f j.toNat ≤ 6) → tAll f k i = 1 := by
  intro k
  induction k with
  | zero => intro i _; rfl
  | succ k ih =>
    intro i h
    have h1 := h i (by omega) (by omega)
    simp only [tAll]
    rw [if_pos h1]
    exact ih (i + 1) (fun j j0 j1 => h j (by omega) (by omega))
theorem vWy_g {v : vV} (h : vVb v) {num : Nat → Int} {d mn : Int} (hm : 1 ≤ mn) (hf : ∀ i : Int, 0 ≤ i → i < mn → 1 ≤ num i.toNat ∧ num i.toNat ≤ 6) (ht : vTot v.2.1 d = 0) : vWy v num d mn = 0 ∧ vTot v.2.1 d ^ mn.toNat = 0 := by
  obtain ⟨e1, e2, e3, e4, e5, e6⟩ := vTot_0 h.2.2.2.2.2.1 ht
  have hz : ∀ f, 1 ≤ f ∧ f ≤ 6 → v.2.1.1 d f = 0 := by
    intro f hf
    have : f = 1 ∨ f = 2 ∨ f = 3 ∨ f = 4 ∨ f = 5 ∨ f = 6 := by omega
    rcases this with rfl | rfl | rfl | rfl | rfl | rfl <;> assumption
  refine ⟨?_, ?_⟩
  · have e := vWy_s v num d (i := mn - 1) (by omega)
    rw [show mn - 1 + 1 = mn by omega, hz _ (hf (mn - 1) (by omega) (by omega)), Int.mul_zero] at e
    exact e
  · rw [ht, show mn.toNat = (mn - 1).toNat + 1 by omega, Int.pow_succ, Int.mul_zero]
section Mdld
variable {X : mX} {S : sS} {K : kK} {t : zH} {v : vV} {T : tT}
set_option maxHeartbeats 1000000 in
set_option maxRecDepth 100000 in
theorem kit_t {x : Int} (hx : rI x) (c : 0 ≤ x ∧ x ≤ 3) {h : zH} : zEv X 2 mX10_isTray [zI x] (h) (zIs (.inl (some (zI 1))) h) := by
  have hx1 := hx.1
  have hx2 := hx.2
  refine zEv_run gX10_isTray 60 [] rfl ?_
  refine mVc_i (by simp only [rI]; omega) ?_
  refine zCl_e (kwi_t (by simp only [rL]; omega) (by simp only [rL]; omega) (by simp only [rL]; omega) (by omega)) (by decide) ?_
  exact mVc_i (by omega) ⟨rfl, rfl⟩
set_option maxHeartbeats 1000000 in
set_option maxRecDepth 100000 in
theorem kit_f {x : Int} (hx : rI x) (c : ¬ (0 ≤ x ∧ x ≤ 3)) {h : zH} : zEv X 2 mX10_isTray [zI x] (h) (zIs (.inl (some (zI 0))) h) := by
  have hx1 := hx.1
  have hx2 := hx.2
  refine zEv_run gX10_isTray 60 [] rfl ?_
  refine mVc_i (by simp only [rI]; omega) ?_
  refine zCl_e (kwi_f (by simp only [rL]; omega) (by simp only [rL]; omega) (by simp only [rL]; omega) (by omega)) (by decide) ?_
  exact mVc_i (by omega) ⟨rfl, rfl⟩
set_option maxHeartbeats 1000000 in
set_option maxRecDepth 100000 in
theorem ktr_1 {x : Int} (hx : rI x) (c : ¬ (0 ≤ x ∧ x ≤ 3)) : zEv X 3 mX10_trayFault [zR 29, zI x] (cX S ++ (cM K ++ t)) (zIs (.inl (some (zI (1)))) (cX S ++ (cM K ++ t))) := by
  refine zEv_run gX10_trayFault 60 [] rfl ?_
  refine zCl_e (kit_f hx c) (by decide) ?_
  refine zBrT (by first | (simp only [rI]; omega) | (simp only [rL]; omega)) (by omega) ?_
  exact ⟨rfl, rfl⟩
set_option maxHeartbeats 1000000 in
set_option maxRecDepth 100000 in
theorem ktr_2 (hT : kTr K T) {x : Int} (hx : rI x) (c : 0 ≤ x ∧ x ≤ 3) (c2 : (T x).1 = -1) : zEv X 3 mX10_trayFault [zR 29, zI x] (cX S ++ (cM K ++ t)) (zIs (.inl (some (zI (2)))) (cX S ++ (cM K ++ t))) := by
  have e := (hT.2 x c.1 (by omega)).1
  have hb := (hT.1 x).1
  refine zEv_run gX10_trayFault 60 [] rfl ?_
  refine zCl_e (kit_t hx c) (by decide) ?_
  refine zBrF (by first | (simp only [rI]; omega) | (simp only [rL]; omega)) (by omega) ?_
  refine mVc_i (by omega) ?_
  refine zBrT (by show rI (K.2 12 x.toNat) ∧ rI (-1); rw [e]; simp only [rI]; omega) (by show K.2 12 x.toNat = -1; rw [e]; exact c2) ?_
  exact ⟨rfl, rfl⟩
set_option maxHeartbeats 1000000 in
set_option maxRecDepth 100000 in
theorem ktr_t (hT : kTr K T) {x : Int} (hx : rI x) (c : 0 ≤ x ∧ x ≤ 3) (c2 : ¬ (T x).1 = -1) : zEv X 3 mX10_trayFault [zR 29, zI x] (cX S ++ (cM K ++ t)) (zIs (.inl (some (zI (0)))) (cX S ++ (cM K ++ t))) := by
  have e := (hT.2 x c.1 (by omega)).1
  have hb := (hT.1 x).1
  refine zEv_run gX10_trayFault 60 [] rfl ?_
  refine zCl_e (kit_t hx c) (by decide) ?_
  refine zBrF (by first | (simp only [rI]; omega) | (simp only [rL]; omega)) (by omega) ?_
  refine mVc_i (by omega) ?_
  refine zBrF (by show rI (K.2 12 x.toNat) ∧ rI (-1); rw [e]; simp only [rI]; omega) (by show ¬ K.2 12 x.toNat = -1; rw [e]; exact c2) ?_
  exact ⟨rfl, rfl⟩
set_option maxHeartbeats 1000000 in
set_option maxRecDepth 100000 in
theorem kff_t (hT : kTr K T) {x : Int} (hx : rI x) (c : 0 ≤ x ∧ x ≤ 3) (c2 : ¬ (T x).1 = -1) (c3 : tH (T x).2.1 (T x).2.2 = 1) : zEv X 4 mX10_facesFault [zR 29, zI x] (cX S ++ (cM K ++ t)) (zIs (.inl (some (zI (0)))) (cX S ++ (cM K ++ t))) := by
  have em := (hT.2 x c.1 (by omega)).2.1
  have en := (hT.2 x c.1 (by omega)).2.2
  have hb := (hT.1 x).2
  refine zEv_run gX10_facesFault 60 [33] rfl ?_
  refine zCl_e (ktr_t hT hx c c2) (by decide) ?_
  refine zBrT (by first | (simp only [rI]; omega) | (simp only [rL]; omega)) (by omega) ?_
  refine mVc_i (by omega) ?_
  refine mVc_i (by show rI (K.2 13 x.toNat); rw [em]; simp only [rI]; omega) ?_
  unfold tH at c3
  by_cases c4 : 1 ≤ (T x).2.1 ∧ (T x).2.1 ≤ 5
  · rw [if_pos c4] at c3
    refine zCl_e (kwi_t (x := K.2 13 x.toNat) (by rw [em]; simp only [rL]; omega) (by simp only [rL]; omega) (by simp only [rL]; omega) (by rw [em]; exact c4)) (by decide) ?_
    refine zBrF (by first | (simp only [rI]; omega) | (simp only [rL]; omega)) (by omega) ?_
    have lp : ∀ (k : Nat) (i : Int), 0 ≤ i → i + k = (T x).2.1 → (∀ j : Int, 0 ≤ j → j < i → 1 ≤ (T x).2.2 j.toNat ∧ (T x).2.2 j.toNat ≤ 6) → zWP X mX10_facesFault 4 (zIs (.inl (some (zI (0)))) (cX S ++ (cM K ++ t))) 33 [some (zR 29), some (zI x), some (zI 0), some (zI i)] [] (cX S ++ (cM K ++ t)) 0 0 := by
      intro k
      induction k with
      | zero =>
        intro i i0 hk0 hf
        refine zWP_run gX10_facesFault 60 [33] ?_
        refine mVc_i (by omega) ?_
        refine zBrT (by show rI i ∧ rI (K.2 13 x.toNat); rw [em]; simp only [rI]; omega) (by show K.2 13 x.toNat ≤ i; omega) ?_
        exact ⟨rfl, rfl⟩
      | succ k ih =>
        intro i i0 hk0 hf
        have ei := en i i0 (by omega)
        have br := hb.2 i.toNat
        simp only [rL] at br
        refine zWP_run gX10_facesFault 60 [33] ?_
        refine mVc_i (by omega) ?_
        refine zBrF (by show rI i ∧ rI (K.2 13 x.toNat); rw [em]; simp only [rI]; omega) (by show ¬ K.2 13 x.toNat ≤ i; omega) ?_
        refine mVc_i (by omega) ?_
        by_cases cf : 1 ≤ (T x).2.2 i.toNat ∧ (T x).2.2 i.toNat ≤ 6
        · refine zCl_e (kfc_t (x := K.2 14 (30 * x + i).toNat) (by rw [ei]; simp only [rL]; omega) (by rw [ei]; exact cf)) (by decide) ?_
          refine zBrF (by first | (simp only [rI]; omega) | (simp only [rL]; omega)) (by omega) ?_
          exact ih (i + 1) (by omega) (by omega) (fun j j0 j1 => by
            by_cases e : j = i
            · rw [e]; exact cf
            · exact hf j j0 (by omega))
        · exact absurd c3 (tAll_n _ 0 i i0 (by omega) cf)
    exact lp (T x).2.1.toNat 0 (by omega) (by omega) (fun j j0 j1 => by omega)
  · rw [if_neg c4] at c3
    omega
set_option maxHeartbeats 1000000 in
set_option maxRecDepth 100000 in
theorem kff_3 (hT : kTr K T) {x : Int} (hx : rI x) (c : 0 ≤ x ∧ x ≤ 3) (c2 : ¬ (T x).1 = -1) (c3 : ¬ tH (T x).2.1 (T x).2.2 = 1) : zEv X 4 mX10_facesFault [zR 29, zI x] (cX S ++ (cM K ++ t)) (zIs (.inl (some (zI (3)))) (cX S ++ (cM K ++ t))) := by
  have em := (hT.2 x c.1 (by omega)).2.1
  have en := (hT.2 x c.1 (by omega)).2.2
  have hb := (hT.1 x).2
  refine zEv_run gX10_facesFault 60 [33] rfl ?_
  refine zCl_e (ktr_t hT hx c c2) (by decide) ?_
  refine zBrT (by first | (simp only [rI]; omega) | (simp only [rL]; omega)) (by omega) ?_
  refine mVc_i (by omega) ?_
  refine mVc_i (by show rI (K.2 13 x.toNat); rw [em]; simp only [rI]; omega) ?_
  unfold tH at c3
  by_cases c4 : 1 ≤ (T x).2.1 ∧ (T x).2.1 ≤ 5
  · rw [if_pos c4] at c3
    refine zCl_e (kwi_t (x := K.2 13 x.toNat) (by rw [em]; simp only [rL]; omega) (by simp only [rL]; omega) (by simp only [rL]; omega) (by rw [em]; exact c4)) (by decide) ?_
    refine zBrF (by first | (simp only [rI]; omega) | (simp only [rL]; omega)) (by omega) ?_
    have lp : ∀ (k : Nat) (i : Int), 0 ≤ i → i + k = (T x).2.1 → (∀ j : Int, 0 ≤ j → j < i → 1 ≤ (T x).2.2 j.toNat ∧ (T x).2.2 j.toNat ≤ 6) → zWP X mX10_facesFault 4 (zIs (.inl (some (zI (3)))) (cX S ++ (cM K ++ t))) 33 [some (zR 29), some (zI x), some (zI 0), some (zI i)] [] (cX S ++ (cM K ++ t)) 0 0 := by
      intro k
      induction k with
      | zero =>
        intro i i0 hk0 hf
        exact absurd (tAll_y _ 0 (fun j j0 j1 => hf j j0 (by omega))) c3
      | succ k ih =>
        intro i i0 hk0 hf
        have ei := en i i0 (by omega)
        have br := hb.2 i.toNat
        simp only [rL] at br
        refine zWP_run gX10_facesFault 60 [33] ?_
        refine mVc_i (by omega) ?_
        refine zBrF (by show rI i ∧ rI (K.2 13 x.toNat); rw [em]; simp only [rI]; omega) (by show ¬ K.2 13 x.toNat ≤ i; omega) ?_
        refine mVc_i (by omega) ?_
        by_cases cf : 1 ≤ (T x).2.2 i.toNat ∧ (T x).2.2 i.toNat ≤ 6
        · refine zCl_e (kfc_t (x := K.2 14 (30 * x + i).toNat) (by rw [ei]; simp only [rL]; omega) (by rw [ei]; exact cf)) (by decide) ?_
          refine zBrF (by first | (simp only [rI]; omega) | (simp only [rL]; omega)) (by omega) ?_
          exact ih (i + 1) (by omega) (by omega) (fun j j0 j1 => by
            by_cases e : j = i
            · rw [e]; exact cf
            · exact hf j j0 (by omega))
        · refine zCl_e (kfc_f (x := K.2 14 (30 * x + i).toNat) (by rw [ei]; simp only [rL]; omega) (by rw [ei]; exact cf)) (by decide) ?_
          refine zBrT (by first | (simp only [rI]; omega) | (simp only [rL]; omega)) (by omega) ?_
          exact ⟨rfl, rfl⟩
    exact lp (T x).2.1.toNat 0 (by omega) (by omega) (fun j j0 j1 => by omega)
  · refine zCl_e (kwi_f (x := K.2 13 x.toNat) (by rw [em]; simp only [rL]; omega) (by simp only [rL]; omega) (by simp only [rL]; omega) (by rw [em]; exact c4)) (by decide) ?_
    refine zBrT (by first | (simp only [rI]; omega) | (simp only [rL]; omega)) (by omega) ?_
    exact ⟨rfl, rfl⟩
set_option maxHeartbeats 1000000 in
set_option maxRecDepth 100000 in
theorem kfo (hT : kTr K T) {x i : Int} (c : 0 ≤ x ∧ x ≤ 3) (hi : 0 ≤ i ∧ i < 30) : zEv X 1 mX10_faceTold [zR 29, zI x, zI i] (cX S ++ (cM K ++ t)) (zIs (.inl (some (zI ((T x).2.2 i.toNat)))) (cX S ++ (cM K ++ t))) := by
  have ei := (hT.2 x c.1 (by omega)).2.2 i hi.1 hi.2
  refine zEv_run gX10_faceTold 60 [] rfl ?_
  refine mVc_i (by omega) ?_
  refine ⟨?_, rfl⟩
  rw [← ei]
theorem tH_f {mn : Int} {f : Nat → Int} (h : tH mn f = 1) : (1 ≤ mn ∧ mn ≤ 5) ∧ ∀ i : Int, 0 ≤ i → i < mn → 1 ≤ f i.toNat ∧ f i.toNat ≤ 6 := by
  unfold tH at h
  by_cases c : 1 ≤ mn ∧ mn ≤ 5
  · rw [if_pos c] at h
    exact ⟨c, fun i i0 i1 => tAll_f h i i0 (by omega)⟩
  · rw [if_neg c] at h
    omega
set_option maxHeartbeats 1000000 in
set_option maxRecDepth 100000 in
theorem kff_1 {x : Int} (hx : rI x) (c : ¬ (0 ≤ x ∧ x ≤ 3)) : zEv X 4 mX10_facesFault [zR 29, zI x] (cX S ++ (cM K ++ t)) (zIs (.inl (some (zI (1)))) (cX S ++ (cM K ++ t))) := by
  refine zEv_run gX10_facesFault 60 [33] rfl ?_
  refine zCl_e (ktr_1 hx c) (by decide) ?_
  refine zBrF (by first | (simp only [rI]; omega) | (simp only [rL]; omega)) (by omega) ?_
  exact ⟨rfl, rfl⟩
set_option maxHeartbeats 1000000 in
set_option maxRecDepth 100000 in
theorem kff_2 (hT : kTr K T) {x : Int} (hx : rI x) (c : 0 ≤ x ∧ x ≤ 3) (c2 : (T x).1 = -1) : zEv X 4 mX10_facesFault [zR 29, zI x] (cX S ++ (cM K ++ t)) (zIs (.inl (some (zI (2)))) (cX S ++ (cM K ++ t))) := by
  refine zEv_run gX10_facesFault 60 [33] rfl ?_
  refine zCl_e (ktr_2 hT hx c c2) (by decide) ?_
  refine zBrF (by first | (simp only [rI]; omega) | (simp only [rL]; omega)) (by omega) ?_
  exact ⟨rfl, rfl⟩
set_option maxHeartbeats 1000000 in
set_option maxRecDepth 100000 in
theorem kLik (hk : kVn (K.2 0) v (v.1 4)) (hT : kTr K T) {x : Int} (hx : rI x) : zEv X 10 mX10_likelier [zR 29, zI x] (cX S ++ (cM K ++ t)) (kTp S K t (kcd [1, 2, 0]) (pLikelier v T x)) := by
  unfold pLikelier pFaces
  have b1 := hk.1.2.1
  have b2 := hk.1.2.2.1
  have b4 := hk.1.2.2.2.2.1
  have hx1 := hx.1
  have hx2 := hx.2
  by_cases c1 : 0 ≤ x ∧ x ≤ 3
  · rw [if_pos c1]
    by_cases c2 : ¬ (T x).1 = -1
    · rw [if_pos c2]
      by_cases c3 : tH (T x).2.1 (T x).2.2 = 1
      · rw [if_pos c3]
        have hff := tH_f c3
        have em := (hT.2 x c1.1 (by omega)).2.1
        have inner : ∀ (d : Int), 0 ≤ d → d < v.1 1 → (zWP X mX10_likelier 10 (kTp S K t (kcd [1, 2, 0]) (.inl (vLk v (T x).2.2 (T x).2.1 (v.1 1)).1, v)) 106 [some (zR 29), some (zI x), some (zI (vLk v (T x).2.2 (T x).2.1 d).1), some (zJ (vLk v (T x).2.2 (T x).2.1 d).2.1), none, some (zJ (vLk v (T x).2.2 (T x).2.1 d).2.2), none, some (zI d), some (zJ (vWy v (T x).2.2 d (T x).2.1)), none, some (zJ (vTot v.2.1 d ^ (T x).2.1.toNat)), none, none] [] (cX S ++ (cM (kI K 0 0) ++ t)) 0 0) → ∀ (k : Nat) (i : Int), 0 ≤ i → i + k = (T x).2.1 → zWP X mX10_likelier 10 (kTp S K t (kcd [1, 2, 0]) (.inl (vLk v (T x).2.2 (T x).2.1 (v.1 1)).1, v)) 58 [some (zR 29), some (zI x), some (zI (vLk v (T x).2.2 (T x).2.1 d).1), some (zJ (vLk v (T x).2.2 (T x).2.1 d).2.1), none, some (zJ (vLk v (T x).2.2 (T x).2.1 d).2.2), none, some (zI d), some (zJ (vWy v (T x).2.2 d i)), none, some (zJ (vTot v.2.1 d ^ i.toNat)), none, some (zI i)] [] (cX S ++ (cM (kI K 0 0) ++ t)) 0 0 := by
          intro d d0 d1 kk k
          have ht := vTot_b hk.1.2.2.2.2.2.1 d
          induction k with
          | zero =>
            intro i i0 hk0
            refine zWP_run gX10_likelier 80 [58, 106] ?_
            refine mVc_i (by omega) ?_
            refine zBrT (by show rI i ∧ rI (K.2 13 x.toNat); rw [em]; simp only [rI]; omega) (by show K.2 13 x.toNat ≤ i; omega) ?_
            rw [show i = (T x).2.1 by omega]
            exact zWP_fg kk (by repeat (first | exact trivial | refine ⟨rfl, ?_⟩))
          | succ k ih =>
            intro i i0 hk0
            have hfi := hff.2 i i0 (by omega)
            have hw := hk.1.2.2.2.2.2.1.1 d ((T x).2.2 i.toNat)
            have k3 := ih (i + 1) (by omega) (by omega)
            rw [vWy_s v (T x).2.2 d i0, show (i + 1).toNat = i.toNat + 1 by omega, Int.pow_succ] at k3
            refine zWP_run gX10_likelier 80 [58, 106] ?_
            refine mVc_i (by omega) ?_
            refine zBrF (by show rI i ∧ rI (K.2 13 x.toNat); rw [em]; simp only [rI]; omega) (by show ¬ K.2 13 x.toNat ≤ i; omega) ?_
            refine zCl_e (kfo (K := kI K 0 0) hT c1 (by omega)) (by decide) ?_
            refine zCl_e (kw (K := kI K 0 0) hk ⟨d0, d1⟩ hfi) (by decide) ?_
            refine mVc_i (by simp only [rI]; omega) ?_
            refine zCl_e (kto (K := kI K 0 0) hk ⟨d0, d1⟩) (by decide) ?_
            refine mVc_i (by simp only [rI]; omega) ?_
            exact k3
        have outer : ∀ (k : Nat) (d : Int), 0 ≤ d → d + k = v.1 1 → 0 ≤ (vLk v (T x).2.2 (T x).2.1 d).2.1 ∧ (vLk v (T x).2.2 (T x).2.1 d).2.1 ≤ 3200000 → 0 ≤ (vLk v (T x).2.2 (T x).2.1 d).2.2 ∧ (vLk v (T x).2.2 (T x).2.1 d).2.2 ≤ 24883200000 → zWP X mX10_likelier 10 (kTp S K t (kcd [1, 2, 0]) (.inl (vLk v (T x).2.2 (T x).2.1 (v.1 1)).1, v)) 28 [some (zR 29), some (zI x), some (zI (vLk v (T x).2.2 (T x).2.1 d).1), some (zJ (vLk v (T x).2.2 (T x).2.1 d).2.1), none, some (zJ (vLk v (T x).2.2 (T x).2.1 d).2.2), none, some (zI d), none, none, none, none, none] [] (cX S ++ (cM (kI K 0 0) ++ t)) 0 0 := by
          intro k
          induction k with
          | zero =>
            intro d d0 hk0 b1 b2
            refine zWP_run gX10_likelier 80 [28, 58] ?_
            refine zCl_e (kdi (K := kI K 0 0) hk) (by decide) ?_
            refine zBrT (by first | (simp only [rI]; omega) | (simp only [rL]; omega)) (by omega) ?_
            rw [← show d = v.1 1 by omega]
            exact ⟨_, kI K 0 0, rfl, rfl, kF_t (kF_r K) (kF_I _ _ (by omega)), hk, rfl, rfl⟩
          | succ k ih =>
            intro d d0 hk0 bb1 bb2
            have ht := vTot_b hk.1.2.2.2.2.2.1 d
            have hy := vWy_b hk.1 (T x).2.2 d (i := (T x).2.1) (by omega) (by omega)
            have hp := ipow_5 ht (n := (T x).2.1) (by omega) (by omega)
            have m1 := mul_b bb1 hp
            have m2 := mul_b hy bb2
            have st0 : ¬ (vLk v (T x).2.2 (T x).2.1 d).2.1 * vTot v.2.1 d ^ (T x).2.1.toNat < vWy v (T x).2.2 d (T x).2.1 * (vLk v (T x).2.2 (T x).2.1 d).2.2 → zWP X mX10_likelier 10 (kTp S K t (kcd [1, 2, 0]) (.inl (vLk v (T x).2.2 (T x).2.1 (v.1 1)).1, v)) 28 [some (zR 29), some (zI x), some (zI (vLk v (T x).2.2 (T x).2.1 d).1), some (zJ (vLk v (T x).2.2 (T x).2.1 d).2.1), none, some (zJ (vLk v (T x).2.2 (T x).2.1 d).2.2), none, some (zI (d + 1)), none, none, none, none, none] [] (cX S ++ (cM (kI K 0 0) ++ t)) 0 0 := by
              intro q
              have e : vLk v (T x).2.2 (T x).2.1 (d + 1) = (vLk v (T x).2.2 (T x).2.1 d) := by
                show zIt _ _ (d + 1) = _
                rw [zIt_s _ _ d0]
                exact if_neg q
              have k3 := ih (d + 1) (by omega) (by omega) (by rw [e]; exact bb1) (by rw [e]; exact bb2)
              rw [e] at k3
              exact k3
            have st1 : (vLk v (T x).2.2 (T x).2.1 d).2.1 * vTot v.2.1 d ^ (T x).2.1.toNat < vWy v (T x).2.2 d (T x).2.1 * (vLk v (T x).2.2 (T x).2.1 d).2.2 → zWP X mX10_likelier 10 (kTp S K t (kcd [1, 2, 0]) (.inl (vLk v (T x).2.2 (T x).2.1 (v.1 1)).1, v)) 28 [some (zR 29), some (zI x), some (zI d), some (zJ (vWy v (T x).2.2 d (T x).2.1)), none, some (zJ (vTot v.2.1 d ^ (T x).2.1.toNat)), none, some (zI (d + 1)), none, none, none, none, none] [] (cX S ++ (cM (kI K 0 0) ++ t)) 0 0 := by
              intro q
              have e : vLk v (T x).2.2 (T x).2.1 (d + 1) = (d, vWy v (T x).2.2 d (T x).2.1, vTot v.2.1 d ^ (T x).2.1.toNat) := by
                show zIt _ _ (d + 1) = _
                rw [zIt_s _ _ d0]
                exact if_pos q
              have k3 := ih (d + 1) (by omega) (by omega) (by rw [e]; exact hy) (by rw [e]; exact hp)
              rw [e] at k3
              exact k3
            refine zWP_run gX10_likelier 80 [28, 58] ?_
            refine zCl_e (kdi (K := kI K 0 0) hk) (by decide) ?_
            refine zBrF (by first | (simp only [rI]; omega) | (simp only [rL]; omega)) (by omega) ?_
            refine zCl_e (kgo (K := kI K 0 0) hk ⟨d0, by omega⟩) (by decide) ?_
            refine zBb (P := vTot v.2.1 d = 0) (fun g1 => ?_) (fun g1 => ?_)
            rotate_left
            · have e := vWy_g hk.1 hff.1.1 hff.2 g1
              exact zWP_fg (st0 (by rw [e.1, e.2, Int.mul_zero, Int.zero_mul]; omega)) (by repeat (first | exact trivial | refine ⟨rfl, ?_⟩))
            have k9 := inner d d0 (by omega) (by
              refine zWP_run gX10_likelier 80 [28] ?_
              refine zBr ?_ (fun q4 => ?_) (fun q4 => ?_)
              · show rL (vWy v (T x).2.2 d (T x).2.1 * (vLk v (T x).2.2 (T x).2.1 d).2.2) ∧ rL ((vLk v (T x).2.2 (T x).2.1 d).2.1 * vTot v.2.1 d ^ (T x).2.1.toNat)
                simp only [rL]
                omega
              · exact zWP_fg (st1 q4) (by repeat (first | exact trivial | refine ⟨rfl, ?_⟩))
              · exact zWP_fg (st0 q4) (by repeat (first | exact trivial | refine ⟨rfl, ?_⟩))) (T x).2.1.toNat 0 (by omega) (by omega)
            rw [show vTot v.2.1 d ^ (0 : Int).toNat = 1 from Int.pow_zero _] at k9
            exact zWP_fg k9 (by repeat (first | exact trivial | refine ⟨rfl, ?_⟩))
        refine zEv_run gX10_likelier 80 [28] rfl ?_
        refine zCl_e (kff_t hT hx c1 c2 c3) (by decide) ?_
        refine zBrT (by first | (simp only [rI]; omega) | (simp only [rL]; omega)) (by omega) ?_
        exact outer (v.1 1).toNat 0 (by omega) (by omega) (by show (0 : Int) ≤ 0 ∧ (0 : Int) ≤ 3200000; omega) (by show (0 : Int) ≤ 1 ∧ (1 : Int) ≤ 24883200000; omega)
      · rw [if_neg c3]
        refine zEv_run gX10_likelier 60 [28] rfl ?_
        refine zCl_e (kff_3 hT hx c1 c2 c3) (by decide) ?_
        refine zBrF (by first | (simp only [rI]; omega) | (simp only [rL]; omega)) (by omega) ?_
        exact ⟨0, kI K 0 3, rfl, rfl, kF_t (kF_r K) (kF_I _ _ (by omega)), hk, rfl⟩
    · rw [if_neg c2]
      refine zEv_run gX10_likelier 60 [28] rfl ?_
      refine zCl_e (kff_2 hT hx c1 (Decidable.not_not.mp c2)) (by decide) ?_
      refine zBrF (by first | (simp only [rI]; omega) | (simp only [rL]; omega)) (by omega) ?_
      exact ⟨0, kI K 0 2, rfl, rfl, kF_t (kF_r K) (kF_I _ _ (by omega)), hk, rfl⟩
  · rw [if_neg c1]
    refine zEv_run gX10_likelier 60 [28] rfl ?_
    refine zCl_e (kff_1 hx c1) (by decide) ?_
    refine zBrF (by first | (simp only [rI]; omega) | (simp only [rL]; omega)) (by omega) ?_
    exact ⟨0, kI K 0 1, rfl, rfl, kF_t (kF_r K) (kF_I _ _ (by omega)), hk, rfl⟩
set_option maxHeartbeats 1000000 in
set_option maxRecDepth 100000 in
theorem kFit (hk : kVn (K.2 0) v (v.1 4)) (hT : kTr K T) {x : Int} (hx : rI x) : zEv X 10 mX10_fits [zR 29, zI x] (cX S ++ (cM K ++ t)) (kTp S K t (kcd [1, 2, 0]) (pFits v T x)) := by
  unfold pFits pFaces
  have b1 := hk.1.2.1
  have b2 := hk.1.2.2.1
  have b4 := hk.1.2.2.2.2.1
  have hx1 := hx.1
  have hx2 := hx.2
  by_cases c1 : 0 ≤ x ∧ x ≤ 3
  · rw [if_pos c1]
    by_cases c2 : ¬ (T x).1 = -1
    · rw [if_pos c2]
      by_cases c3 : tH (T x).2.1 (T x).2.2 = 1
      · rw [if_pos c3]
        have hff := tH_f c3
        have em := (hT.2 x c1.1 (by omega)).2.1
        have inner : ∀ (i : Int), 0 ≤ i → i < (T x).2.1 → (zWP X mX10_fits 10 (kTp S K t (kcd [1, 2, 0]) (.inl (vRd v (T x).2.2 (T x).2.1), v)) 78 [some (zR 29), some (zI x), some (zI (vRd v (T x).2.2 i)), some (zI i), some (zI (vCd v ((T x).2.2 i.toNat) (v.1 1))), none] [] (cX S ++ (cM (kI K 0 0) ++ t)) 0 0) → ∀ (k : Nat) (d : Int), 0 ≤ d → d + k = v.1 1 → zWP X mX10_fits 10 (kTp S K t (kcd [1, 2, 0]) (.inl (vRd v (T x).2.2 (T x).2.1), v)) 38 [some (zR 29), some (zI x), some (zI (vRd v (T x).2.2 i)), some (zI i), some (zI (vCd v ((T x).2.2 i.toNat) d)), some (zI d)] [] (cX S ++ (cM (kI K 0 0) ++ t)) 0 0 := by
          intro i i0 i1 kk k
          have hfi := hff.2 i i0 i1
          induction k with
          | zero =>
            intro d d0 hk0
            refine zWP_run gX10_fits 80 [38, 78] ?_
            refine zCl_e (kdi (K := kI K 0 0) hk) (by decide) ?_
            refine zBrT (by first | (simp only [rI]; omega) | (simp only [rL]; omega)) (by omega) ?_
            rw [show d = v.1 1 by omega]
            exact zWP_fg kk (by repeat (first | exact trivial | refine ⟨rfl, ?_⟩))
          | succ k ih =>
            intro d d0 hk0
            have hw := hk.1.2.2.2.2.2.1.1 d ((T x).2.2 i.toNat)
            have k3 := ih (d + 1) (by omega) (by omega)
            rw [vCd_s v ((T x).2.2 i.toNat) d0] at k3
            refine zWP_run gX10_fits 80 [38, 78] ?_
            refine zCl_e (kdi (K := kI K 0 0) hk) (by decide) ?_
            refine zBrF (by first | (simp only [rI]; omega) | (simp only [rL]; omega)) (by omega) ?_
            refine zCl_e (kfo (K := kI K 0 0) hT c1 (by omega)) (by decide) ?_
            refine zCl_e (kw (K := kI K 0 0) hk ⟨d0, by omega⟩ hfi) (by decide) ?_
            refine zBr (by first | (simp only [rI]; omega) | (simp only [rL]; omega)) (fun q => ?_) (fun q => ?_)
            · rw [if_neg (by omega)] at k3
              exact k3
            · rw [if_pos (by omega)] at k3
              exact k3
        have outer : ∀ (k : Nat) (i : Int), 0 ≤ i → i + k = (T x).2.1 → zWP X mX10_fits 10 (kTp S K t (kcd [1, 2, 0]) (.inl (vRd v (T x).2.2 (T x).2.1), v)) 22 [some (zR 29), some (zI x), some (zI (vRd v (T x).2.2 i)), some (zI i), none, none] [] (cX S ++ (cM (kI K 0 0) ++ t)) 0 0 := by
          intro k
          induction k with
          | zero =>
            intro i i0 hk0
            refine zWP_run gX10_fits 80 [22, 38] ?_
            refine mVc_i (by omega) ?_
            refine zBrT (by show rI i ∧ rI (K.2 13 x.toNat); rw [em]; simp only [rI]; omega) (by show K.2 13 x.toNat ≤ i; omega) ?_
            rw [show i = (T x).2.1 by omega]
            exact ⟨_, kI K 0 0, rfl, rfl, kF_t (kF_r K) (kF_I _ _ (by omega)), hk, rfl, rfl⟩
          | succ k ih =>
            intro i i0 hk0
            refine zWP_run gX10_fits 80 [22, 38] ?_
            refine mVc_i (by omega) ?_
            refine zBrF (by show rI i ∧ rI (K.2 13 x.toNat); rw [em]; simp only [rI]; omega) (by show ¬ K.2 13 x.toNat ≤ i; omega) ?_
            refine inner i i0 (by omega) ?_ (v.1 1).toNat 0 (by omega) (by omega)
            have k3 := ih (i + 1) (by omega) (by omega)
            rw [vRd_s v (T x).2.2 i0] at k3
            refine zWP_run gX10_fits 80 [22] ?_
            exact zWP_fg k3 (by repeat (first | exact trivial | refine ⟨rfl, ?_⟩))
        refine zEv_run gX10_fits 80 [22] rfl ?_
        refine zCl_e (kff_t hT hx c1 c2 c3) (by decide) ?_
        refine zBrT (by first | (simp only [rI]; omega) | (simp only [rL]; omega)) (by omega) ?_
        exact outer (T x).2.1.toNat 0 (by omega) (by omega)
      · rw [if_neg c3]
        refine zEv_run gX10_fits 60 [22] rfl ?_
        refine zCl_e (kff_3 hT hx c1 c2 c3) (by decide) ?_
        refine zBrF (by first | (simp only [rI]; omega) | (simp only [rL]; omega)) (by omega) ?_
        exact ⟨0, kI K 0 3, rfl, rfl, kF_t (kF_r K) (kF_I _ _ (by omega)), hk, rfl⟩
    · rw [if_neg c2]
      refine zEv_run gX10_fits 60 [22] rfl ?_
      refine zCl_e (kff_2 hT hx c1 (Decidable.not_not.mp c2)) (by decide) ?_
      refine zBrF (by first | (simp only [rI]; omega) | (simp only [rL]; omega)) (by omega) ?_
      exact ⟨0, kI K 0 2, rfl, rfl, kF_t (kF_r K) (kF_I _ _ (by omega)), hk, rfl⟩
  · rw [if_neg c1]
    refine zEv_run gX10_fits 60 [22] rfl ?_
    refine zCl_e (kff_1 hx c1) (by decide) ?_
    refine zBrF (by first | (simp only [rI]; omega) | (simp only [rL]; omega)) (by omega) ?_
    exact ⟨0, kI K 0 1, rfl, rfl, kF_t (kF_r K) (kF_I _ _ (by omega)), hk, rfl⟩
end Mdld
