/-! trays, 1 -/
section Trays1
variable {X : mX} {S : sS} {t : zH} {v : vV} {T : tT}
set_option maxHeartbeats 1000000 in
set_option maxRecDepth 100000 in
theorem ylb1 {a b : Int} : zEv X 1 mX7_lay [zR 22, zI a, zI b] (cX S ++ t) (fun o9 h9 => o9 = .inl none ∧ ∃ f : Nat → Int, (∀ j, j < 30 → f j = 0) ∧ (∀ j, 30 ≤ j → f j = S.2.1 11 j) ∧ h9 = cX (sA (sI (sI (sI S 21 0) 22 a) 23 b) 11 f) ++ t) := by
  have lp : ∀ (k : Nat) (i : Int) (f : Nat → Int), 0 ≤ i → (∀ j : Nat, (j : Int) < i → f j = 0) → (∀ j : Nat, 30 ≤ j → f j = S.2.1 11 j) → i + k = 30 → zWP X mX7_lay 1 (fun o9 h9 => o9 = .inl none ∧ ∃ f : Nat → Int, (∀ j, j < 30 → f j = 0) ∧ (∀ j, 30 ≤ j → f j = S.2.1 11 j) ∧ h9 = cX (sA (sI (sI (sI S 21 0) 22 a) 23 b) 11 f) ++ t) 17 [some (zR 22), some (zI a), some (zI b), some (zI i)] [] (cX (sA (sI (sI (sI S 21 0) 22 a) 23 b) 11 f) ++ t) 0 0 := by
    intro k
    induction k with
    | zero =>
      intro i f g0 hf hf2 hk
      refine zWP_run gX7_lay 80 [17] ?_
      refine zBrT (by simp only [rI]; omega) (by omega) ?_
      exact ⟨rfl, f, fun j hj => hf j (by omega), hf2, rfl⟩
    | succ k ih =>
      intro i f g0 hf hf2 hk
      refine zWP_run gX7_lay 80 [17] ?_
      refine zBrF (by simp only [rI]; omega) (by omega) ?_
      refine mVc_i (by first | omega | (simp only [rI]; omega) | (simp only [rL]; omega)) ?_
      exact ih (i + 1) (va_up f i.toNat 0) (by omega) (fun j hj => by
        by_cases e : j = i.toNat
        · rw [e, va_up_s]
        · rw [va_up_o _ _ e]
          exact hf j (by omega)) (fun j hj => by
        rw [va_up_o _ _ (by omega)]
        exact hf2 j hj) (by omega)
  refine zEv_run gX7_lay 60 [17] rfl ?_
  exact lp 30 0 (S.2.1 11) (by omega) (fun j hj => by omega) (fun j hj => rfl) (by omega)
set_option maxHeartbeats 1000000 in
set_option maxRecDepth 100000 in
theorem ctold1 {num : Nat → Int} {mn : Int} (hv : vX S v) (hm : 0 ≤ mn ∧ mn ≤ 30) (hn : ∀ k, rL (num k)) (ht : S.1 23 = mn ∧ S.2.1 11 = num) : zEv X 7 mX9_throwTold [zR 0, zR 22] (cX S ++ t) (zTo S t (.inl (some (zI (vTl num mn.toNat 0 v).1))) (vTl num mn.toNat 0 v).2) := by
  have lp : ∀ (k : Nat) (i : Int) (u : vV) (R : sS), 0 ≤ i → sF S R → vX R u → vTl num k i u = vTl num mn.toNat 0 v → i + k = mn → zWP X mX9_throwTold 7 (zTo S t (.inl (some (zI (vTl num mn.toNat 0 v).1))) (vTl num mn.toNat 0 v).2) 4 [some (zR 0), some (zR 22), some (zI i), some (zI i)] [] (cX R ++ t) 0 0 := by
    intro k
    induction k with
    | zero =>
      intro i u R i0 hf hr hu hk
      have a1 : R.1 23 = mn := by rw [hf.1 23 (by omega)]; exact ht.1
      refine zWP_run gX9_throwTold 80 [4] ?_
      refine zBrT (by simp only [rI]; omega) (by omega) ?_
      rw [← hu]
      exact ⟨rfl, R, rfl, hf, hr⟩
    | succ k ih =>
      intro i u R i0 hf hr hu hk
      have a1 : R.1 23 = mn := by rw [hf.1 23 (by omega)]; exact ht.1
      have a2 : R.2.1 11 = num := by rw [hf.2.1 11 (by omega)]; exact ht.2
      have hw := vTold_b u (num i.toNat)
      refine zWP_run gX9_throwTold 80 [4] ?_
      refine zBrF (by simp only [rI]; omega) (by omega) ?_
      refine zCl_e (ynum1 (by omega) i0 (by omega)) (by decide) ?_
      rw [a2]
      refine zCl_e (gwhyt hr (hn _)) (by decide) ?_
      by_cases c : vTold u (num i.toNat) = 0
      · refine zBrT (by simp only [rI]; omega) c ?_
        refine zCl_e (ynum1 (by omega) i0 (by omega)) (by decide) ?_
        rw [a2]
        have c2 := vTold_0 c
        have c3 := vWhy_0 c2.2
        refine zCl_t (gtold1 hr c2.1.1 c2.1.2 c3.1 c3.2.1) (by decide) ?_
        intro R2 f1 hv1
        exact ih (i + 1) _ R2 (by omega) (sF_t hf f1) hv1 (by rw [← hu]; simp only [vTl]; rw [if_pos c]) (by omega)
      · refine zBrF (by simp only [rI]; omega) c ?_
        have hu2 : vTl num (k + 1) i u = (i, u) := by simp only [vTl]; rw [if_neg c]
        rw [← hu, hu2]
        exact ⟨rfl, R, rfl, hf, hr⟩
  refine zEv_run gX9_throwTold 40 [4] rfl ?_
  exact lp mn.toNat 0 v S (by omega) (sF_r S) hv rfl (by omega)
set_option maxHeartbeats 1000000 in
set_option maxRecDepth 100000 in
theorem cperf1 (hv : vX S v) (hT : tX S T) : zEv X 12 mX9_perform [zR 0, zI 1] (cX S ++ t) (zTp S t (pPerform v T 1)) := by
  unfold pPerform
  rw [if_pos (by omega)]
  have hb := hT.1 1
  have hR : tR (S.1 21) (S.1 22) (S.1 23) (S.2.1 11) (T 1) := hT.2.2.1
  obtain ⟨r1, r2, r3, r4⟩ := hR
  by_cases c : ¬ (T 1).1 = -1
  · rw [if_pos c]
    refine zEv_run gX9_perform 40 [] rfl ?_
    refine zCl_e (ndt1_t (r2 c).1) (by decide) ?_
    refine zCl_t (ctold1 hv hb.2.1 hb.2.2 ⟨r3, r4⟩) (by decide) ?_
    intro R f1 hv1
    exact ⟨rfl, R, rfl, sG_f f1, hv1⟩
  · rw [if_neg c]
    refine zEv_run gX9_perform 40 [] rfl ?_
    refine zCl_e (ndt1_f (r1 (Decidable.not_not.mp c))) (by decide) ?_
    exact ⟨rfl, S, rfl, sG_r S, hv⟩
set_option maxHeartbeats 1000000 in
set_option maxRecDepth 100000 in
theorem cjudge1 (hv : vX S v) (hT : tX S T) {w : Int} (hw : rI w) : zEv X 12 mX9_judge [zR 0, zI 1, zI w] (cX S ++ t) (zTp S t (pJudge v T 1 w)) := by
  unfold pJudge
  rw [if_pos (by omega)]
  have hb := hT.1 1
  have hR : tR (S.1 21) (S.1 22) (S.1 23) (S.2.1 11) (T 1) := hT.2.2.1
  obtain ⟨r1, r2, r3, r4⟩ := hR
  have h1 := hv.1.2.1
  have h4 := hv.1.2.2.2.2.1
  have hq0 := vTl_n (T 1).2.2 (T 1).2.1.toNat 0 v
  have hq : 0 ≤ (tPr v T 1).1 ∧ (tPr v T 1).2.1 4 = v.1 4 + (tPr v T 1).1 := ⟨hq0.2.1, by show (vTl _ _ _ _).2.1 4 = v.1 4 + (vTl _ _ _ _).1; omega⟩
  have hq2 : (tPr v T 1).1 ≤ (T 1).2.1 := by show (vTl _ _ _ _).1 ≤ _; omega
  have hag : vAg (tPr v T 1).2 v := vTl_ag _ _ _ _ (vAg_r v)
  by_cases c : ¬ (T 1).1 = -1
  · rw [if_pos c]
    by_cases c2 : 0 ≤ w ∧ w ≤ 2
    · rw [if_pos c2]
      refine zEv_run gX9_judge 80 [] rfl ?_
      refine zCl_e (ndt1_t (r2 c).1) (by decide) ?_
      refine zCl_e (nw_t hv hw (by simp only [rI]; omega) (by simp only [rI]; omega) c2) (by decide) ?_
      refine zCl_t (ctold1 hv hb.2.1 hb.2.2 ⟨r3, r4⟩) (by decide) ?_
      intro R f1 hv0
      have hv1 : vX R (tPr v T 1).2 := hv0
      have a1 : R.1 23 = (T 1).2.1 := by rw [f1.1 23 (by omega)]; exact r3
      have a2 : R.2.1 11 = (T 1).2.2 := by rw [f1.2.1 11 (by omega)]; exact r4
      have rq : rI (tPr v T 1).1 := by simp only [rI]; omega
      have e5 : (vTl (T 1).2.2 (T 1).2.1.toNat 0 v).1 = (tPr v T 1).1 := rfl
      rw [e5]
      by_cases ce : (tPr v T 1).1 = (T 1).2.1
      · rw [if_pos ce, if_pos ce]
        refine zBrT ⟨rq, by rw [a1]; simp only [rI]; omega⟩ (by rw [a1]; exact ce) ?_
        refine mVc_i hw ⟨fun q => ?_, fun q => ⟨fun q3 => ?_, fun q3 => ?_⟩⟩
        · have q2 : w = 0 := q
          rw [if_pos q2]
          refine zBrF rI_1 (by omega) ?_
          refine zCl_t (gundo (t := t) hv1 (n := (tPr v T 1).1) hq.1 (by rw [hq.2]; omega)) (by decide) ?_
          intro R2 f2 hv2
          have e6 : (tPr v T 1).1 = (tPr v T 1).2.1 4 - v.1 4 := by rw [hq.2]; omega
          rw [e6] at hv2
          exact ⟨rfl, R2, rfl, sG_f (sF_t f1 f2), vX_unag hv.1 hag hv2⟩
        · have q4 : w = 1 := q3
          rw [if_neg (by omega), if_pos q4]
          refine zBrF rI_1 (by omega) ?_
          refine zCl_t (gundo (t := t) hv1 (n := (tPr v T 1).1) hq.1 (by rw [hq.2]; omega)) (by decide) ?_
          intro R2 f2 hv2
          have e6 : (tPr v T 1).1 = (tPr v T 1).2.1 4 - v.1 4 := by rw [hq.2]; omega
          rw [e6] at hv2
          exact ⟨rfl, R2, rfl, sG_f (sF_t f1 f2), vX_unag hv.1 hag hv2⟩
        · have q2 : ¬ w = 0 := q
          have q4 : ¬ w = 1 := q3
          rw [if_neg q2, if_neg q4]
          refine zCl_e (gall hv1) (by decide) ?_
          refine zCl_t (gundo (t := t) hv1 (n := (tPr v T 1).1) hq.1 (by rw [hq.2]; omega)) (by decide) ?_
          intro R2 f2 hv2
          have e6 : (tPr v T 1).1 = (tPr v T 1).2.1 4 - v.1 4 := by rw [hq.2]; omega
          rw [e6] at hv2
          exact ⟨rfl, R2, rfl, sG_f (sF_t f1 f2), vX_unag hv.1 hag hv2⟩
      · rw [if_neg ce, if_neg ce]
        refine zBrF ⟨rq, by rw [a1]; simp only [rI]; omega⟩ (by rw [a1]; exact ce) ?_
        refine mVc_i hw ⟨fun q => ?_, fun q => ⟨fun q3 => ?_, fun q3 => ?_⟩⟩
        · have q2 : w = 0 := q
          rw [if_pos q2]
          refine zBrT rI_0 rfl ?_
          refine zCl_t (gundo (t := t) hv1 (n := (tPr v T 1).1) hq.1 (by rw [hq.2]; omega)) (by decide) ?_
          intro R2 f2 hv2
          have e6 : (tPr v T 1).1 = (tPr v T 1).2.1 4 - v.1 4 := by rw [hq.2]; omega
          rw [e6] at hv2
          exact ⟨rfl, R2, rfl, sG_f (sF_t f1 f2), vX_unag hv.1 hag hv2⟩
        · have q4 : w = 1 := q3
          rw [if_neg (by omega), if_pos q4]
          refine zBrT rI_0 rfl ?_
          refine zCl_e (ynum1 (by omega) hq.1 (by omega)) (by decide) ?_
          rw [a2]
          refine zCl_e (gwhyt hv1 (hb.2.2 _)) (by decide) ?_
          refine zCl_t (gundo (t := t) hv1 (n := (tPr v T 1).1) hq.1 (by rw [hq.2]; omega)) (by decide) ?_
          intro R2 f2 hv2
          have e6 : (tPr v T 1).1 = (tPr v T 1).2.1 4 - v.1 4 := by rw [hq.2]; omega
          rw [e6] at hv2
          exact ⟨rfl, R2, rfl, sG_f (sF_t f1 f2), vX_unag hv.1 hag hv2⟩
        · have q2 : ¬ w = 0 := q
          have q4 : ¬ w = 1 := q3
          rw [if_neg q2, if_neg q4]
          refine zCl_e (gall hv1) (by decide) ?_
          refine zCl_t (gundo (t := t) hv1 (n := (tPr v T 1).1) hq.1 (by rw [hq.2]; omega)) (by decide) ?_
          intro R2 f2 hv2
          have e6 : (tPr v T 1).1 = (tPr v T 1).2.1 4 - v.1 4 := by rw [hq.2]; omega
          rw [e6] at hv2
          exact ⟨rfl, R2, rfl, sG_f (sF_t f1 f2), vX_unag hv.1 hag hv2⟩
    · rw [if_neg c2]
      refine zEv_run gX9_judge 80 [] rfl ?_
      refine zCl_e (ndt1_t (r2 c).1) (by decide) ?_
      refine zCl_e (nw_f hv hw (by simp only [rI]; omega) (by simp only [rI]; omega) c2) (by decide) ?_
      exact ⟨rfl, S, rfl, sG_r S, hv⟩
  · rw [if_neg c]
    refine zEv_run gX9_judge 40 [] rfl ?_
    refine zCl_e (ndt1_f (r1 (Decidable.not_not.mp c))) (by decide) ?_
    exact ⟨rfl, S, rfl, sG_r S, hv⟩
set_option maxHeartbeats 1000000 in
set_option maxRecDepth 100000 in
theorem clik1 (hv : vX S v) (hT : tX S T) : zEv X 12 mX9_likelier [zR 0, zI 1] (cX S ++ t) (zTp S t (pLikelier v T 1)) := by
  unfold pLikelier pFaces
  rw [if_pos (by omega)]
  have hb := hT.1 1
  have hR : tR (S.1 21) (S.1 22) (S.1 23) (S.2.1 11) (T 1) := hT.2.2.1
  obtain ⟨r1, r2, r3, r4⟩ := hR
  have hfaces : tH (T 1).2.1 (T 1).2.2 = 1 → (1 ≤ (T 1).2.1 ∧ (T 1).2.1 ≤ 5) ∧ ∀ i : Int, 0 ≤ i → i < (T 1).2.1 → 1 ≤ (T 1).2.2 i.toNat ∧ (T 1).2.2 i.toNat ≤ 6 := by
    intro q
    unfold tH at q
    by_cases c : 1 ≤ (T 1).2.1 ∧ (T 1).2.1 ≤ 5
    · rw [if_pos c] at q
      exact ⟨c, fun i i0 i1 => tAll_f q i i0 (by omega)⟩
    · rw [if_neg c] at q
      omega
  have ht01 : tH (T 1).2.1 (T 1).2.2 = 0 ∨ tH (T 1).2.1 (T 1).2.2 = 1 := by
    unfold tH
    split
    · exact tAll_01 _ _ _
    · exact Or.inl rfl
  by_cases c : ¬ (T 1).1 = -1
  · rw [if_pos c]
    by_cases c2 : tH (T 1).2.1 (T 1).2.2 = 1
    · rw [if_pos c2]
      refine zEv_run gX9_likelier 60 [] rfl ?_
      refine zCl_e (ndt1_t (r2 c).1) (by decide) ?_
      refine zCl_e (nfc1_t (by omega) (by rw [r4]; exact hb.2.2) (by rw [r3, r4]; exact c2)) (by decide) ?_
      refine zCl_e (wlk1 hv ⟨r3, r4⟩ (hfaces c2).1 (hfaces c2).2) (by decide) ?_
      exact ⟨rfl, S, rfl, sG_r S, hv⟩
    · rw [if_neg c2]
      refine zEv_run gX9_likelier 60 [] rfl ?_
      refine zCl_e (ndt1_t (r2 c).1) (by decide) ?_
      refine zCl_e (nfc1_f (by omega) (by rw [r4]; exact hb.2.2) (by rw [r3, r4]; omega)) (by decide) ?_
      exact ⟨rfl, S, rfl, sG_r S, hv⟩
  · rw [if_neg c]
    refine zEv_run gX9_likelier 40 [] rfl ?_
    refine zCl_e (ndt1_f (r1 (Decidable.not_not.mp c))) (by decide) ?_
    exact ⟨rfl, S, rfl, sG_r S, hv⟩
set_option maxHeartbeats 1000000 in
set_option maxRecDepth 100000 in
theorem cfit1 (hv : vX S v) (hT : tX S T) : zEv X 12 mX9_fits [zR 0, zI 1] (cX S ++ t) (zTp S t (pFits v T 1)) := by
  unfold pFits pFaces
  rw [if_pos (by omega)]
  have hb := hT.1 1
  have hR : tR (S.1 21) (S.1 22) (S.1 23) (S.2.1 11) (T 1) := hT.2.2.1
  obtain ⟨r1, r2, r3, r4⟩ := hR
  have hfaces : tH (T 1).2.1 (T 1).2.2 = 1 → (1 ≤ (T 1).2.1 ∧ (T 1).2.1 ≤ 5) ∧ ∀ i : Int, 0 ≤ i → i < (T 1).2.1 → 1 ≤ (T 1).2.2 i.toNat ∧ (T 1).2.2 i.toNat ≤ 6 := by
    intro q
    unfold tH at q
    by_cases c : 1 ≤ (T 1).2.1 ∧ (T 1).2.1 ≤ 5
    · rw [if_pos c] at q
      exact ⟨c, fun i i0 i1 => tAll_f q i i0 (by omega)⟩
    · rw [if_neg c] at q
      omega
  have ht01 : tH (T 1).2.1 (T 1).2.2 = 0 ∨ tH (T 1).2.1 (T 1).2.2 = 1 := by
    unfold tH
    split
    · exact tAll_01 _ _ _
    · exact Or.inl rfl
  by_cases c : ¬ (T 1).1 = -1
  · rw [if_pos c]
    by_cases c2 : tH (T 1).2.1 (T 1).2.2 = 1
    · rw [if_pos c2]
      refine zEv_run gX9_fits 60 [] rfl ?_
      refine zCl_e (ndt1_t (r2 c).1) (by decide) ?_
      refine zCl_e (nfc1_t (by omega) (by rw [r4]; exact hb.2.2) (by rw [r3, r4]; exact c2)) (by decide) ?_
      refine zCl_e (wrd1 hv ⟨r3, r4⟩ (hfaces c2).1 (hfaces c2).2) (by decide) ?_
      exact ⟨rfl, S, rfl, sG_r S, hv⟩
    · rw [if_neg c2]
      refine zEv_run gX9_fits 60 [] rfl ?_
      refine zCl_e (ndt1_t (r2 c).1) (by decide) ?_
      refine zCl_e (nfc1_f (by omega) (by rw [r4]; exact hb.2.2) (by rw [r3, r4]; omega)) (by decide) ?_
      exact ⟨rfl, S, rfl, sG_r S, hv⟩
  · rw [if_neg c]
    refine zEv_run gX9_fits 40 [] rfl ?_
    refine zCl_e (ndt1_f (r1 (Decidable.not_not.mp c))) (by decide) ?_
    exact ⟨rfl, S, rfl, sG_r S, hv⟩
set_option maxHeartbeats 1000000 in
set_option maxRecDepth 100000 in
theorem cworn1 (hv : vX S v) (hT : tX S T) {d tt key : Int} (hd : 0 ≤ d ∧ d < v.1 1) (htt : rI tt) (hkey : rI key) : zEv X 12 mX9_worn [zR 0, zI d, zI 1, zI tt, zI key] (cX S ++ t) (zTp S t (pWorn v T d 1 tt key)) := by
  unfold pWorn pFaces
  rw [if_pos hd]
  rw [if_pos (by omega)]
  have hb := hT.1 1
  have hR : tR (S.1 21) (S.1 22) (S.1 23) (S.2.1 11) (T 1) := hT.2.2.1
  obtain ⟨r1, r2, r3, r4⟩ := hR
  have hfaces : tH (T 1).2.1 (T 1).2.2 = 1 → (1 ≤ (T 1).2.1 ∧ (T 1).2.1 ≤ 5) ∧ ∀ i : Int, 0 ≤ i → i < (T 1).2.1 → 1 ≤ (T 1).2.2 i.toNat ∧ (T 1).2.2 i.toNat ≤ 6 := by
    intro q
    unfold tH at q
    by_cases c : 1 ≤ (T 1).2.1 ∧ (T 1).2.1 ≤ 5
    · rw [if_pos c] at q
      exact ⟨c, fun i i0 i1 => tAll_f q i i0 (by omega)⟩
    · rw [if_neg c] at q
      omega
  have ht01 : tH (T 1).2.1 (T 1).2.2 = 0 ∨ tH (T 1).2.1 (T 1).2.2 = 1 := by
    unfold tH
    split
    · exact tAll_01 _ _ _
    · exact Or.inl rfl
  by_cases c : ¬ (T 1).1 = -1
  · rw [if_pos c]
    by_cases c2 : tH (T 1).2.1 (T 1).2.2 = 1
    · rw [if_pos c2]
      refine zEv_run gX9_worn 60 [] rfl ?_
      refine zCl_e (nd_t hv hd) (by decide) ?_
      refine zCl_e (ndt1_t (r2 c).1) (by decide) ?_
      refine zCl_e (nfc1_t (by omega) (by rw [r4]; exact hb.2.2) (by rw [r3, r4]; exact c2)) (by decide) ?_
      refine zCl_t (wrh1 hv ⟨r3, r4⟩ (hfaces c2).1 (hfaces c2).2 hd htt hkey) (by decide) ?_
      intro R f1 hv1
      exact ⟨rfl, R, rfl, sG_f f1, hv1⟩
    · rw [if_neg c2]
      refine zEv_run gX9_worn 60 [] rfl ?_
      refine zCl_e (nd_t hv hd) (by decide) ?_
      refine zCl_e (ndt1_t (r2 c).1) (by decide) ?_
      refine zCl_e (nfc1_f (by omega) (by rw [r4]; exact hb.2.2) (by rw [r3, r4]; omega)) (by decide) ?_
      exact ⟨rfl, S, rfl, sG_r S, hv⟩
  · rw [if_neg c]
    refine zEv_run gX9_worn 40 [] rfl ?_
    refine zCl_e (nd_t hv hd) (by decide) ?_
    refine zCl_e (ndt1_f (r1 (Decidable.not_not.mp c))) (by decide) ?_
    exact ⟨rfl, S, rfl, sG_r S, hv⟩
set_option maxHeartbeats 1000000 in
set_option maxRecDepth 100000 in
theorem ctray1 (hT : tX S T) {so mn : Int} (hso : rI so) (hmn : rI mn) : zEv X 12 mX9_tray [zR 0, zI 1, zI so, zI mn] (cX S ++ t) (zTt S t (zVr (pTray T 1 so mn).1) (pTray T 1 so mn).2) := by
  unfold pTray
  rw [if_pos (by omega)]
  have hb := hT.1 1
  have hR : tR (S.1 21) (S.1 22) (S.1 23) (S.2.1 11) (T 1) := hT.2.2.1
  by_cases c : (0 ≤ so ∧ so ≤ 3) ∧ 0 ≤ mn ∧ mn ≤ 30
  · rw [if_pos c]
    refine zEv_run gX9_tray 60 [] rfl ?_
    refine zCl_e (any1) (by decide) ?_
    refine zBrF hso (by omega) ?_
    refine zBrF ⟨hso, by simp only [rI]; omega⟩ (by omega) ?_
    refine zBrF hmn (by omega) ?_
    refine zBrT ⟨hmn, by simp only [rI]; omega⟩ (by omega) ?_
    refine zCl_i (ylb1) (by decide) ?_
    intro o9 h9 q9
    obtain ⟨rfl, f, hf1, hf2, rfl⟩ := q9
    have hf : f = fun k => if k < 30 then 0 else (T 1).2.2 k := by
      funext k
      by_cases q : k < 30
      · rw [if_pos q]
        exact hf1 k q
      · rw [if_neg q, hf2 k (by omega), hR.2.2.2]
    refine ⟨rfl, _, rfl, sH_t (sH_t (sH_t (sH_I S _ (by omega)) (sH_I _ _ (by omega))) (sH_I _ _ (by omega))) (sH_A _ _ (by omega)), tB_up hT.1 _ ⟨⟨by show -1 ≤ so; omega, by show so ≤ 3; omega⟩, c.2, fun k => ?_⟩, (by (try dsimp only); rw [tUp_o T _ (by decide)]; exact hT.2.1), ?_, (by (try dsimp only); rw [tUp_o T _ (by decide)]; exact hT.2.2.2.1), (by (try dsimp only); rw [tUp_o T _ (by decide)]; exact hT.2.2.2.2)⟩
    · show rL (if k < 30 then 0 else (T 1).2.2 k)
      split
      · simp only [rL]; omega
      · exact hb.2.2 k
    · (try dsimp only); rw [tUp_s]
      exact ⟨fun q => by have q2 : so = -1 := q; omega, fun _ => ⟨rfl, rfl⟩, rfl, hf⟩
  · rw [if_neg c]
    refine zEv_run gX9_tray 60 [] rfl ?_
    refine zCl_e (any1) (by decide) ?_
    by_cases k1 : so < 0
    · refine zBrT hso k1 ?_
      exact ⟨rfl, S, rfl, sH_r S, hT⟩
    refine zBrF hso k1 ?_
    by_cases k2 : 3 < so
    · refine zBrT ⟨hso, by simp only [rI]; omega⟩ k2 ?_
      exact ⟨rfl, S, rfl, sH_r S, hT⟩
    refine zBrF ⟨hso, by simp only [rI]; omega⟩ k2 ?_
    by_cases k3 : mn < 0
    · refine zBrT hmn k3 ?_
      exact ⟨rfl, S, rfl, sH_r S, hT⟩
    refine zBrF hmn k3 ?_
    refine zBrF ⟨hmn, by simp only [rI]; omega⟩ (by omega) ?_
    exact ⟨rfl, S, rfl, sH_r S, hT⟩
set_option maxHeartbeats 1000000 in
set_option maxRecDepth 100000 in
theorem cwrite1 (hT : tX S T) {p z : Int} (hp : rI p) (hz : rL z) : zEv X 12 mX9_write [zR 0, zI 1, zI p, zJ z] (cX S ++ t) (zTt S t (zJr (pWrite T 1 p z).1) (pWrite T 1 p z).2) := by
  unfold pWrite
  rw [if_pos (by omega)]
  have hb := hT.1 1
  have hR : tR (S.1 21) (S.1 22) (S.1 23) (S.2.1 11) (T 1) := hT.2.2.1
  obtain ⟨r1, r2, r3, r4⟩ := hR
  by_cases c : ¬ (T 1).1 = -1
  · rw [if_pos c]
    have r5 := (r2 c).2
    by_cases c2 : 0 ≤ p ∧ p < (T 1).2.1
    · rw [if_pos c2]
      refine zEv_run gX9_write 60 [] rfl ?_
      refine zCl_e (ndt1_t (r2 c).1) (by decide) ?_
      refine zBrF hp (by omega) ?_
      refine zBrT ⟨hp, by simp only [rI]; omega⟩ (by omega) ?_
      refine zCl_e (yput1 (by omega) c2.1 (by omega) (by omega)) (by decide) ?_
      have a3 : (sA S 11 (va_up (S.2.1 11) p.toNat (tCut (S.1 22) z))).1 23 = (T 1).2.1 := r3
      refine zCl_e (ynum1 (S := sA S 11 (va_up (S.2.1 11) p.toNat (tCut (S.1 22) z))) (by omega) c2.1 (by omega)) (by decide) ?_
      refine ⟨?_, _, rfl, sH_A _ _ (by omega), tB_up hT.1 _ ⟨hb.1, hb.2.1, tUp_rL hb.2.2 _ (tCut_b hz)⟩, (by (try dsimp only); rw [tUp_o T _ (by decide)]; exact hT.2.1), ?_, (by (try dsimp only); rw [tUp_o T _ (by decide)]; exact hT.2.2.2.1), (by (try dsimp only); rw [tUp_o T _ (by decide)]; exact hT.2.2.2.2)⟩
      · show (Sum.inl (some (zJ (va_up (S.2.1 11) p.toNat (tCut (S.1 22) z) p.toNat))) : zO) = Sum.inl (some (zJ (tCut (T 1).1 z)))
        rw [va_up_s, r5]
      · (try dsimp only); rw [tUp_s]
        refine ⟨r1, r2, r3, ?_⟩
        show va_up (S.2.1 11) p.toNat (tCut (S.1 22) z) = va_up (T 1).2.2 p.toNat (tCut (T 1).1 z)
        rw [r4, r5]
    · rw [if_neg c2]
      refine zEv_run gX9_write 60 [] rfl ?_
      refine zCl_e (ndt1_t (r2 c).1) (by decide) ?_
      by_cases k1 : p < 0
      · refine zBrT hp k1 ?_
        exact ⟨rfl, S, rfl, sH_r S, hT⟩
      · refine zBrF hp k1 ?_
        refine zBrF ⟨hp, by simp only [rI]; omega⟩ (by omega) ?_
        exact ⟨rfl, S, rfl, sH_r S, hT⟩
  · rw [if_neg c]
    refine zEv_run gX9_write 40 [] rfl ?_
    refine zCl_e (ndt1_f (r1 (Decidable.not_not.mp c))) (by decide) ?_
    exact ⟨rfl, S, rfl, sH_r S, hT⟩
set_option maxHeartbeats 1000000 in
set_option maxRecDepth 100000 in
theorem cpour1 (hv : vX S v) (hT : tX S T) : zEv X 12 mX9_pour [zR 0, zI 1] (cX S ++ t) (zTt S t (zIr (pPour v T 1).1) (pPour v T 1).2) := by
  unfold pPour
  rw [if_pos (by omega)]
  have hb := hT.1 1
  have hR : tR (S.1 21) (S.1 22) (S.1 23) (S.2.1 11) (T 1) := hT.2.2.1
  obtain ⟨r1, r2, r3, r4⟩ := hR
  have h4 := hv.1.2.2.2.2.1
  have e4 : S.1 16 = v.1 4 := hv.2.2.2.2.2.1
  have h1 := hv.1.2.1
  have e1 : S.1 13 = v.1 1 := hv.2.2.1
  have h2 := hv.1.2.2.1
  have e2 : S.1 14 = v.1 2 := hv.2.2.2.1
  by_cases c : ¬ (T 1).1 = -1
  · rw [if_pos c]
    have r5 := (r2 c).2
    have lp : ∀ (k : Nat) (i : Int) (f : Nat → Int), 0 ≤ i → f = vPu v (T 1).1 (T 1).2.2 i → (∀ j, rL (f j)) → i + k = min (T 1).2.1 (v.1 4) → zWP X mX9_pour 12 (zTt S t (.inl (some (zI (min (T 1).2.1 (v.1 4))))) (tUp T 1 ((T 1).1, (T 1).2.1, vPu v (T 1).1 (T 1).2.2 (min (T 1).2.1 (v.1 4))))) 24 [some (zR 0), some (zI 1), some (zR 22), some (zI (min (T 1).2.1 (v.1 4))), some (zI i)] [] (cX (sA S 11 f) ++ t) 0 0 := by
      intro k
      induction k with
      | zero =>
        intro i f i0 hf hr hk
        refine zWP_run gX9_pour 60 [24] ?_
        refine zBrT (by simp only [rI]; omega) (by omega) ?_
        refine ⟨rfl, _, rfl, sH_A _ _ (by omega), tB_up hT.1 _ ⟨hb.1, hb.2.1, ?_⟩, (by (try dsimp only); rw [tUp_o T _ (by decide)]; exact hT.2.1), ?_, (by (try dsimp only); rw [tUp_o T _ (by decide)]; exact hT.2.2.2.1), (by (try dsimp only); rw [tUp_o T _ (by decide)]; exact hT.2.2.2.2)⟩
        · intro q
          show rL (vPu v (T 1).1 (T 1).2.2 (min (T 1).2.1 (v.1 4)) q)
          rw [← show i = min (T 1).2.1 (v.1 4) by omega, ← hf]
          exact hr q
        · (try dsimp only); rw [tUp_s]
          refine ⟨r1, r2, r3, ?_⟩
          show f = vPu v (T 1).1 (T 1).2.2 (min (T 1).2.1 (v.1 4))
          rw [hf, show i = min (T 1).2.1 (v.1 4) by omega]
      | succ k ih =>
        intro i f i0 hf hr hk
        have hv2 : vX (sA S 11 f) v := hv
        have hfb := hv.1.2.2.2.2.2.2 i i0 (by omega)
        have a3 : (sA S 11 f).1 23 = (T 1).2.1 := r3
        have a5 : (sA S 11 f).1 22 = (T 1).1 := r5
        refine zWP_run gX9_pour 60 [24] ?_
        refine zBrF (by simp only [rI]; omega) (by omega) ?_
        refine zCl_e (gfk hv2 i0 (by omega)) (by decide) ?_
        refine mVc_i (by simp only [rI]; omega) ?_
        refine zCl_e (yput1 (S := sA S 11 f) (by omega) i0 (by omega) (by omega)) (by decide) ?_
        have k3 := ih (i + 1) (va_up f i.toNat (tCut ((sA S 11 f).1 22) (v.2.2.2.2.1 i))) (by omega) (by rw [vPu_s v _ _ i0, ← hf, a5]) (tUp_rL hr _ (tCut_b (by simp only [rL]; omega))) (by omega)
        have e9 : sA (sA S 11 f) 11 (va_up ((sA S 11 f).2.1 11) i.toNat (tCut ((sA S 11 f).1 22) (v.2.2.2.2.1 i))) = sA S 11 (va_up f i.toNat (tCut ((sA S 11 f).1 22) (v.2.2.2.2.1 i))) := by
          have e8 : (sA S 11 f).2.1 11 = f := va_up_s S.2.1 11 f
          rw [e8]
          show (S.1, va_up (va_up S.2.1 11 f) 11 _, S.2.2) = (S.1, va_up S.2.1 11 _, S.2.2)
          congr 2
          funext r
          by_cases q : r = 11
          · rw [q, va_up_s, va_up_s]
          · rw [va_up_o _ _ q, va_up_o _ _ q, va_up_o _ _ q]
        rw [e9]
        exact k3
    refine zEv_run gX9_pour 60 [24] rfl ?_
    refine zCl_e (ndt1_t (r2 c).1) (by decide) ?_
    refine mVc_i (by simp only [rI]; omega) ?_
    have e7 : min (S.1 23) (S.1 16) = min (T 1).2.1 (v.1 4) := by rw [r3, e4]
    rw [e7]
    have k4 := lp (min (T 1).2.1 (v.1 4)).toNat 0 (S.2.1 11) (by omega) (by rw [r4]; rfl) (by rw [r4]; exact hb.2.2) (by omega)
    have e9 : sA S 11 (S.2.1 11) = S := by
      show (S.1, va_up S.2.1 11 _, S.2.2) = S
      have e8 : va_up S.2.1 11 (S.2.1 11) = S.2.1 := by
        funext r
        by_cases q : r = 11
        · rw [q, va_up_s]
        · rw [va_up_o _ _ q]
      rw [e8]
    rw [e9] at k4
    exact k4
  · rw [if_neg c]
    refine zEv_run gX9_pour 40 [] rfl ?_
    refine zCl_e (ndt1_f (r1 (Decidable.not_not.mp c))) (by decide) ?_
    exact ⟨rfl, S, rfl, sH_r S, hT⟩
end Trays1
