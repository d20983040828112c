/-! the law's cases: salts, table, trays -/
theorem kTr_st {K Q : kK} {T : tT} (h : kTr K T) (h2 : Q.2 12 = K.2 12) (h3 : Q.2 13 = K.2 13) (h4 : Q.2 14 = K.2 14) : kTr Q T := by
  unfold kTr
  rw [h2, h3, h4]
  exact h
theorem lI_tb {S R : sS} {K Q : kK} {W : List jJ} {v v1 : vV} {T : tT} {y : Option (Int × Int)} (h : lI S K W v T) (sw : sW S R) (r0 : R.2.1 0 = S.2.1 0) (hv1 : vX R v1) (hz : (y = none ∧ R = S) ∨ ∃ z, y = some z ∧ R.1 0 = 0 ∧ R.1 5 = z.1 ∧ R.1 6 = z.2) (hr : ∀ i, (i = 3 ∨ i = 4 ∨ i = 5 ∨ i = 12 ∨ i = 13 ∨ i = 14) → Q.2 i = K.2 i) (hkv : kV (Q.2 0) v1) (hq : (y = none ∧ Q.1 1 = K.1 1 ∧ Q.1 9 = K.1 9 ∧ Q.1 10 = K.1 10) ∨ ∃ z, y = some z ∧ Q.1 1 = 0 ∧ Q.1 9 = z.1 ∧ Q.1 10 = z.2) : lI R Q W v1 T := by
  obtain ⟨-, -, h3, h4, ⟨t0, t1, t2, t3, t4, t5⟩, h6⟩ := h
  refine ⟨hv1, hkv, tX_W sw h3, kTr_st h4 (hr 12 (by omega)) (hr 13 (by omega)) (hr 14 (by omega)), ?_, iX_st h6 sw.2.2 (hr 3 (by omega)) (hr 4 (by omega))⟩
  rcases hz with ⟨e1, rfl⟩ | ⟨z, e1, z0, z5, z6⟩
  · rcases hq with ⟨-, q1, q9, q10⟩ | ⟨z, e2, -⟩
    · exact ⟨by rw [q1]; exact t0, t1, t2, fun k => by rw [hr 5 (by omega)]; exact t3 k, by rw [q9]; exact t4, by rw [q10]; exact t5⟩
    · rw [e1] at e2
      cases e2
  · rcases hq with ⟨e2, -⟩ | ⟨z2, e2, q1, q9, q10⟩
    · rw [e1] at e2
      cases e2
    · rw [e1] at e2
      cases e2
      exact ⟨by rw [z0, q1], by rw [z0]; omega, by rw [r0]; exact t2, fun k => by rw [hr 5 (by omega), r0]; exact t3 k, by rw [z5, q9], by rw [z6, q10]⟩
section Cu
variable {X : mX} {S : sS} {K : kK} {W : List jJ} {f : Nat → Int} {v : vV} {T : tT} {b s : Nat}
set_option maxHeartbeats 1000000 in
set_option maxRecDepth 100000 in
theorem case5 (hI : lI S K W v T) {i : Int} (h0 : 0 ≤ i) (h1 : i + 5 < (X.2.2.2.2.2.1 : Int)) (hX : X.2.2.2.2.2.1 ≤ 100000) (kk : lNx X i b s) : zWP X mL_law 14 lQ 566 (lL i) [] (lH S K f W) (b + 10) (s + 3000) := by
  refine zWP_run gLw_5 100 [3529] ?_
  refine mVc_i ⟨by omega, by omega, hX⟩ ?_
  have hl9 := lSalts (X := X) (S := S) (K := K) (W := cWs 46 W) (f := f) hI.1 (scr_r X (i + 1))
  refine zCl_i hl9 (by decide) ?_
  rintro o9 h9 ⟨R, f1, rfl, sg, hv1, ho⟩
  have hk9 := zEv_n (kSalts (X := X) (S := R) (K := K) (t := oC f1 :: cWs 46 W) hI.2.1 (scr_r X (i + 1)))
  generalize pSalts v (scr X (i + 1)) = r at hv1 ho hk9
  obtain ⟨y | e, v1⟩ := r
  · obtain ⟨rfl, ho⟩ := ho
    refine mVc_i ⟨by omega, by omega, hX⟩ ?_
    refine zCl_i hk9 (by decide) ?_
    rintro o9 h9 ⟨o0, ⟨z, Q, rfl, rfl, kf, hkv, ⟨hz, ht⟩⟩, rfl⟩
    refine zCl_e (kthr (S := R) (K := Q) (t := oC f1 :: cWs 46 W)) (by decide) ?_
    refine zBrT ⟨by rw [ht]; exact rI_0, rI_0⟩ ht ?_
    refine zBrT rI_0 rfl ?_
    refine mVc_i (by omega) ?_
    subst hz
    unfold w01 at ho
    refine zBr (wI_r z) (fun c => ?_) (fun c => ?_)
    · rw [if_pos c] at ho
      refine zBrT ⟨by show rL (f1 0); rw [ho]; simp only [rL]; omega, by simp only [rL]; omega⟩ ho ?_
      exact zWP_fg (kk R Q f1 W v1 T (b + 9) (s + 2994) (by omega) (by omega) (lI_g hI sg hv1 kf hkv)) (by repeat (first | exact trivial | refine ⟨rfl, ?_⟩))
    · rw [if_neg c] at ho
      refine zBrT ⟨by show rL (f1 0); rw [ho]; simp only [rL]; omega, by simp only [rL]; omega⟩ ho ?_
      exact zWP_fg (kk R Q f1 W v1 T (b + 9) (s + 2994) (by omega) (by omega) (lI_g hI sg hv1 kf hkv)) (by repeat (first | exact trivial | refine ⟨rfl, ?_⟩))
  · have ho2 : o9 = .inl (some (zI (kcd [1] e))) := ho
    subst ho2
    have hb := kcd_b [1] e
    have hb1 := kcd_1 1 [] e
    simp only [List.length_cons, List.length_nil] at hb
    refine mVc_i ⟨by omega, by omega, hX⟩ ?_
    refine zCl_i hk9 (by decide) ?_
    rintro o9 h9 ⟨o0, ⟨z, Q, rfl, rfl, kf, hkv, ht⟩, rfl⟩
    have ht2 : Q.1 0 = kcd [1] e := ht
    refine zCl_e (kthr (S := R) (K := Q) (t := oC f1 :: cWs 46 W)) (by decide) ?_
    refine zBrT ⟨by rw [ht2]; simp only [rI]; omega, by simp only [rI]; omega⟩ ht2 ?_
    refine zBrF (by simp only [rI]; omega) (by omega) ?_
    exact zWP_fg (kk R Q f1 W v1 T (b + 9) (s + 2994) (by omega) (by omega) (lI_g hI sg hv1 kf hkv)) (by repeat (first | exact trivial | refine ⟨rfl, ?_⟩))
set_option maxHeartbeats 1000000 in
set_option maxRecDepth 100000 in
theorem case1 (hI : lI S K W v T) {i : Int} (h0 : 0 ≤ i) (h1 : i + 5 < (X.2.2.2.2.2.1 : Int)) (hX : X.2.2.2.2.2.1 ≤ 100000) (kk : lNx X i b s) : zWP X mL_law 14 lQ 349 (lL i) [] (lH S K f W) (b + 10) (s + 3000) := by
  refine zWP_run gLw_1 100 [3529] ?_
  refine mVc_i ⟨by omega, by omega, hX⟩ ?_
  have t := hI.2.2.2.2.1
  have t0 := t.1
  have t1 := t.2.1
  have hl9 := lTable (X := X) (S := S) (K := K) (W := cWs 46 W) (f := f) hI.1 t.2.2.1 t1 (scr_r X (i + 1))
  refine zCl_i hl9 (by decide) ?_
  rintro o9 h9 ⟨R, f1, rfl, sw, r0, hv1, hy, ho⟩
  have hk9 := zEv_n (kTable (X := X) (S := R) (K := K) (t := oC f1 :: cWs 46 W) (B := fun a => S.2.1 0 a.toNat) hI.2.1 (fun a => t.2.2.1 _) (fun a _ => t.2.2.2.1 _) (by omega) (scr_r X (i + 1)))
  rw [← t0] at hk9
  generalize pTable v (fun a => S.2.1 0 a.toNat) (S.1 0) (scr X (i + 1)) = r at hv1 hy ho hk9
  obtain ⟨y | e, v1, yy⟩ := r
  · obtain ⟨rfl, ho⟩ := ho
    refine mVc_i ⟨by omega, by omega, hX⟩ ?_
    refine zCl_i hk9 (by decide) ?_
    rintro o9 h9 ⟨o0, ⟨z, Q, rfl, rfl, hr, hkv, ⟨hz, ht⟩, hq⟩, rfl⟩
    refine zCl_e (kthr (S := R) (K := Q) (t := oC f1 :: cWs 46 W)) (by decide) ?_
    refine zBrT ⟨by rw [ht]; exact rI_0, rI_0⟩ ht ?_
    refine zBrT rI_0 rfl ?_
    refine mVc_i (by omega) ?_
    refine mVc_i (wI_r z) ?_
    refine zBrT ⟨by show rL (f1 0); rw [ho]; exact ⟨by have := (wI_r y).1; omega, by have := (wI_r y).2; omega⟩, ⟨by have := (wI_r z).1; omega, by have := (wI_r z).2; omega⟩⟩ (by show f1 0 = _; rw [ho, hz]) ?_
    exact zWP_fg (kk R Q f1 W v1 T (b + 9) (s + 2994) (by omega) (by omega) (lI_tb hI sw r0 hv1 hy hr hkv hq)) (by repeat (first | exact trivial | refine ⟨rfl, ?_⟩))
  · have ho2 : o9 = .inl (some (zI (kcd [0] e))) := ho
    subst ho2
    have hb := kcd_b [0] e
    have hb1 := kcd_1 0 [] e
    simp only [List.length_cons, List.length_nil] at hb
    refine mVc_i ⟨by omega, by omega, hX⟩ ?_
    refine zCl_i hk9 (by decide) ?_
    rintro o9 h9 ⟨o0, ⟨z, Q, rfl, rfl, hr, hkv, ht, hq⟩, rfl⟩
    have ht2 : Q.1 0 = kcd [0] e := ht
    refine zCl_e (kthr (S := R) (K := Q) (t := oC f1 :: cWs 46 W)) (by decide) ?_
    refine zBrT ⟨by rw [ht2]; simp only [rI]; omega, by simp only [rI]; omega⟩ ht2 ?_
    refine zBrF (by simp only [rI]; omega) (by omega) ?_
    exact zWP_fg (kk R Q f1 W v1 T (b + 9) (s + 2994) (by omega) (by omega) (lI_tb hI sw r0 hv1 hy hr hkv hq)) (by repeat (first | exact trivial | refine ⟨rfl, ?_⟩))
set_option maxHeartbeats 1000000 in
set_option maxRecDepth 100000 in
theorem case51 (hI : lI S K W v T) {i : Int} (h0 : 0 ≤ i) (h1 : i + 5 < (X.2.2.2.2.2.1 : Int)) (hX : X.2.2.2.2.2.1 ≤ 100000) (kk : lNx X i b s) : zWP X mL_law 14 lQ 3376 (lL i) [] (lH S K f W) (b + 10) (s + 3000) := by
  refine zWP_run gLw_51 100 [3529] ?_
  refine mVc_i ⟨by omega, by omega, hX⟩ ?_
  have hl9 := lPour (X := X) (S := S) (K := K) (W := cWs 46 W) (f := f) hI.1 hI.2.2.1 (scr_r X (i + 1))
  refine zCl_i hl9 (by decide) ?_
  rintro o9 h9 ⟨R, f1, rfl, sg, hv1, ho⟩
  have hk9 := zEv_n (kPour (X := X) (S := R) (K := K) (t := oC f1 :: cWs 46 W) hI.2.1 hI.2.2.2.1 (scr_r X (i + 1)))
  generalize pPour v T (scr X (i + 1)) = r at hv1 ho hk9
  obtain ⟨y | e, v1⟩ := r
  · obtain ⟨rfl, ho⟩ := ho
    refine mVc_i ⟨by omega, by omega, hX⟩ ?_
    refine zCl_i hk9 (by decide) ?_
    rintro o9 h9 ⟨o0, ⟨z, Q, rfl, rfl, kf, hkv, ⟨hz, ht⟩⟩, rfl⟩
    refine zCl_e (kthr (S := R) (K := Q) (t := oC f1 :: cWs 46 W)) (by decide) ?_
    refine zBrT ⟨by rw [ht]; exact rI_0, rI_0⟩ ht ?_
    refine zBrT rI_0 rfl ?_
    refine mVc_i (by omega) ?_
    refine mVc_i (wI_r z) ?_
    refine zBrT ⟨by show rL (f1 0); rw [ho]; exact ⟨by have := (wI_r y).1; omega, by have := (wI_r y).2; omega⟩, ⟨by have := (wI_r z).1; omega, by have := (wI_r z).2; omega⟩⟩ (by show f1 0 = _; rw [ho, hz]) ?_
    exact zWP_fg (kk R Q f1 W v v1 (b + 8) (s + 2988) (by omega) (by omega) (lI_t hI sg hv1 kf hkv)) (by repeat (first | exact trivial | refine ⟨rfl, ?_⟩))
  · have ho2 : o9 = .inl (some (zI (kcd [1, 2] e))) := ho
    subst ho2
    have hb := kcd_b [1, 2] e
    have hb1 := kcd_1 1 [2] e
    simp only [List.length_cons, List.length_nil] at hb
    refine mVc_i ⟨by omega, by omega, hX⟩ ?_
    refine zCl_i hk9 (by decide) ?_
    rintro o9 h9 ⟨o0, ⟨z, Q, rfl, rfl, kf, hkv, ht⟩, rfl⟩
    have ht2 : Q.1 0 = kcd [1, 2] e := ht
    refine zCl_e (kthr (S := R) (K := Q) (t := oC f1 :: cWs 46 W)) (by decide) ?_
    refine zBrT ⟨by rw [ht2]; simp only [rI]; omega, by simp only [rI]; omega⟩ ht2 ?_
    refine zBrF (by simp only [rI]; omega) (by omega) ?_
    exact zWP_fg (kk R Q f1 W v v1 (b + 8) (s + 2988) (by omega) (by omega) (lI_t hI sg hv1 kf hkv)) (by repeat (first | exact trivial | refine ⟨rfl, ?_⟩))
set_option maxHeartbeats 1000000 in
set_option maxRecDepth 100000 in
theorem case49 (hI : lI S K W v T) {i : Int} (h0 : 0 ≤ i) (h1 : i + 5 < (X.2.2.2.2.2.1 : Int)) (hX : X.2.2.2.2.2.1 ≤ 100000) (kk : lNx X i b s) : zWP X mL_law 14 lQ 3205 (lL i) [] (lH S K f W) (b + 10) (s + 3000) := by
  refine zWP_run gLw_49 100 [3529] ?_
  refine mVc_i ⟨by omega, by omega, hX⟩ ?_
  refine mVc_i ⟨by omega, by omega, hX⟩ ?_
  refine mVc_i ⟨by omega, by omega, hX⟩ ?_
  have hl9 := lTray (X := X) (S := S) (t := cM K ++ (oC f :: cWs 46 W)) hI.2.2.1 (scr_r X (i + 1)) (scr_r X (i + 2)) (scr_r X (i + 3))
  refine zCl_i hl9 (by decide) ?_
  rintro o9 h9 ⟨rfl, R, rfl, sg, hv1⟩
  refine mVc_i ⟨by omega, by omega, hX⟩ ?_
  refine mVc_i ⟨by omega, by omega, hX⟩ ?_
  refine mVc_i ⟨by omega, by omega, hX⟩ ?_
  have hk9 := kTray (X := X) (S := R) (K := K) (t := oC f :: cWs 46 W) hI.2.2.2.1 (scr_r X (i + 1)) (scr_r X (i + 2)) (scr_r X (i + 3))
  refine zCl_i hk9 (by decide) ?_
  rintro o9 h9 ⟨rfl, Q, rfl, kf, hkv, ht⟩
  refine zCl_e (kthr (S := R) (K := Q) (t := oC f :: cWs 46 W)) (by decide) ?_
  have hb := kcd_b [1, 0] (pTray T (scr X (i + 1)) (scr X (i + 2)) (scr X (i + 3))).1
  simp only [List.length_cons, List.length_nil] at hb
  have hr : rI (if (pTray T (scr X (i + 1)) (scr X (i + 2)) (scr X (i + 3))).1 = 9 then 0 else kcd [1, 0] (pTray T (scr X (i + 1)) (scr X (i + 2)) (scr X (i + 3))).1) := by
    split
    · exact rI_0
    · simp only [rI]; omega
  refine zBrT ⟨by rw [ht]; exact hr, hr⟩ ht ?_
  exact zWP_fg (kk R Q f W v _ (b + 8) (s + 2988) (by omega) (by omega) (lI_t hI sg hv1 kf hkv)) (by repeat (first | exact trivial | refine ⟨rfl, ?_⟩))
end Cu
