/-! the law's cases -/
section Csb
variable {X : mX} {S : sS} {K : kK} {W : List jJ} {f : Nat → Int} {v : vV} {T : tT} {b s : Nat}
set_option maxHeartbeats 1000000 in
set_option maxRecDepth 100000 in
theorem case14 (hI : lI S K W v T) {i : Int} (h0 : 0 ≤ i) (h1 : i + 5 < (X.2.2.2.2.2.1 : Int)) (hX : X.2.2.2.2.2.1 ≤ 100000) (kk : lNx X i b s) : zWP X mL_law 14 lQ 1161 (lL i) [] (lH S K f W) (b + 10) (s + 3000) := by
  refine zWP_run gLw_14 100 [3529] ?_
  refine mVc_i ⟨by omega, by omega, hX⟩ ?_
  refine mVc_i ⟨by omega, by omega, hX⟩ ?_
  refine mVc_i ⟨by omega, by omega, hX⟩ ?_
  have hl9 := lEaten (X := X) (S := S) (K := K) (W := cWs 46 W) (f := f) hI.1 (scr_r X (i + 1)) (scr_r X (i + 2)) (scr_r X (i + 3))
  refine zCl_i hl9 (by decide) ?_
  rintro o9 h9 ⟨R, f1, rfl, sg, hv1, ho⟩
  have hk9 := zEv_n (kEaten (X := X) (S := R) (K := K) (t := oC f1 :: cWs 46 W) hI.2.1 (scr_r X (i + 1)) (scr_r X (i + 2)) (scr_r X (i + 3)))
  generalize pEaten v (scr X (i + 1)) (scr X (i + 2)) (scr X (i + 3)) = r at hv1 ho hk9
  obtain ⟨y | e, v1⟩ := r
  · obtain ⟨rfl, ho⟩ := ho
    refine mVc_i ⟨by omega, by omega, hX⟩ ?_
    refine mVc_i ⟨by omega, by omega, hX⟩ ?_
    refine mVc_i ⟨by omega, by omega, hX⟩ ?_
    refine zCl_i hk9 (by decide) ?_
    rintro o9 h9 ⟨o0, ⟨z, Q, rfl, rfl, kf, hkv, hz, ht⟩, rfl⟩
    refine zCl_e (kthr (S := R) (K := Q) (t := oC f1 :: cWs 46 W)) (by decide) ?_
    refine zBrT ⟨by rw [ht]; exact rI_0, rI_0⟩ ht ?_
    refine zBrT rI_0 rfl ?_
    refine mVc_i (by omega) ?_
    refine mVc_i (wI_r z) ?_
    refine zBrT ⟨by show rL (f1 0); rw [ho]; exact ⟨by have := (wI_r y).1; omega, by have := (wI_r y).2; omega⟩, ⟨by have := (wI_r z).1; omega, by have := (wI_r z).2; omega⟩⟩ (by show f1 0 = _; rw [ho, hz]) ?_
    exact zWP_fg (kk R Q f1 W v1 T (b + 7) (s + 2982) (by omega) (by omega) (lI_g hI sg hv1 kf hkv)) (by repeat (first | exact trivial | refine ⟨rfl, ?_⟩))
  · have ho2 : o9 = .inl (some (zI (kcd [1, 0] e))) := ho
    subst ho2
    have hb := kcd_b [1, 0] e
    have hb1 := kcd_1 1 [0] e
    simp only [List.length_cons, List.length_nil] at hb
    refine mVc_i ⟨by omega, by omega, hX⟩ ?_
    refine mVc_i ⟨by omega, by omega, hX⟩ ?_
    refine mVc_i ⟨by omega, by omega, hX⟩ ?_
    refine zCl_i hk9 (by decide) ?_
    rintro o9 h9 ⟨o0, ⟨z, Q, rfl, rfl, kf, hkv, ht⟩, rfl⟩
    have ht2 : Q.1 0 = kcd [1, 0] e := ht
    refine zCl_e (kthr (S := R) (K := Q) (t := oC f1 :: cWs 46 W)) (by decide) ?_
    refine zBrT ⟨by rw [ht2]; simp only [rI]; omega, by simp only [rI]; omega⟩ ht2 ?_
    refine zBrF (by simp only [rI]; omega) (by omega) ?_
    exact zWP_fg (kk R Q f1 W v1 T (b + 7) (s + 2982) (by omega) (by omega) (lI_g hI sg hv1 kf hkv)) (by repeat (first | exact trivial | refine ⟨rfl, ?_⟩))
set_option maxHeartbeats 1000000 in
set_option maxRecDepth 100000 in
theorem case15 (hI : lI S K W v T) {i : Int} (h0 : 0 ≤ i) (h1 : i + 5 < (X.2.2.2.2.2.1 : Int)) (hX : X.2.2.2.2.2.1 ≤ 100000) (kk : lNx X i b s) : zWP X mL_law 14 lQ 1241 (lL i) [] (lH S K f W) (b + 10) (s + 3000) := by
  refine zWP_run gLw_15 100 [3529] ?_
  refine mVc_i ⟨by omega, by omega, hX⟩ ?_
  have hl9 := lLasts (X := X) (S := S) (K := K) (W := cWs 46 W) (f := f) hI.1 (scr_r X (i + 1))
  refine zCl_i hl9 (by decide) ?_
  rintro o9 h9 ⟨R, f1, rfl, sg, hv1, ho⟩
  have hk9 := zEv_n (kLasts (X := X) (S := R) (K := K) (t := oC f1 :: cWs 46 W) hI.2.1 (scr_r X (i + 1)))
  generalize pLasts v (scr X (i + 1)) = r at hv1 ho hk9
  obtain ⟨y | e, v1⟩ := r
  · obtain ⟨rfl, ho⟩ := ho
    refine mVc_i ⟨by omega, by omega, hX⟩ ?_
    refine zCl_i hk9 (by decide) ?_
    rintro o9 h9 ⟨o0, ⟨z, Q, rfl, rfl, kf, hkv, hz, ht⟩, rfl⟩
    refine zCl_e (kthr (S := R) (K := Q) (t := oC f1 :: cWs 46 W)) (by decide) ?_
    refine zBrT ⟨by rw [ht]; exact rI_0, rI_0⟩ ht ?_
    refine zBrT rI_0 rfl ?_
    refine mVc_i (by omega) ?_
    refine mVc_i (wI_r z) ?_
    refine zBrT ⟨by show rL (f1 0); rw [ho]; exact ⟨by have := (wI_r y).1; omega, by have := (wI_r y).2; omega⟩, ⟨by have := (wI_r z).1; omega, by have := (wI_r z).2; omega⟩⟩ (by show f1 0 = _; rw [ho, hz]) ?_
    exact zWP_fg (kk R Q f1 W v1 T (b + 9) (s + 2994) (by omega) (by omega) (lI_g hI sg hv1 kf hkv)) (by repeat (first | exact trivial | refine ⟨rfl, ?_⟩))
  · have ho2 : o9 = .inl (some (zI (kcd [1] e))) := ho
    subst ho2
    have hb := kcd_b [1] e
    have hb1 := kcd_1 1 [] e
    simp only [List.length_cons, List.length_nil] at hb
    refine mVc_i ⟨by omega, by omega, hX⟩ ?_
    refine zCl_i hk9 (by decide) ?_
    rintro o9 h9 ⟨o0, ⟨z, Q, rfl, rfl, kf, hkv, ht⟩, rfl⟩
    have ht2 : Q.1 0 = kcd [1] e := ht
    refine zCl_e (kthr (S := R) (K := Q) (t := oC f1 :: cWs 46 W)) (by decide) ?_
    refine zBrT ⟨by rw [ht2]; simp only [rI]; omega, by simp only [rI]; omega⟩ ht2 ?_
    refine zBrF (by simp only [rI]; omega) (by omega) ?_
    exact zWP_fg (kk R Q f1 W v1 T (b + 9) (s + 2994) (by omega) (by omega) (lI_g hI sg hv1 kf hkv)) (by repeat (first | exact trivial | refine ⟨rfl, ?_⟩))
set_option maxHeartbeats 1000000 in
set_option maxRecDepth 100000 in
theorem case16 (hI : lI S K W v T) {i : Int} (h0 : 0 ≤ i) (h1 : i + 5 < (X.2.2.2.2.2.1 : Int)) (hX : X.2.2.2.2.2.1 ≤ 100000) (kk : lNx X i b s) : zWP X mL_law 14 lQ 1297 (lL i) [] (lH S K f W) (b + 10) (s + 3000) := by
  refine zWP_run gLw_16 100 [3529] ?_
  refine mVc_i ⟨by omega, by omega, hX⟩ ?_
  have hl9 := lLastFace (X := X) (S := S) (K := K) (W := cWs 46 W) (f := f) hI.1 (scr_r X (i + 1))
  refine zCl_i hl9 (by decide) ?_
  rintro o9 h9 ⟨R, f1, rfl, sg, hv1, ho⟩
  have hk9 := zEv_n (kLastFace (X := X) (S := R) (K := K) (t := oC f1 :: cWs 46 W) hI.2.1 (scr_r X (i + 1)))
  generalize pLastFace v (scr X (i + 1)) = r at hv1 ho hk9
  obtain ⟨y | e, v1⟩ := r
  · obtain ⟨rfl, ho⟩ := ho
    refine mVc_i ⟨by omega, by omega, hX⟩ ?_
    refine zCl_i hk9 (by decide) ?_
    rintro o9 h9 ⟨o0, ⟨z, Q, rfl, rfl, kf, hkv, hz, ht⟩, rfl⟩
    refine zCl_e (kthr (S := R) (K := Q) (t := oC f1 :: cWs 46 W)) (by decide) ?_
    refine zBrT ⟨by rw [ht]; exact rI_0, rI_0⟩ ht ?_
    refine zBrT rI_0 rfl ?_
    refine mVc_i (by omega) ?_
    refine mVc_i (wI_r z) ?_
    refine zBrT ⟨by show rL (f1 0); rw [ho]; exact ⟨by have := (wI_r y).1; omega, by have := (wI_r y).2; omega⟩, ⟨by have := (wI_r z).1; omega, by have := (wI_r z).2; omega⟩⟩ (by show f1 0 = _; rw [ho, hz]) ?_
    exact zWP_fg (kk R Q f1 W v1 T (b + 9) (s + 2994) (by omega) (by omega) (lI_g hI sg hv1 kf hkv)) (by repeat (first | exact trivial | refine ⟨rfl, ?_⟩))
  · have ho2 : o9 = .inl (some (zI (kcd [1] e))) := ho
    subst ho2
    have hb := kcd_b [1] e
    have hb1 := kcd_1 1 [] e
    simp only [List.length_cons, List.length_nil] at hb
    refine mVc_i ⟨by omega, by omega, hX⟩ ?_
    refine zCl_i hk9 (by decide) ?_
    rintro o9 h9 ⟨o0, ⟨z, Q, rfl, rfl, kf, hkv, ht⟩, rfl⟩
    have ht2 : Q.1 0 = kcd [1] e := ht
    refine zCl_e (kthr (S := R) (K := Q) (t := oC f1 :: cWs 46 W)) (by decide) ?_
    refine zBrT ⟨by rw [ht2]; simp only [rI]; omega, by simp only [rI]; omega⟩ ht2 ?_
    refine zBrF (by simp only [rI]; omega) (by omega) ?_
    exact zWP_fg (kk R Q f1 W v1 T (b + 9) (s + 2994) (by omega) (by omega) (lI_g hI sg hv1 kf hkv)) (by repeat (first | exact trivial | refine ⟨rfl, ?_⟩))
set_option maxHeartbeats 1000000 in
set_option maxRecDepth 100000 in
theorem case17 (hI : lI S K W v T) {i : Int} (h0 : 0 ≤ i) (h1 : i + 5 < (X.2.2.2.2.2.1 : Int)) (hX : X.2.2.2.2.2.1 ≤ 100000) (kk : lNx X i b s) : zWP X mL_law 14 lQ 1353 (lL i) [] (lH S K f W) (b + 10) (s + 3000) := by
  refine zWP_run gLw_17 100 [3529] ?_
  refine mVc_i ⟨by omega, by omega, hX⟩ ?_
  have hl9 := lRain (X := X) (S := S) (K := K) (W := cWs 46 W) (f := f) hI.1 (scr_r X (i + 1))
  refine zCl_i hl9 (by decide) ?_
  rintro o9 h9 ⟨R, f1, rfl, sg, hv1, ho⟩
  have hk9 := zEv_n (kRain (X := X) (S := R) (K := K) (t := oC f1 :: cWs 46 W) hI.2.1 (scr_r X (i + 1)))
  generalize pRain v (scr X (i + 1)) = r at hv1 ho hk9
  obtain ⟨y | e, v1⟩ := r
  · obtain ⟨rfl, ho⟩ := ho
    refine mVc_i ⟨by omega, by omega, hX⟩ ?_
    refine zCl_i hk9 (by decide) ?_
    rintro o9 h9 ⟨o0, ⟨z, Q, rfl, rfl, kf, hkv, hz, ht⟩, rfl⟩
    refine zCl_e (kthr (S := R) (K := Q) (t := oC f1 :: cWs 46 W)) (by decide) ?_
    refine zBrT ⟨by rw [ht]; exact rI_0, rI_0⟩ ht ?_
    refine zBrT rI_0 rfl ?_
    refine mVc_i (by omega) ?_
    refine mVc_i (wI_r z) ?_
    refine zBrT ⟨by show rL (f1 0); rw [ho]; exact ⟨by have := (wI_r y).1; omega, by have := (wI_r y).2; omega⟩, ⟨by have := (wI_r z).1; omega, by have := (wI_r z).2; omega⟩⟩ (by show f1 0 = _; rw [ho, hz]) ?_
    exact zWP_fg (kk R Q f1 W v1 T (b + 9) (s + 2994) (by omega) (by omega) (lI_g hI sg hv1 kf hkv)) (by repeat (first | exact trivial | refine ⟨rfl, ?_⟩))
  · have ho2 : o9 = .inl (some (zI (kcd [0] e))) := ho
    subst ho2
    have hb := kcd_b [0] e
    have hb1 := kcd_1 0 [] e
    simp only [List.length_cons, List.length_nil] at hb
    refine mVc_i ⟨by omega, by omega, hX⟩ ?_
    refine zCl_i hk9 (by decide) ?_
    rintro o9 h9 ⟨o0, ⟨z, Q, rfl, rfl, kf, hkv, ht⟩, rfl⟩
    have ht2 : Q.1 0 = kcd [0] e := ht
    refine zCl_e (kthr (S := R) (K := Q) (t := oC f1 :: cWs 46 W)) (by decide) ?_
    refine zBrT ⟨by rw [ht2]; simp only [rI]; omega, by simp only [rI]; omega⟩ ht2 ?_
    refine zBrF (by simp only [rI]; omega) (by omega) ?_
    exact zWP_fg (kk R Q f1 W v1 T (b + 9) (s + 2994) (by omega) (by omega) (lI_g hI sg hv1 kf hkv)) (by repeat (first | exact trivial | refine ⟨rfl, ?_⟩))
set_option maxHeartbeats 1000000 in
set_option maxRecDepth 100000 in
theorem case18 (hI : lI S K W v T) {i : Int} (h0 : 0 ≤ i) (h1 : i + 5 < (X.2.2.2.2.2.1 : Int)) (hX : X.2.2.2.2.2.1 ≤ 100000) (kk : lNx X i b s) : zWP X mL_law 14 lQ 1409 (lL i) [] (lH S K f W) (b + 10) (s + 3000) := by
  refine zWP_run gLw_18 100 [3529] ?_
  refine mVc_i ⟨by omega, by omega, hX⟩ ?_
  have hl9 := lFan (X := X) (S := S) (K := K) (W := cWs 46 W) (f := f) hI.1 (scr_r X (i + 1))
  refine zCl_i hl9 (by decide) ?_
  rintro o9 h9 ⟨R, f1, rfl, sg, hv1, ho⟩
  have hk9 := zEv_n (kFan (X := X) (S := R) (K := K) (t := oC f1 :: cWs 46 W) hI.2.1 (scr_r X (i + 1)))
  generalize pFan v (scr X (i + 1)) = r at hv1 ho hk9
  obtain ⟨y | e, v1⟩ := r
  · obtain ⟨rfl, ho⟩ := ho
    refine mVc_i ⟨by omega, by omega, hX⟩ ?_
    refine zCl_i hk9 (by decide) ?_
    rintro o9 h9 ⟨o0, ⟨z, Q, rfl, rfl, kf, hkv, hz, ht⟩, rfl⟩
    refine zCl_e (kthr (S := R) (K := Q) (t := oC f1 :: cWs 46 W)) (by decide) ?_
    refine zBrT ⟨by rw [ht]; exact rI_0, rI_0⟩ ht ?_
    refine zBrT rI_0 rfl ?_
    refine mVc_i (by omega) ?_
    refine mVc_i (wI_r z) ?_
    refine zBrT ⟨by show rL (f1 0); rw [ho]; exact ⟨by have := (wI_r y).1; omega, by have := (wI_r y).2; omega⟩, ⟨by have := (wI_r z).1; omega, by have := (wI_r z).2; omega⟩⟩ (by show f1 0 = _; rw [ho, hz]) ?_
    exact zWP_fg (kk R Q f1 W v1 T (b + 9) (s + 2994) (by omega) (by omega) (lI_g hI sg hv1 kf hkv)) (by repeat (first | exact trivial | refine ⟨rfl, ?_⟩))
  · have ho2 : o9 = .inl (some (zI (kcd [1] e))) := ho
    subst ho2
    have hb := kcd_b [1] e
    have hb1 := kcd_1 1 [] e
    simp only [List.length_cons, List.length_nil] at hb
    refine mVc_i ⟨by omega, by omega, hX⟩ ?_
    refine zCl_i hk9 (by decide) ?_
    rintro o9 h9 ⟨o0, ⟨z, Q, rfl, rfl, kf, hkv, ht⟩, rfl⟩
    have ht2 : Q.1 0 = kcd [1] e := ht
    refine zCl_e (kthr (S := R) (K := Q) (t := oC f1 :: cWs 46 W)) (by decide) ?_
    refine zBrT ⟨by rw [ht2]; simp only [rI]; omega, by simp only [rI]; omega⟩ ht2 ?_
    refine zBrF (by simp only [rI]; omega) (by omega) ?_
    exact zWP_fg (kk R Q f1 W v1 T (b + 9) (s + 2994) (by omega) (by omega) (lI_g hI sg hv1 kf hkv)) (by repeat (first | exact trivial | refine ⟨rfl, ?_⟩))
set_option maxHeartbeats 1000000 in
set_option maxRecDepth 100000 in
theorem case20 (hI : lI S K W v T) {i : Int} (h0 : 0 ≤ i) (h1 : i + 5 < (X.2.2.2.2.2.1 : Int)) (hX : X.2.2.2.2.2.1 ≤ 100000) (kk : lNx X i b s) : zWP X mL_law 14 lQ 1490 (lL i) [] (lH S K f W) (b + 10) (s + 3000) := by
  refine zWP_run gLw_20 100 [3529] ?_
  refine mVc_i ⟨by omega, by omega, hX⟩ ?_
  have hl9 := lWhole (X := X) (S := S) (K := K) (W := cWs 46 W) (f := f) hI.1 (scr_r X (i + 1))
  refine zCl_i hl9 (by decide) ?_
  rintro o9 h9 ⟨R, f1, rfl, sg, hv1, ho⟩
  have hk9 := zEv_n (kWhole (X := X) (S := R) (K := K) (t := oC f1 :: cWs 46 W) hI.2.1 (scr_r X (i + 1)))
  generalize pWhole v (scr X (i + 1)) = r at hv1 ho hk9
  obtain ⟨y | e, v1⟩ := r
  · obtain ⟨rfl, ho⟩ := ho
    refine mVc_i ⟨by omega, by omega, hX⟩ ?_
    refine zCl_i hk9 (by decide) ?_
    rintro o9 h9 ⟨o0, ⟨z, Q, rfl, rfl, kf, hkv, hz, ht⟩, rfl⟩
    refine zCl_e (kthr (S := R) (K := Q) (t := oC f1 :: cWs 46 W)) (by decide) ?_
    refine zBrT ⟨by rw [ht]; exact rI_0, rI_0⟩ ht ?_
    refine zBrT rI_0 rfl ?_
    refine mVc_i (by omega) ?_
    refine zBrT ⟨by show rL (f1 0); rw [ho]; exact wJ_r y, wJ_r z⟩ (by show f1 0 = _; rw [ho, hz]) ?_
    exact zWP_fg (kk R Q f1 W v1 T (b + 8) (s + 2988) (by omega) (by omega) (lI_g hI sg hv1 kf hkv)) (by repeat (first | exact trivial | refine ⟨rfl, ?_⟩))
  · have ho2 : o9 = .inl (some (zI (kcd [0, 2] e))) := ho
    subst ho2
    have hb := kcd_b [0, 2] e
    have hb1 := kcd_1 0 [2] e
    simp only [List.length_cons, List.length_nil] at hb
    refine mVc_i ⟨by omega, by omega, hX⟩ ?_
    refine zCl_i hk9 (by decide) ?_
    rintro o9 h9 ⟨o0, ⟨z, Q, rfl, rfl, kf, hkv, ht⟩, rfl⟩
    have ht2 : Q.1 0 = kcd [0, 2] e := ht
    refine zCl_e (kthr (S := R) (K := Q) (t := oC f1 :: cWs 46 W)) (by decide) ?_
    refine zBrT ⟨by rw [ht2]; simp only [rI]; omega, by simp only [rI]; omega⟩ ht2 ?_
    refine zBrF (by simp only [rI]; omega) (by omega) ?_
    exact zWP_fg (kk R Q f1 W v1 T (b + 8) (s + 2988) (by omega) (by omega) (lI_g hI sg hv1 kf hkv)) (by repeat (first | exact trivial | refine ⟨rfl, ?_⟩))
set_option maxHeartbeats 1000000 in
set_option maxRecDepth 100000 in
theorem case21 (hI : lI S K W v T) {i : Int} (h0 : 0 ≤ i) (h1 : i + 5 < (X.2.2.2.2.2.1 : Int)) (hX : X.2.2.2.2.2.1 ≤ 100000) (kk : lNx X i b s) : zWP X mL_law 14 lQ 1545 (lL i) [] (lH S K f W) (b + 10) (s + 3000) := by
  refine zWP_run gLw_21 100 [3529] ?_
  refine mVc_i ⟨by omega, by omega, hX⟩ ?_
  refine mVc_i ⟨by omega, by omega, hX⟩ ?_
  have hl9 := lSum (X := X) (S := S) (K := K) (W := cWs 46 W) (f := f) hI.1 (scr_r X (i + 1)) (scr_r X (i + 2))
  refine zCl_i hl9 (by decide) ?_
  rintro o9 h9 ⟨R, f1, rfl, sg, hv1, ho⟩
  have hk9 := zEv_n (kSum (X := X) (S := R) (K := K) (t := oC f1 :: cWs 46 W) hI.2.1 (scr_r X (i + 1)) (scr_r X (i + 2)))
  generalize pSum v (scr X (i + 1)) (scr X (i + 2)) = r at hv1 ho hk9
  obtain ⟨y | e, v1⟩ := r
  · obtain ⟨rfl, ho⟩ := ho
    refine mVc_i ⟨by omega, by omega, hX⟩ ?_
    refine mVc_i ⟨by omega, by omega, hX⟩ ?_
    refine zCl_i hk9 (by decide) ?_
    rintro o9 h9 ⟨o0, ⟨z, Q, rfl, rfl, kf, hkv, hz, ht⟩, rfl⟩
    refine zCl_e (kthr (S := R) (K := Q) (t := oC f1 :: cWs 46 W)) (by decide) ?_
    refine zBrT ⟨by rw [ht]; exact rI_0, rI_0⟩ ht ?_
    refine zBrT rI_0 rfl ?_
    refine mVc_i (by omega) ?_
    refine zBrT ⟨by show rL (f1 0); rw [ho]; exact wJ_r y, wJ_r z⟩ (by show f1 0 = _; rw [ho, hz]) ?_
    exact zWP_fg (kk R Q f1 W v1 T (b + 8) (s + 2988) (by omega) (by omega) (lI_g hI sg hv1 kf hkv)) (by repeat (first | exact trivial | refine ⟨rfl, ?_⟩))
  · have ho2 : o9 = .inl (some (zI (kcd [0, 2] e))) := ho
    subst ho2
    have hb := kcd_b [0, 2] e
    have hb1 := kcd_1 0 [2] e
    simp only [List.length_cons, List.length_nil] at hb
    refine mVc_i ⟨by omega, by omega, hX⟩ ?_
    refine mVc_i ⟨by omega, by omega, hX⟩ ?_
    refine zCl_i hk9 (by decide) ?_
    rintro o9 h9 ⟨o0, ⟨z, Q, rfl, rfl, kf, hkv, ht⟩, rfl⟩
    have ht2 : Q.1 0 = kcd [0, 2] e := ht
    refine zCl_e (kthr (S := R) (K := Q) (t := oC f1 :: cWs 46 W)) (by decide) ?_
    refine zBrT ⟨by rw [ht2]; simp only [rI]; omega, by simp only [rI]; omega⟩ ht2 ?_
    refine zBrF (by simp only [rI]; omega) (by omega) ?_
    exact zWP_fg (kk R Q f1 W v1 T (b + 8) (s + 2988) (by omega) (by omega) (lI_g hI sg hv1 kf hkv)) (by repeat (first | exact trivial | refine ⟨rfl, ?_⟩))
set_option maxHeartbeats 1000000 in
set_option maxRecDepth 100000 in
theorem case22 (hI : lI S K W v T) {i : Int} (h0 : 0 ≤ i) (h1 : i + 5 < (X.2.2.2.2.2.1 : Int)) (hX : X.2.2.2.2.2.1 ≤ 100000) (kk : lNx X i b s) : zWP X mL_law 14 lQ 1612 (lL i) [] (lH S K f W) (b + 10) (s + 3000) := by
  refine zWP_run gLw_22 100 [3529] ?_
  refine mVc_i ⟨by omega, by omega, hX⟩ ?_
  refine mVc_i ⟨by omega, by omega, hX⟩ ?_
  have hl9 := lLeast (X := X) (S := S) (K := K) (W := cWs 46 W) (f := f) hI.1 (scr_r X (i + 1)) (scr_r X (i + 2))
  refine zCl_i hl9 (by decide) ?_
  rintro o9 h9 ⟨R, f1, rfl, sg, hv1, ho⟩
  have hk9 := zEv_n (kLeast (X := X) (S := R) (K := K) (t := oC f1 :: cWs 46 W) hI.2.1 (scr_r X (i + 1)) (scr_r X (i + 2)))
  generalize pLeast v (scr X (i + 1)) (scr X (i + 2)) = r at hv1 ho hk9
  obtain ⟨y | e, v1⟩ := r
  · obtain ⟨rfl, ho⟩ := ho
    refine mVc_i ⟨by omega, by omega, hX⟩ ?_
    refine mVc_i ⟨by omega, by omega, hX⟩ ?_
    refine zCl_i hk9 (by decide) ?_
    rintro o9 h9 ⟨o0, ⟨z, Q, rfl, rfl, kf, hkv, hz, ht⟩, rfl⟩
    refine zCl_e (kthr (S := R) (K := Q) (t := oC f1 :: cWs 46 W)) (by decide) ?_
    refine zBrT ⟨by rw [ht]; exact rI_0, rI_0⟩ ht ?_
    refine zBrT rI_0 rfl ?_
    refine mVc_i (by omega) ?_
    refine zBrT ⟨by show rL (f1 0); rw [ho]; exact wJ_r y, wJ_r z⟩ (by show f1 0 = _; rw [ho, hz]) ?_
    exact zWP_fg (kk R Q f1 W v1 T (b + 8) (s + 2988) (by omega) (by omega) (lI_g hI sg hv1 kf hkv)) (by repeat (first | exact trivial | refine ⟨rfl, ?_⟩))
  · have ho2 : o9 = .inl (some (zI (kcd [0, 2] e))) := ho
    subst ho2
    have hb := kcd_b [0, 2] e
    have hb1 := kcd_1 0 [2] e
    simp only [List.length_cons, List.length_nil] at hb
    refine mVc_i ⟨by omega, by omega, hX⟩ ?_
    refine mVc_i ⟨by omega, by omega, hX⟩ ?_
    refine zCl_i hk9 (by decide) ?_
    rintro o9 h9 ⟨o0, ⟨z, Q, rfl, rfl, kf, hkv, ht⟩, rfl⟩
    have ht2 : Q.1 0 = kcd [0, 2] e := ht
    refine zCl_e (kthr (S := R) (K := Q) (t := oC f1 :: cWs 46 W)) (by decide) ?_
    refine zBrT ⟨by rw [ht2]; simp only [rI]; omega, by simp only [rI]; omega⟩ ht2 ?_
    refine zBrF (by simp only [rI]; omega) (by omega) ?_
    exact zWP_fg (kk R Q f1 W v1 T (b + 8) (s + 2988) (by omega) (by omega) (lI_g hI sg hv1 kf hkv)) (by repeat (first | exact trivial | refine ⟨rfl, ?_⟩))
set_option maxHeartbeats 1000000 in
set_option maxRecDepth 100000 in
theorem case23 (hI : lI S K W v T) {i : Int} (h0 : 0 ≤ i) (h1 : i + 5 < (X.2.2.2.2.2.1 : Int)) (hX : X.2.2.2.2.2.1 ≤ 100000) (kk : lNx X i b s) : zWP X mL_law 14 lQ 1679 (lL i) [] (lH S K f W) (b + 10) (s + 3000) := by
  refine zWP_run gLw_23 100 [3529] ?_
  refine mVc_i ⟨by omega, by omega, hX⟩ ?_
  have hl9 := lAlike (X := X) (S := S) (K := K) (W := cWs 46 W) (f := f) hI.1 (scr_r X (i + 1))
  refine zCl_i hl9 (by decide) ?_
  rintro o9 h9 ⟨R, f1, rfl, sg, hv1, ho⟩
  have hk9 := zEv_n (kAlike (X := X) (S := R) (K := K) (t := oC f1 :: cWs 46 W) hI.2.1 (scr_r X (i + 1)))
  generalize pAlike v (scr X (i + 1)) = r at hv1 ho hk9
  obtain ⟨y | e, v1⟩ := r
  · obtain ⟨rfl, ho⟩ := ho
    refine mVc_i ⟨by omega, by omega, hX⟩ ?_
    refine zCl_i hk9 (by decide) ?_
    rintro o9 h9 ⟨o0, ⟨z, Q, rfl, rfl, kf, hkv, hz, ht⟩, rfl⟩
    refine zCl_e (kthr (S := R) (K := Q) (t := oC f1 :: cWs 46 W)) (by decide) ?_
    refine zBrT ⟨by rw [ht]; exact rI_0, rI_0⟩ ht ?_
    refine zBrT rI_0 rfl ?_
    refine mVc_i (by omega) ?_
    refine zBrT ⟨by show rL (f1 0); rw [ho]; exact wJ_r y, wJ_r z⟩ (by show f1 0 = _; rw [ho, hz]) ?_
    exact zWP_fg (kk R Q f1 W v1 T (b + 8) (s + 2988) (by omega) (by omega) (lI_g hI sg hv1 kf hkv)) (by repeat (first | exact trivial | refine ⟨rfl, ?_⟩))
  · have ho2 : o9 = .inl (some (zI (kcd [0, 2] e))) := ho
    subst ho2
    have hb := kcd_b [0, 2] e
    have hb1 := kcd_1 0 [2] e
    simp only [List.length_cons, List.length_nil] at hb
    refine mVc_i ⟨by omega, by omega, hX⟩ ?_
    refine zCl_i hk9 (by decide) ?_
    rintro o9 h9 ⟨o0, ⟨z, Q, rfl, rfl, kf, hkv, ht⟩, rfl⟩
    have ht2 : Q.1 0 = kcd [0, 2] e := ht
    refine zCl_e (kthr (S := R) (K := Q) (t := oC f1 :: cWs 46 W)) (by decide) ?_
    refine zBrT ⟨by rw [ht2]; simp only [rI]; omega, by simp only [rI]; omega⟩ ht2 ?_
    refine zBrF (by simp only [rI]; omega) (by omega) ?_
    exact zWP_fg (kk R Q f1 W v1 T (b + 8) (s + 2988) (by omega) (by omega) (lI_g hI sg hv1 kf hkv)) (by repeat (first | exact trivial | refine ⟨rfl, ?_⟩))
set_option maxHeartbeats 1000000 in
set_option maxRecDepth 100000 in
theorem case24 (hI : lI S K W v T) {i : Int} (h0 : 0 ≤ i) (h1 : i + 5 < (X.2.2.2.2.2.1 : Int)) (hX : X.2.2.2.2.2.1 ≤ 100000) (kk : lNx X i b s) : zWP X mL_law 14 lQ 1734 (lL i) [] (lH S K f W) (b + 10) (s + 3000) := by
  refine zWP_run gLw_24 100 [3529] ?_
  refine mVc_i ⟨by omega, by omega, hX⟩ ?_
  have hl9 := lMode (X := X) (S := S) (K := K) (W := cWs 46 W) (f := f) hI.1 (scr_r X (i + 1))
  refine zCl_i hl9 (by decide) ?_
  rintro o9 h9 ⟨R, f1, rfl, sg, hv1, ho⟩
  have hk9 := zEv_n (kMode (X := X) (S := R) (K := K) (t := oC f1 :: cWs 46 W) hI.2.1 (scr_r X (i + 1)))
  generalize pMode v (scr X (i + 1)) = r at hv1 ho hk9
  obtain ⟨y | e, v1⟩ := r
  · obtain ⟨rfl, ho⟩ := ho
    refine mVc_i ⟨by omega, by omega, hX⟩ ?_
    refine zCl_i hk9 (by decide) ?_
    rintro o9 h9 ⟨o0, ⟨z, Q, rfl, rfl, kf, hkv, hz, ht⟩, rfl⟩
    refine zCl_e (kthr (S := R) (K := Q) (t := oC f1 :: cWs 46 W)) (by decide) ?_
    refine zBrT ⟨by rw [ht]; exact rI_0, rI_0⟩ ht ?_
    refine zBrT rI_0 rfl ?_
    refine mVc_i (by omega) ?_
    refine mVc_i (wI_r z) ?_
    refine zBrT ⟨by show rL (f1 0); rw [ho]; exact ⟨by have := (wI_r y).1; omega, by have := (wI_r y).2; omega⟩, ⟨by have := (wI_r z).1; omega, by have := (wI_r z).2; omega⟩⟩ (by show f1 0 = _; rw [ho, hz]) ?_
    exact zWP_fg (kk R Q f1 W v1 T (b + 8) (s + 2988) (by omega) (by omega) (lI_g hI sg hv1 kf hkv)) (by repeat (first | exact trivial | refine ⟨rfl, ?_⟩))
  · have ho2 : o9 = .inl (some (zI (kcd [0, 2] e))) := ho
    subst ho2
    have hb := kcd_b [0, 2] e
    have hb1 := kcd_1 0 [2] e
    simp only [List.length_cons, List.length_nil] at hb
    refine mVc_i ⟨by omega, by omega, hX⟩ ?_
    refine zCl_i hk9 (by decide) ?_
    rintro o9 h9 ⟨o0, ⟨z, Q, rfl, rfl, kf, hkv, ht⟩, rfl⟩
    have ht2 : Q.1 0 = kcd [0, 2] e := ht
    refine zCl_e (kthr (S := R) (K := Q) (t := oC f1 :: cWs 46 W)) (by decide) ?_
    refine zBrT ⟨by rw [ht2]; simp only [rI]; omega, by simp only [rI]; omega⟩ ht2 ?_
    refine zBrF (by simp only [rI]; omega) (by omega) ?_
    exact zWP_fg (kk R Q f1 W v1 T (b + 8) (s + 2988) (by omega) (by omega) (lI_g hI sg hv1 kf hkv)) (by repeat (first | exact trivial | refine ⟨rfl, ?_⟩))
end Csb
