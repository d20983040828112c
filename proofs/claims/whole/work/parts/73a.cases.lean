/-! the law's cases -/
theorem kcd_b : ∀ (l : List Nat) (e : Nat), 0 ≤ kcd l e ∧ kcd l e ≤ l.length
  | [], e => by simp only [kcd]; exact ⟨by omega, by show (0 : Int) ≤ 0; omega⟩
  | a :: l, e => by
    have := kcd_b l e
    simp only [kcd, List.length_cons]
    split <;> omega
theorem kcd_1 (a : Nat) (l : List Nat) (e : Nat) : 1 ≤ kcd (a :: l) e := by
  have := kcd_b l e
  simp only [kcd]
  split <;> omega
def lQ : zO → zH → Prop := fun o9 _ => o9 = .inl (some (zI 1))
abbrev lL (i : Int) : List (Option zV) := [some (zR (mSB + 500)), some (zR 0), some (zR 29), some (zR 45), some (zI i), none, none, none]
abbrev lH (S : sS) (K : kK) (f : Nat → Int) (W : List jJ) : zH := cX S ++ (cM K ++ (oC f :: cWs 46 W))
/-- what comes behind a case -/
def lNx (X : mX) (i : Int) (b s : Nat) : Prop := ∀ (R : sS) (Q : kK) (f : Nat → Int) (W : List jJ) (v : vV) (T : tT) (bc bs : Nat), b ≤ bc → s ≤ bs → lI R Q W v T → zWP X mL_law 14 lQ 3529 (lL i) [] (lH R Q f W) bc bs
section Cs
variable {X : mX} {S : sS} {K : kK} {W : List jJ} {f : Nat → Int} {v : vV} {T : tT} {b s : Nat}
set_option maxHeartbeats 1000000 in
set_option maxRecDepth 100000 in
theorem case3 (hI : lI S K W v T) {i : Int} (h0 : 0 ≤ i) (h1 : i + 5 < (X.2.2.2.2.2.1 : Int)) (hX : X.2.2.2.2.2.1 ≤ 100000) (kk : lNx X i b s) : zWP X mL_law 14 lQ 430 (lL i) [] (lH S K f W) (b + 10) (s + 3000) := by
  refine zWP_run gLw_3 100 [3529] ?_
  refine mVc_i ⟨by omega, by omega, hX⟩ ?_
  refine mVc_i ⟨by omega, by omega, hX⟩ ?_
  have hl9 := lDie (X := X) (S := S) (K := K) (W := cWs 46 W) (f := f) hI.1 (scr_r X (i + 1)) (scr_r X (i + 2))
  refine zCl_i hl9 (by decide) ?_
  rintro o9 h9 ⟨R, f1, rfl, sg, hv1, ho⟩
  have hk9 := zEv_n (kDie (X := X) (S := R) (K := K) (t := oC f1 :: cWs 46 W) hI.2.1 (scr_r X (i + 1)) (scr_r X (i + 2)))
  generalize pDie v (scr X (i + 1)) (scr X (i + 2)) = r at hv1 ho hk9
  obtain ⟨y | e, v1⟩ := r
  · obtain ⟨rfl, ho⟩ := ho
    refine mVc_i ⟨by omega, by omega, hX⟩ ?_
    refine mVc_i ⟨by omega, by omega, hX⟩ ?_
    refine zCl_i hk9 (by decide) ?_
    rintro o9 h9 ⟨o0, ⟨z, Q, rfl, rfl, kf, hkv, hz, ht⟩, rfl⟩
    refine zCl_e (kthr (S := R) (K := Q) (t := oC f1 :: cWs 46 W)) (by decide) ?_
    refine zBrT ⟨by rw [ht]; exact rI_0, rI_0⟩ ht ?_
    refine zBrT rI_0 rfl ?_
    refine mVc_i (by omega) ?_
    refine mVc_i (wI_r z) ?_
    refine zBrT ⟨by show rL (f1 0); rw [ho]; exact ⟨by have := (wI_r y).1; omega, by have := (wI_r y).2; omega⟩, ⟨by have := (wI_r z).1; omega, by have := (wI_r z).2; omega⟩⟩ (by show f1 0 = _; rw [ho, hz]) ?_
    exact zWP_fg (kk R Q f1 W v1 T (b + 8) (s + 2988) (by omega) (by omega) (lI_g hI sg hv1 kf hkv)) (by repeat (first | exact trivial | refine ⟨rfl, ?_⟩))
  · have ho2 : o9 = .inl (some (zI (kcd [1, 0] e))) := ho
    subst ho2
    have hb := kcd_b [1, 0] e
    have hb1 := kcd_1 1 [0] e
    simp only [List.length_cons, List.length_nil] at hb
    refine mVc_i ⟨by omega, by omega, hX⟩ ?_
    refine mVc_i ⟨by omega, by omega, hX⟩ ?_
    refine zCl_i hk9 (by decide) ?_
    rintro o9 h9 ⟨o0, ⟨z, Q, rfl, rfl, kf, hkv, ht⟩, rfl⟩
    have ht2 : Q.1 0 = kcd [1, 0] e := ht
    refine zCl_e (kthr (S := R) (K := Q) (t := oC f1 :: cWs 46 W)) (by decide) ?_
    refine zBrT ⟨by rw [ht2]; simp only [rI]; omega, by simp only [rI]; omega⟩ ht2 ?_
    refine zBrF (by simp only [rI]; omega) (by omega) ?_
    exact zWP_fg (kk R Q f1 W v1 T (b + 8) (s + 2988) (by omega) (by omega) (lI_g hI sg hv1 kf hkv)) (by repeat (first | exact trivial | refine ⟨rfl, ?_⟩))
set_option maxHeartbeats 1000000 in
set_option maxRecDepth 100000 in
theorem case4 (hI : lI S K W v T) {i : Int} (h0 : 0 ≤ i) (h1 : i + 5 < (X.2.2.2.2.2.1 : Int)) (hX : X.2.2.2.2.2.1 ≤ 100000) (kk : lNx X i b s) : zWP X mL_law 14 lQ 498 (lL i) [] (lH S K f W) (b + 10) (s + 3000) := by
  refine zWP_run gLw_4 100 [3529] ?_
  refine mVc_i ⟨by omega, by omega, hX⟩ ?_
  refine mVc_i ⟨by omega, by omega, hX⟩ ?_
  have hl9 := lHand (X := X) (S := S) (K := K) (W := cWs 46 W) (f := f) hI.1 (scr_r X (i + 1)) (scr_r X (i + 2))
  refine zCl_i hl9 (by decide) ?_
  rintro o9 h9 ⟨R, f1, rfl, sg, hv1, ho⟩
  have hk9 := zEv_n (kHand (X := X) (S := R) (K := K) (t := oC f1 :: cWs 46 W) hI.2.1 (scr_r X (i + 1)) (scr_r X (i + 2)))
  generalize pHand v (scr X (i + 1)) (scr X (i + 2)) = r at hv1 ho hk9
  obtain ⟨y | e, v1⟩ := r
  · obtain ⟨rfl, ho⟩ := ho
    refine mVc_i ⟨by omega, by omega, hX⟩ ?_
    refine mVc_i ⟨by omega, by omega, hX⟩ ?_
    refine zCl_i hk9 (by decide) ?_
    rintro o9 h9 ⟨o0, ⟨z, Q, rfl, rfl, kf, hkv, hz, ht⟩, rfl⟩
    refine zCl_e (kthr (S := R) (K := Q) (t := oC f1 :: cWs 46 W)) (by decide) ?_
    refine zBrT ⟨by rw [ht]; exact rI_0, rI_0⟩ ht ?_
    refine zBrT rI_0 rfl ?_
    refine mVc_i (by omega) ?_
    refine mVc_i (wI_r z) ?_
    refine zBrT ⟨by show rL (f1 0); rw [ho]; exact ⟨by have := (wI_r y).1; omega, by have := (wI_r y).2; omega⟩, ⟨by have := (wI_r z).1; omega, by have := (wI_r z).2; omega⟩⟩ (by show f1 0 = _; rw [ho, hz]) ?_
    exact zWP_fg (kk R Q f1 W v1 T (b + 8) (s + 2988) (by omega) (by omega) (lI_g hI sg hv1 kf hkv)) (by repeat (first | exact trivial | refine ⟨rfl, ?_⟩))
  · have ho2 : o9 = .inl (some (zI (kcd [1, 0] e))) := ho
    subst ho2
    have hb := kcd_b [1, 0] e
    have hb1 := kcd_1 1 [0] e
    simp only [List.length_cons, List.length_nil] at hb
    refine mVc_i ⟨by omega, by omega, hX⟩ ?_
    refine mVc_i ⟨by omega, by omega, hX⟩ ?_
    refine zCl_i hk9 (by decide) ?_
    rintro o9 h9 ⟨o0, ⟨z, Q, rfl, rfl, kf, hkv, ht⟩, rfl⟩
    have ht2 : Q.1 0 = kcd [1, 0] e := ht
    refine zCl_e (kthr (S := R) (K := Q) (t := oC f1 :: cWs 46 W)) (by decide) ?_
    refine zBrT ⟨by rw [ht2]; simp only [rI]; omega, by simp only [rI]; omega⟩ ht2 ?_
    refine zBrF (by simp only [rI]; omega) (by omega) ?_
    exact zWP_fg (kk R Q f1 W v1 T (b + 8) (s + 2988) (by omega) (by omega) (lI_g hI sg hv1 kf hkv)) (by repeat (first | exact trivial | refine ⟨rfl, ?_⟩))
set_option maxHeartbeats 1000000 in
set_option maxRecDepth 100000 in
theorem case6 (hI : lI S K W v T) {i : Int} (h0 : 0 ≤ i) (h1 : i + 5 < (X.2.2.2.2.2.1 : Int)) (hX : X.2.2.2.2.2.1 ≤ 100000) (kk : lNx X i b s) : zWP X mL_law 14 lQ 629 (lL i) [] (lH S K f W) (b + 10) (s + 3000) := by
  refine zWP_run gLw_6 100 [3529] ?_
  refine mVc_i ⟨by omega, by omega, hX⟩ ?_
  refine mVc_i ⟨by omega, by omega, hX⟩ ?_
  refine mVc_i ⟨by omega, by omega, hX⟩ ?_
  have hl9 := lCast (X := X) (S := S) (K := K) (W := cWs 46 W) (f := f) hI.1 (scr_r X (i + 1)) (scr_r X (i + 2)) (scr_r X (i + 3))
  refine zCl_i hl9 (by decide) ?_
  rintro o9 h9 ⟨R, f1, rfl, sg, hv1, ho⟩
  have hk9 := zEv_n (kCast (X := X) (S := R) (K := K) (t := oC f1 :: cWs 46 W) hI.2.1 (scr_r X (i + 1)) (scr_r X (i + 2)) (scr_r X (i + 3)))
  generalize pCast v (scr X (i + 1)) (scr X (i + 2)) (scr X (i + 3)) = r at hv1 ho hk9
  obtain ⟨y | e, v1⟩ := r
  · obtain ⟨rfl, ho⟩ := ho
    refine mVc_i ⟨by omega, by omega, hX⟩ ?_
    refine mVc_i ⟨by omega, by omega, hX⟩ ?_
    refine mVc_i ⟨by omega, by omega, hX⟩ ?_
    refine zCl_i hk9 (by decide) ?_
    rintro o9 h9 ⟨o0, ⟨z, Q, rfl, rfl, kf, hkv, hz, ht⟩, rfl⟩
    refine zCl_e (kthr (S := R) (K := Q) (t := oC f1 :: cWs 46 W)) (by decide) ?_
    refine zBrT ⟨by rw [ht]; exact rI_0, rI_0⟩ ht ?_
    refine zBrT rI_0 rfl ?_
    refine mVc_i (by omega) ?_
    refine mVc_i (wI_r z) ?_
    refine zBrT ⟨by show rL (f1 0); rw [ho]; exact ⟨by have := (wI_r y).1; omega, by have := (wI_r y).2; omega⟩, ⟨by have := (wI_r z).1; omega, by have := (wI_r z).2; omega⟩⟩ (by show f1 0 = _; rw [ho, hz]) ?_
    exact zWP_fg (kk R Q f1 W v1 T (b + 6) (s + 2976) (by omega) (by omega) (lI_g hI sg hv1 kf hkv)) (by repeat (first | exact trivial | refine ⟨rfl, ?_⟩))
  · have ho2 : o9 = .inl (some (zI (kcd [1, 2] e))) := ho
    subst ho2
    have hb := kcd_b [1, 2] e
    have hb1 := kcd_1 1 [2] e
    simp only [List.length_cons, List.length_nil] at hb
    refine mVc_i ⟨by omega, by omega, hX⟩ ?_
    refine mVc_i ⟨by omega, by omega, hX⟩ ?_
    refine mVc_i ⟨by omega, by omega, hX⟩ ?_
    refine zCl_i hk9 (by decide) ?_
    rintro o9 h9 ⟨o0, ⟨z, Q, rfl, rfl, kf, hkv, ht⟩, rfl⟩
    have ht2 : Q.1 0 = kcd [1, 2] e := ht
    refine zCl_e (kthr (S := R) (K := Q) (t := oC f1 :: cWs 46 W)) (by decide) ?_
    refine zBrT ⟨by rw [ht2]; simp only [rI]; omega, by simp only [rI]; omega⟩ ht2 ?_
    refine zBrF (by simp only [rI]; omega) (by omega) ?_
    exact zWP_fg (kk R Q f1 W v1 T (b + 6) (s + 2976) (by omega) (by omega) (lI_g hI sg hv1 kf hkv)) (by repeat (first | exact trivial | refine ⟨rfl, ?_⟩))
set_option maxHeartbeats 1000000 in
set_option maxRecDepth 100000 in
theorem case7 (hI : lI S K W v T) {i : Int} (h0 : 0 ≤ i) (h1 : i + 5 < (X.2.2.2.2.2.1 : Int)) (hX : X.2.2.2.2.2.1 ≤ 100000) (kk : lNx X i b s) : zWP X mL_law 14 lQ 709 (lL i) [] (lH S K f W) (b + 10) (s + 3000) := by
  refine zWP_run gLw_7 100 [3529] ?_
  refine mVc_i ⟨by omega, by omega, hX⟩ ?_
  refine mVc_i ⟨by omega, by omega, hX⟩ ?_
  refine mVc_i ⟨by omega, by omega, hX⟩ ?_
  have hl9 := lShows (X := X) (S := S) (K := K) (W := cWs 46 W) (f := f) hI.1 (scr_r X (i + 1)) (scr_r X (i + 2)) (scr_r X (i + 3))
  refine zCl_i hl9 (by decide) ?_
  rintro o9 h9 ⟨R, f1, rfl, sg, hv1, ho⟩
  have hk9 := zEv_n (kShows (X := X) (S := R) (K := K) (t := oC f1 :: cWs 46 W) hI.2.1 (scr_r X (i + 1)) (scr_r X (i + 2)) (scr_r X (i + 3)))
  generalize pShows v (scr X (i + 1)) (scr X (i + 2)) (scr X (i + 3)) = r at hv1 ho hk9
  obtain ⟨y | e, v1⟩ := r
  · obtain ⟨rfl, ho⟩ := ho
    refine mVc_i ⟨by omega, by omega, hX⟩ ?_
    refine mVc_i ⟨by omega, by omega, hX⟩ ?_
    refine mVc_i ⟨by omega, by omega, hX⟩ ?_
    refine zCl_i hk9 (by decide) ?_
    rintro o9 h9 ⟨o0, ⟨z, Q, rfl, rfl, kf, hkv, hz, ht⟩, rfl⟩
    refine zCl_e (kthr (S := R) (K := Q) (t := oC f1 :: cWs 46 W)) (by decide) ?_
    refine zBrT ⟨by rw [ht]; exact rI_0, rI_0⟩ ht ?_
    refine zBrT rI_0 rfl ?_
    refine mVc_i (by omega) ?_
    refine mVc_i (wI_r z) ?_
    refine zBrT ⟨by show rL (f1 0); rw [ho]; exact ⟨by have := (wI_r y).1; omega, by have := (wI_r y).2; omega⟩, ⟨by have := (wI_r z).1; omega, by have := (wI_r z).2; omega⟩⟩ (by show f1 0 = _; rw [ho, hz]) ?_
    exact zWP_fg (kk R Q f1 W v1 T (b + 6) (s + 2976) (by omega) (by omega) (lI_g hI sg hv1 kf hkv)) (by repeat (first | exact trivial | refine ⟨rfl, ?_⟩))
  · have ho2 : o9 = .inl (some (zI (kcd [1, 0, 2] e))) := ho
    subst ho2
    have hb := kcd_b [1, 0, 2] e
    have hb1 := kcd_1 1 [0, 2] e
    simp only [List.length_cons, List.length_nil] at hb
    refine mVc_i ⟨by omega, by omega, hX⟩ ?_
    refine mVc_i ⟨by omega, by omega, hX⟩ ?_
    refine mVc_i ⟨by omega, by omega, hX⟩ ?_
    refine zCl_i hk9 (by decide) ?_
    rintro o9 h9 ⟨o0, ⟨z, Q, rfl, rfl, kf, hkv, ht⟩, rfl⟩
    have ht2 : Q.1 0 = kcd [1, 0, 2] e := ht
    refine zCl_e (kthr (S := R) (K := Q) (t := oC f1 :: cWs 46 W)) (by decide) ?_
    refine zBrT ⟨by rw [ht2]; simp only [rI]; omega, by simp only [rI]; omega⟩ ht2 ?_
    refine zBrF (by simp only [rI]; omega) (by omega) ?_
    exact zWP_fg (kk R Q f1 W v1 T (b + 6) (s + 2976) (by omega) (by omega) (lI_g hI sg hv1 kf hkv)) (by repeat (first | exact trivial | refine ⟨rfl, ?_⟩))
set_option maxHeartbeats 1000000 in
set_option maxRecDepth 100000 in
theorem case8 (hI : lI S K W v T) {i : Int} (h0 : 0 ≤ i) (h1 : i + 5 < (X.2.2.2.2.2.1 : Int)) (hX : X.2.2.2.2.2.1 ≤ 100000) (kk : lNx X i b s) : zWP X mL_law 14 lQ 789 (lL i) [] (lH S K f W) (b + 10) (s + 3000) := by
  refine zWP_run gLw_8 100 [3529] ?_
  refine mVc_i ⟨by omega, by omega, hX⟩ ?_
  have hl9 := lBack (X := X) (S := S) (K := K) (W := cWs 46 W) (f := f) hI.1 (scr_r X (i + 1))
  refine zCl_i hl9 (by decide) ?_
  rintro o9 h9 ⟨R, f1, rfl, sg, hv1, ho⟩
  have hk9 := zEv_n (kBack (X := X) (S := R) (K := K) (t := oC f1 :: cWs 46 W) hI.2.1 (scr_r X (i + 1)))
  generalize pBack v (scr X (i + 1)) = r at hv1 ho hk9
  obtain ⟨y | e, v1⟩ := r
  · obtain ⟨rfl, ho⟩ := ho
    refine mVc_i ⟨by omega, by omega, hX⟩ ?_
    refine zCl_i hk9 (by decide) ?_
    rintro o9 h9 ⟨o0, ⟨z, Q, rfl, rfl, kf, hkv, hz, ht⟩, rfl⟩
    refine zCl_e (kthr (S := R) (K := Q) (t := oC f1 :: cWs 46 W)) (by decide) ?_
    refine zBrT ⟨by rw [ht]; exact rI_0, rI_0⟩ ht ?_
    refine zBrT rI_0 rfl ?_
    refine mVc_i (by omega) ?_
    refine mVc_i (wI_r z) ?_
    refine zBrT ⟨by show rL (f1 0); rw [ho]; exact ⟨by have := (wI_r y).1; omega, by have := (wI_r y).2; omega⟩, ⟨by have := (wI_r z).1; omega, by have := (wI_r z).2; omega⟩⟩ (by show f1 0 = _; rw [ho, hz]) ?_
    exact zWP_fg (kk R Q f1 W v1 T (b + 9) (s + 2994) (by omega) (by omega) (lI_g hI sg hv1 kf hkv)) (by repeat (first | exact trivial | refine ⟨rfl, ?_⟩))
  · have ho2 : o9 = .inl (some (zI (kcd [0] e))) := ho
    subst ho2
    have hb := kcd_b [0] e
    have hb1 := kcd_1 0 [] e
    simp only [List.length_cons, List.length_nil] at hb
    refine mVc_i ⟨by omega, by omega, hX⟩ ?_
    refine zCl_i hk9 (by decide) ?_
    rintro o9 h9 ⟨o0, ⟨z, Q, rfl, rfl, kf, hkv, ht⟩, rfl⟩
    have ht2 : Q.1 0 = kcd [0] e := ht
    refine zCl_e (kthr (S := R) (K := Q) (t := oC f1 :: cWs 46 W)) (by decide) ?_
    refine zBrT ⟨by rw [ht2]; simp only [rI]; omega, by simp only [rI]; omega⟩ ht2 ?_
    refine zBrF (by simp only [rI]; omega) (by omega) ?_
    exact zWP_fg (kk R Q f1 W v1 T (b + 9) (s + 2994) (by omega) (by omega) (lI_g hI sg hv1 kf hkv)) (by repeat (first | exact trivial | refine ⟨rfl, ?_⟩))
set_option maxHeartbeats 1000000 in
set_option maxRecDepth 100000 in
theorem case9 (hI : lI S K W v T) {i : Int} (h0 : 0 ≤ i) (h1 : i + 5 < (X.2.2.2.2.2.1 : Int)) (hX : X.2.2.2.2.2.1 ≤ 100000) (kk : lNx X i b s) : zWP X mL_law 14 lQ 845 (lL i) [] (lH S K f W) (b + 10) (s + 3000) := by
  refine zWP_run gLw_9 100 [3529] ?_
  refine mVc_i ⟨by omega, by omega, hX⟩ ?_
  refine mVc_i ⟨by omega, by omega, hX⟩ ?_
  have hl9 := lPast (X := X) (S := S) (K := K) (W := cWs 46 W) (f := f) hI.1 (scr_r X (i + 1)) (scr_r X (i + 2))
  refine zCl_i hl9 (by decide) ?_
  rintro o9 h9 ⟨R, f1, rfl, sg, hv1, ho⟩
  have hk9 := zEv_n (kPast (X := X) (S := R) (K := K) (t := oC f1 :: cWs 46 W) hI.2.1 (scr_r X (i + 1)) (scr_r X (i + 2)))
  generalize pPast v (scr X (i + 1)) (scr X (i + 2)) = r at hv1 ho hk9
  obtain ⟨y | e, v1⟩ := r
  · obtain ⟨rfl, ho⟩ := ho
    refine mVc_i ⟨by omega, by omega, hX⟩ ?_
    refine mVc_i ⟨by omega, by omega, hX⟩ ?_
    refine zCl_i hk9 (by decide) ?_
    rintro o9 h9 ⟨o0, ⟨z, Q, rfl, rfl, kf, hkv, hz, ht⟩, rfl⟩
    refine zCl_e (kthr (S := R) (K := Q) (t := oC f1 :: cWs 46 W)) (by decide) ?_
    refine zBrT ⟨by rw [ht]; exact rI_0, rI_0⟩ ht ?_
    refine zBrT rI_0 rfl ?_
    refine mVc_i (by omega) ?_
    refine mVc_i (wI_r z) ?_
    refine zBrT ⟨by show rL (f1 0); rw [ho]; exact ⟨by have := (wI_r y).1; omega, by have := (wI_r y).2; omega⟩, ⟨by have := (wI_r z).1; omega, by have := (wI_r z).2; omega⟩⟩ (by show f1 0 = _; rw [ho, hz]) ?_
    exact zWP_fg (kk R Q f1 W v1 T (b + 8) (s + 2988) (by omega) (by omega) (lI_g hI sg hv1 kf hkv)) (by repeat (first | exact trivial | refine ⟨rfl, ?_⟩))
  · have ho2 : o9 = .inl (some (zI (kcd [1, 0] e))) := ho
    subst ho2
    have hb := kcd_b [1, 0] e
    have hb1 := kcd_1 1 [0] e
    simp only [List.length_cons, List.length_nil] at hb
    refine mVc_i ⟨by omega, by omega, hX⟩ ?_
    refine mVc_i ⟨by omega, by omega, hX⟩ ?_
    refine zCl_i hk9 (by decide) ?_
    rintro o9 h9 ⟨o0, ⟨z, Q, rfl, rfl, kf, hkv, ht⟩, rfl⟩
    have ht2 : Q.1 0 = kcd [1, 0] e := ht
    refine zCl_e (kthr (S := R) (K := Q) (t := oC f1 :: cWs 46 W)) (by decide) ?_
    refine zBrT ⟨by rw [ht2]; simp only [rI]; omega, by simp only [rI]; omega⟩ ht2 ?_
    refine zBrF (by simp only [rI]; omega) (by omega) ?_
    exact zWP_fg (kk R Q f1 W v1 T (b + 8) (s + 2988) (by omega) (by omega) (lI_g hI sg hv1 kf hkv)) (by repeat (first | exact trivial | refine ⟨rfl, ?_⟩))
set_option maxHeartbeats 1000000 in
set_option maxRecDepth 100000 in
theorem case10 (hI : lI S K W v T) {i : Int} (h0 : 0 ≤ i) (h1 : i + 5 < (X.2.2.2.2.2.1 : Int)) (hX : X.2.2.2.2.2.1 ≤ 100000) (kk : lNx X i b s) : zWP X mL_law 14 lQ 913 (lL i) [] (lH S K f W) (b + 10) (s + 3000) := by
  refine zWP_run gLw_10 100 [3529] ?_
  refine mVc_i ⟨by omega, by omega, hX⟩ ?_
  refine mVc_i ⟨by omega, by omega, hX⟩ ?_
  have hl9 := lEvening (X := X) (S := S) (K := K) (W := cWs 46 W) (f := f) hI.1 (scr_r X (i + 1)) (scr_r X (i + 2))
  refine zCl_i hl9 (by decide) ?_
  rintro o9 h9 ⟨R, f1, rfl, sg, hv1, ho⟩
  have hk9 := zEv_n (kEvening (X := X) (S := R) (K := K) (t := oC f1 :: cWs 46 W) hI.2.1 (scr_r X (i + 1)) (scr_r X (i + 2)))
  generalize pEvening v (scr X (i + 1)) (scr X (i + 2)) = r at hv1 ho hk9
  obtain ⟨y | e, v1⟩ := r
  · obtain ⟨rfl, ho⟩ := ho
    refine mVc_i ⟨by omega, by omega, hX⟩ ?_
    refine mVc_i ⟨by omega, by omega, hX⟩ ?_
    refine zCl_i hk9 (by decide) ?_
    rintro o9 h9 ⟨o0, ⟨z, Q, rfl, rfl, kf, hkv, hz, ht⟩, rfl⟩
    refine zCl_e (kthr (S := R) (K := Q) (t := oC f1 :: cWs 46 W)) (by decide) ?_
    refine zBrT ⟨by rw [ht]; exact rI_0, rI_0⟩ ht ?_
    refine zBrT rI_0 rfl ?_
    refine mVc_i (by omega) ?_
    refine mVc_i (wI_r z) ?_
    refine zBrT ⟨by show rL (f1 0); rw [ho]; exact ⟨by have := (wI_r y).1; omega, by have := (wI_r y).2; omega⟩, ⟨by have := (wI_r z).1; omega, by have := (wI_r z).2; omega⟩⟩ (by show f1 0 = _; rw [ho, hz]) ?_
    exact zWP_fg (kk R Q f1 W v1 T (b + 8) (s + 2988) (by omega) (by omega) (lI_g hI sg hv1 kf hkv)) (by repeat (first | exact trivial | refine ⟨rfl, ?_⟩))
  · have ho2 : o9 = .inl (some (zI (kcd [0, 2] e))) := ho
    subst ho2
    have hb := kcd_b [0, 2] e
    have hb1 := kcd_1 0 [2] e
    simp only [List.length_cons, List.length_nil] at hb
    refine mVc_i ⟨by omega, by omega, hX⟩ ?_
    refine mVc_i ⟨by omega, by omega, hX⟩ ?_
    refine zCl_i hk9 (by decide) ?_
    rintro o9 h9 ⟨o0, ⟨z, Q, rfl, rfl, kf, hkv, ht⟩, rfl⟩
    have ht2 : Q.1 0 = kcd [0, 2] e := ht
    refine zCl_e (kthr (S := R) (K := Q) (t := oC f1 :: cWs 46 W)) (by decide) ?_
    refine zBrT ⟨by rw [ht2]; simp only [rI]; omega, by simp only [rI]; omega⟩ ht2 ?_
    refine zBrF (by simp only [rI]; omega) (by omega) ?_
    exact zWP_fg (kk R Q f1 W v1 T (b + 8) (s + 2988) (by omega) (by omega) (lI_g hI sg hv1 kf hkv)) (by repeat (first | exact trivial | refine ⟨rfl, ?_⟩))
set_option maxHeartbeats 1000000 in
set_option maxRecDepth 100000 in
theorem case11 (hI : lI S K W v T) {i : Int} (h0 : 0 ≤ i) (h1 : i + 5 < (X.2.2.2.2.2.1 : Int)) (hX : X.2.2.2.2.2.1 ≤ 100000) (kk : lNx X i b s) : zWP X mL_law 14 lQ 981 (lL i) [] (lH S K f W) (b + 10) (s + 3000) := by
  refine zWP_run gLw_11 100 [3529] ?_
  refine mVc_i ⟨by omega, by omega, hX⟩ ?_
  refine mVc_i ⟨by omega, by omega, hX⟩ ?_
  have hl9 := lJudge (X := X) (S := S) (K := K) (W := cWs 46 W) (f := f) hI.1 hI.2.2.1 (scr_r X (i + 1)) (scr_r X (i + 2))
  refine zCl_i hl9 (by decide) ?_
  rintro o9 h9 ⟨R, f1, rfl, sg, hv1, ho⟩
  have hk9 := zEv_n (kJudge (X := X) (S := R) (K := K) (t := oC f1 :: cWs 46 W) hI.2.1 hI.2.2.2.1 (scr_r X (i + 1)) (scr_r X (i + 2)))
  generalize pJudge v T (scr X (i + 1)) (scr X (i + 2)) = r at hv1 ho hk9
  obtain ⟨y | e, v1⟩ := r
  · obtain ⟨rfl, ho⟩ := ho
    refine mVc_i ⟨by omega, by omega, hX⟩ ?_
    refine mVc_i ⟨by omega, by omega, hX⟩ ?_
    refine zCl_i hk9 (by decide) ?_
    rintro o9 h9 ⟨o0, ⟨z, Q, rfl, rfl, kf, hkv, hz, ht⟩, rfl⟩
    refine zCl_e (kthr (S := R) (K := Q) (t := oC f1 :: cWs 46 W)) (by decide) ?_
    refine zBrT ⟨by rw [ht]; exact rI_0, rI_0⟩ ht ?_
    refine zBrT rI_0 rfl ?_
    refine mVc_i (by omega) ?_
    refine mVc_i (wI_r z) ?_
    refine zBrT ⟨by show rL (f1 0); rw [ho]; exact ⟨by have := (wI_r y).1; omega, by have := (wI_r y).2; omega⟩, ⟨by have := (wI_r z).1; omega, by have := (wI_r z).2; omega⟩⟩ (by show f1 0 = _; rw [ho, hz]) ?_
    exact zWP_fg (kk R Q f1 W v1 T (b + 7) (s + 2982) (by omega) (by omega) (lI_g hI sg hv1 kf hkv)) (by repeat (first | exact trivial | refine ⟨rfl, ?_⟩))
  · have ho2 : o9 = .inl (some (zI (kcd [1, 2, 0] e))) := ho
    subst ho2
    have hb := kcd_b [1, 2, 0] e
    have hb1 := kcd_1 1 [2, 0] e
    simp only [List.length_cons, List.length_nil] at hb
    refine mVc_i ⟨by omega, by omega, hX⟩ ?_
    refine mVc_i ⟨by omega, by omega, hX⟩ ?_
    refine zCl_i hk9 (by decide) ?_
    rintro o9 h9 ⟨o0, ⟨z, Q, rfl, rfl, kf, hkv, ht⟩, rfl⟩
    have ht2 : Q.1 0 = kcd [1, 2, 0] e := ht
    refine zCl_e (kthr (S := R) (K := Q) (t := oC f1 :: cWs 46 W)) (by decide) ?_
    refine zBrT ⟨by rw [ht2]; simp only [rI]; omega, by simp only [rI]; omega⟩ ht2 ?_
    refine zBrF (by simp only [rI]; omega) (by omega) ?_
    exact zWP_fg (kk R Q f1 W v1 T (b + 7) (s + 2982) (by omega) (by omega) (lI_g hI sg hv1 kf hkv)) (by repeat (first | exact trivial | refine ⟨rfl, ?_⟩))
set_option maxHeartbeats 1000000 in
set_option maxRecDepth 100000 in
theorem case12 (hI : lI S K W v T) {i : Int} (h0 : 0 ≤ i) (h1 : i + 5 < (X.2.2.2.2.2.1 : Int)) (hX : X.2.2.2.2.2.1 ≤ 100000) (kk : lNx X i b s) : zWP X mL_law 14 lQ 1049 (lL i) [] (lH S K f W) (b + 10) (s + 3000) := by
  refine zWP_run gLw_12 100 [3529] ?_
  refine mVc_i ⟨by omega, by omega, hX⟩ ?_
  have hl9 := lPerform (X := X) (S := S) (K := K) (W := cWs 46 W) (f := f) hI.1 hI.2.2.1 (scr_r X (i + 1))
  refine zCl_i hl9 (by decide) ?_
  rintro o9 h9 ⟨R, f1, rfl, sg, hv1, ho⟩
  have hk9 := zEv_n (kPerf (X := X) (S := R) (K := K) (t := oC f1 :: cWs 46 W) hI.2.1 hI.2.2.2.1 (scr_r X (i + 1)))
  generalize pPerform v T (scr X (i + 1)) = r at hv1 ho hk9
  obtain ⟨y | e, v1⟩ := r
  · obtain ⟨rfl, ho⟩ := ho
    refine mVc_i ⟨by omega, by omega, hX⟩ ?_
    refine zCl_i hk9 (by decide) ?_
    rintro o9 h9 ⟨o0, ⟨z, Q, rfl, rfl, kf, hkv, hz, ht⟩, rfl⟩
    refine zCl_e (kthr (S := R) (K := Q) (t := oC f1 :: cWs 46 W)) (by decide) ?_
    refine zBrT ⟨by rw [ht]; exact rI_0, rI_0⟩ ht ?_
    refine zBrT rI_0 rfl ?_
    refine mVc_i (by omega) ?_
    refine mVc_i (wI_r z) ?_
    refine zBrT ⟨by show rL (f1 0); rw [ho]; exact ⟨by have := (wI_r y).1; omega, by have := (wI_r y).2; omega⟩, ⟨by have := (wI_r z).1; omega, by have := (wI_r z).2; omega⟩⟩ (by show f1 0 = _; rw [ho, hz]) ?_
    exact zWP_fg (kk R Q f1 W v1 T (b + 8) (s + 2988) (by omega) (by omega) (lI_g hI sg hv1 kf hkv)) (by repeat (first | exact trivial | refine ⟨rfl, ?_⟩))
  · have ho2 : o9 = .inl (some (zI (kcd [1, 2] e))) := ho
    subst ho2
    have hb := kcd_b [1, 2] e
    have hb1 := kcd_1 1 [2] e
    simp only [List.length_cons, List.length_nil] at hb
    refine mVc_i ⟨by omega, by omega, hX⟩ ?_
    refine zCl_i hk9 (by decide) ?_
    rintro o9 h9 ⟨o0, ⟨z, Q, rfl, rfl, kf, hkv, ht⟩, rfl⟩
    have ht2 : Q.1 0 = kcd [1, 2] e := ht
    refine zCl_e (kthr (S := R) (K := Q) (t := oC f1 :: cWs 46 W)) (by decide) ?_
    refine zBrT ⟨by rw [ht2]; simp only [rI]; omega, by simp only [rI]; omega⟩ ht2 ?_
    refine zBrF (by simp only [rI]; omega) (by omega) ?_
    exact zWP_fg (kk R Q f1 W v1 T (b + 8) (s + 2988) (by omega) (by omega) (lI_g hI sg hv1 kf hkv)) (by repeat (first | exact trivial | refine ⟨rfl, ?_⟩))
set_option maxHeartbeats 1000000 in
set_option maxRecDepth 100000 in
theorem case13 (hI : lI S K W v T) {i : Int} (h0 : 0 ≤ i) (h1 : i + 5 < (X.2.2.2.2.2.1 : Int)) (hX : X.2.2.2.2.2.1 ≤ 100000) (kk : lNx X i b s) : zWP X mL_law 14 lQ 1105 (lL i) [] (lH S K f W) (b + 10) (s + 3000) := by
  refine zWP_run gLw_13 100 [3529] ?_
  refine mVc_i ⟨by omega, by omega, hX⟩ ?_
  have hl9 := lAnts (X := X) (S := S) (K := K) (W := cWs 46 W) (f := f) hI.1 (scr_r X (i + 1))
  refine zCl_i hl9 (by decide) ?_
  rintro o9 h9 ⟨R, f1, rfl, sg, hv1, ho⟩
  have hk9 := zEv_n (kAnts (X := X) (S := R) (K := K) (t := oC f1 :: cWs 46 W) hI.2.1 (scr_r X (i + 1)))
  generalize pAnts v (scr X (i + 1)) = r at hv1 ho hk9
  obtain ⟨y | e, v1⟩ := r
  · obtain ⟨rfl, ho⟩ := ho
    refine mVc_i ⟨by omega, by omega, hX⟩ ?_
    refine zCl_i hk9 (by decide) ?_
    rintro o9 h9 ⟨o0, ⟨z, Q, rfl, rfl, kf, hkv, hz, ht⟩, rfl⟩
    refine zCl_e (kthr (S := R) (K := Q) (t := oC f1 :: cWs 46 W)) (by decide) ?_
    refine zBrT ⟨by rw [ht]; exact rI_0, rI_0⟩ ht ?_
    refine zBrT rI_0 rfl ?_
    refine mVc_i (by omega) ?_
    refine mVc_i (wI_r z) ?_
    refine zBrT ⟨by show rL (f1 0); rw [ho]; exact ⟨by have := (wI_r y).1; omega, by have := (wI_r y).2; omega⟩, ⟨by have := (wI_r z).1; omega, by have := (wI_r z).2; omega⟩⟩ (by show f1 0 = _; rw [ho, hz]) ?_
    exact zWP_fg (kk R Q f1 W v1 T (b + 9) (s + 2994) (by omega) (by omega) (lI_g hI sg hv1 kf hkv)) (by repeat (first | exact trivial | refine ⟨rfl, ?_⟩))
  · have ho2 : o9 = .inl (some (zI (kcd [0] e))) := ho
    subst ho2
    have hb := kcd_b [0] e
    have hb1 := kcd_1 0 [] e
    simp only [List.length_cons, List.length_nil] at hb
    refine mVc_i ⟨by omega, by omega, hX⟩ ?_
    refine zCl_i hk9 (by decide) ?_
    rintro o9 h9 ⟨o0, ⟨z, Q, rfl, rfl, kf, hkv, ht⟩, rfl⟩
    have ht2 : Q.1 0 = kcd [0] e := ht
    refine zCl_e (kthr (S := R) (K := Q) (t := oC f1 :: cWs 46 W)) (by decide) ?_
    refine zBrT ⟨by rw [ht2]; simp only [rI]; omega, by simp only [rI]; omega⟩ ht2 ?_
    refine zBrF (by simp only [rI]; omega) (by omega) ?_
    exact zWP_fg (kk R Q f1 W v1 T (b + 9) (s + 2994) (by omega) (by omega) (lI_g hI sg hv1 kf hkv)) (by repeat (first | exact trivial | refine ⟨rfl, ?_⟩))
end Cs
