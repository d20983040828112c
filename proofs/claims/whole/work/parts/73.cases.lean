/-! the law's cases -/
theorem kcd_b : ∀ (l : List Nat) (e : Nat), 0 ≤ kcd l e ∧ kcd l e ≤ l.length
  | [], e => by simp only [kcd]; exact ⟨by omega, by show (0 : Int) ≤ 0; omega⟩
  | a :: l, e => by
    have := kcd_b l e
    simp only [kcd, List.length_cons]
    split <;> omega
theorem kcd_1 (a : Nat) (l : List Nat) (e : Nat) : 1 ≤ kcd (a :: l) e := by
  have := kcd_b l e
  simp only [kcd]
  split <;> omega
def lQ : zO → zH → Prop := fun o9 _ => o9 = .inl (some (zI 1))
abbrev lL (i : Int) : List (Option zV) := [some (zR (mSB + 500)), some (zR 0), some (zR 29), some (zR 45), some (zI i), none, none, none]
abbrev lH (S : sS) (K : kK) (f : Nat → Int) (W : List jJ) : zH := cX S ++ (cM K ++ (oC f :: cWs 46 W))
/-- what comes behind a case -/
def lNx (X : mX) (i : Int) (b s : Nat) : Prop := ∀ (R : sS) (Q : kK) (f : Nat → Int) (W : List jJ) (v : vV) (T : tT) (bc bs : Nat), b ≤ bc → s ≤ bs → lI R Q W v T → zWP X mL_law 14 lQ 3529 (lL i) [] (lH R Q f W) bc bs
section Cs
variable {X : mX} {S : sS} {K : kK} {W : List jJ} {f : Nat → Int} {v : vV} {T : tT} {b s : Nat}
set_option maxHeartbeats 1000000 in
set_option maxRecDepth 100000 in
theorem case3 (hI : lI S K W v T) {i : Int} (h0 : 0 ≤ i) (h1 : i + 5 < (X.2.2.2.2.2.1 : Int)) (hX : X.2.2.2.2.2.1 ≤ 100000) (kk : lNx X i b s) : zWP X mL_law 14 lQ 430 (lL i) [] (lH S K f W) (b + 10) (s + 3000) := by
  refine zWP_run gLw_3 100 [3529] ?_
  refine mVc_i ⟨by omega, by omega, hX⟩ ?_
  refine mVc_i ⟨by omega, by omega, hX⟩ ?_
  refine zCl_i (lDie hI.1 (scr_r X (i + 1)) (scr_r X (i + 2))) (by decide) ?_
  rintro o9 h9 ⟨R, f1, rfl, sg, hv1, ho⟩
  have hk9 := zEv_n (kDie (X := X) (S := R) (K := K) (t := oC f1 :: cWs 46 W) hI.2.1 (scr_r X (i + 1)) (scr_r X (i + 2)))
  generalize pDie v (scr X (i + 1)) (scr X (i + 2)) = r at hv1 ho hk9
  obtain ⟨y | e, v1⟩ := r
  · obtain ⟨rfl, ho⟩ := ho
    refine mVc_i ⟨by omega, by omega, hX⟩ ?_
    refine mVc_i ⟨by omega, by omega, hX⟩ ?_
    refine zCl_i hk9 (by decide) ?_
    rintro o9 h9 ⟨o0, ⟨z, Q, rfl, rfl, kf, hkv, hz, ht⟩, rfl⟩
    refine zCl_e (kthr (S := R) (K := Q) (t := oC f1 :: cWs 46 W)) (by decide) ?_
    refine zBrT ⟨by rw [ht]; exact rI_0, rI_0⟩ ht ?_
    refine zBrT rI_0 rfl ?_
    refine mVc_i (by omega) ?_
    refine mVc_i (wI_r z) ?_
    refine zBrT ⟨by show rL (f1 0); rw [ho]; exact ⟨by have := (wI_r y).1; omega, by have := (wI_r y).2; omega⟩, ⟨by have := (wI_r z).1; omega, by have := (wI_r z).2; omega⟩⟩ (by show f1 0 = _; rw [ho, hz]) ?_
    exact zWP_fg (kk R Q f1 W v1 T (b + 8) (s + 2988) (by omega) (by omega) (lI_g hI sg hv1 kf hkv)) (by repeat (first | exact trivial | refine ⟨rfl, ?_⟩))
  · have ho2 : o9 = .inl (some (zI (kcd [1, 0] e))) := ho
    subst ho2
    have hb := kcd_b [1, 0] e
    have hb1 := kcd_1 1 [0] e
    simp only [List.length_cons, List.length_nil] at hb
    refine mVc_i ⟨by omega, by omega, hX⟩ ?_
    refine mVc_i ⟨by omega, by omega, hX⟩ ?_
    refine zCl_i hk9 (by decide) ?_
    rintro o9 h9 ⟨o0, ⟨z, Q, rfl, rfl, kf, hkv, ht⟩, rfl⟩
    have ht2 : Q.1 0 = kcd [1, 0] e := ht
    refine zCl_e (kthr (S := R) (K := Q) (t := oC f1 :: cWs 46 W)) (by decide) ?_
    refine zBrT ⟨by rw [ht2]; simp only [rI]; omega, by simp only [rI]; omega⟩ ht2 ?_
    refine zBrF (by simp only [rI]; omega) (by omega) ?_
    exact zWP_fg (kk R Q f1 W v1 T (b + 8) (s + 2988) (by omega) (by omega) (lI_g hI sg hv1 kf hkv)) (by repeat (first | exact trivial | refine ⟨rfl, ?_⟩))
set_option maxHeartbeats 1000000 in
set_option maxRecDepth 100000 in
theorem case20 (hI : lI S K W v T) {i : Int} (h0 : 0 ≤ i) (h1 : i + 5 < (X.2.2.2.2.2.1 : Int)) (hX : X.2.2.2.2.2.1 ≤ 100000) (kk : lNx X i b s) : zWP X mL_law 14 lQ 1490 (lL i) [] (lH S K f W) (b + 10) (s + 3000) := by
  refine zWP_run gLw_20 100 [3529] ?_
  refine mVc_i ⟨by omega, by omega, hX⟩ ?_
  refine zCl_i (lWhole hI.1 (scr_r X (i + 1))) (by decide) ?_
  rintro o9 h9 ⟨R, f1, rfl, sg, hv1, ho⟩
  have hk9 := zEv_n (kWhole (X := X) (S := R) (K := K) (t := oC f1 :: cWs 46 W) hI.2.1 (scr_r X (i + 1)))
  generalize pWhole v (scr X (i + 1)) = r at hv1 ho hk9
  obtain ⟨y | e, v1⟩ := r
  · obtain ⟨rfl, ho⟩ := ho
    refine mVc_i ⟨by omega, by omega, hX⟩ ?_
    refine zCl_i hk9 (by decide) ?_
    rintro o9 h9 ⟨o0, ⟨z, Q, rfl, rfl, kf, hkv, hz, ht⟩, rfl⟩
    refine zCl_e (kthr (S := R) (K := Q) (t := oC f1 :: cWs 46 W)) (by decide) ?_
    refine zBrT ⟨by rw [ht]; exact rI_0, rI_0⟩ ht ?_
    refine zBrT rI_0 rfl ?_
    refine mVc_i (by omega) ?_
    refine zBrT ⟨by show rL (f1 0); rw [ho]; exact wJ_r y, wJ_r z⟩ (by show f1 0 = _; rw [ho, hz]) ?_
    exact zWP_fg (kk R Q f1 W v1 T (b + 8) (s + 2988) (by omega) (by omega) (lI_g hI sg hv1 kf hkv)) (by repeat (first | exact trivial | refine ⟨rfl, ?_⟩))
  · have ho2 : o9 = .inl (some (zI (kcd [0, 2] e))) := ho
    subst ho2
    have hb := kcd_b [0, 2] e
    have hb1 := kcd_1 0 [2] e
    simp only [List.length_cons, List.length_nil] at hb
    refine mVc_i ⟨by omega, by omega, hX⟩ ?_
    refine zCl_i hk9 (by decide) ?_
    rintro o9 h9 ⟨o0, ⟨z, Q, rfl, rfl, kf, hkv, ht⟩, rfl⟩
    have ht2 : Q.1 0 = kcd [0, 2] e := ht
    refine zCl_e (kthr (S := R) (K := Q) (t := oC f1 :: cWs 46 W)) (by decide) ?_
    refine zBrT ⟨by rw [ht2]; simp only [rI]; omega, by simp only [rI]; omega⟩ ht2 ?_
    refine zBrF (by simp only [rI]; omega) (by omega) ?_
    exact zWP_fg (kk R Q f1 W v1 T (b + 8) (s + 2988) (by omega) (by omega) (lI_g hI sg hv1 kf hkv)) (by repeat (first | exact trivial | refine ⟨rfl, ?_⟩))
end Cs
