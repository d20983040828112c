/-! the law's other cases -/
theorem lI_fd {S : sS} {K : kK} {W : List jJ} {v : vV} {T : tT} (h : lI S K W v T) (hl : S.1 0 ≤ 580) (a b c d e : Int) : lI (tFd S a b c d e) (kA (kI (kI K 0 0) 1 (K.1 1 + 20)) 5 (fdF (fun x => x % 256) a b c d e (K.1 1) (K.2 5) 20)) W v T := by
  obtain ⟨h1, h2, h3, h4, ⟨t0, t1, t2, t3, t4, t5⟩, h6⟩ := h
  have w := tFd_W S a b c d e
  refine ⟨vX_st h1 (fun i _ _ => w.1 i (by omega)) (fun r _ _ => w.2.1 r (by omega)), h2, tX_W ⟨fun i hi => w.1 i (by omega), fun r hr => w.2.1 r (by omega), w.2.2⟩ h3, h4, ⟨?_, ?_, ?_, ?_, ?_, ?_⟩, iX_st h6 w.2.2 rfl rfl⟩
  · show (tFd S a b c d e).1 0 = K.1 1 + 20
    rw [tFd_0, t0]
  · rw [tFd_0]
    omega
  · intro k
    rw [tFd_r]
    exact fdF_b mB1_b t2 20 k
  · intro k
    show fdF (fun x => x % 256) a b c d e (K.1 1) (K.2 5) 20 k = (tFd S a b c d e).2.1 0 k % 256
    rw [tFd_r, ← t0]
    exact fdF_m mB1_m t1.1 t3 20 k
  · rw [w.1 5 (by omega)]
    exact t4
  · rw [w.1 6 (by omega)]
    exact t5
section Ct
variable {X : mX} {S : sS} {K : kK} {W : List jJ} {f : Nat → Int} {v : vV} {T : tT} {b s : Nat}
theorem pLot_e (v : vV) (x : Int) : eOk (pLot v x) [] := by
  unfold pLot
  repeat' (first | exact eOk_l | exact eOk_r (by decide) | refine eOk_i ?_ ?_)
set_option maxHeartbeats 1000000 in
set_option maxRecDepth 100000 in
theorem case19 (hI : lI S K W v T) {i : Int} (h0 : 0 ≤ i) (h1 : i + 5 < (X.2.2.2.2.2.1 : Int)) (hX : X.2.2.2.2.2.1 ≤ 100000) (kk : lNx X i b s) : zWP X mL_law 14 lQ 1465 (lL i) [] (lH S K f W) (b + 10) (s + 3000) := by
  refine zWP_run gLw_19 100 [3529] ?_
  refine mVc_i ⟨by omega, by omega, hX⟩ ?_
  have hl9 := zEv_n (cLot (X := X) (S := S) (t := cM K ++ (oC f :: cWs 46 W)) hI.1 (scr_r X (i + 1)))
  refine zCl_i hl9 (by decide) ?_
  rintro o9 h9 ⟨o0, ⟨rfl, R, rfl, sg, hv1⟩, rfl⟩
  have hE := pLot_e v (scr X (i + 1))
  have hk9 := zEv_n (kLot (X := X) (S := R) (K := K) (t := oC f :: cWs 46 W) hI.2.1 (scr_r X (i + 1)))
  generalize pLot v (scr X (i + 1)) = r at hv1 hE hk9 ⊢
  obtain ⟨y | e, v1⟩ := r
  · refine mVc_i ⟨by omega, by omega, hX⟩ ?_
    refine zCl_i hk9 (by decide) ?_
    rintro o9 h9 ⟨o0, ⟨z, Q, rfl, rfl, kf, hkv, hz, ht⟩, rfl⟩
    refine zBrT ⟨wI_r y, wI_r z⟩ (by rw [hz]) ?_
    exact kk R Q f W v1 T (b + 10) (s + 3000) (by omega) (by omega) (lI_g hI sg hv1 kf hkv)
  · exact absurd (hE e rfl) List.not_mem_nil
theorem pStrongest_e (v : vV) : eOk (pStrongest v ) [] := by
  unfold pStrongest
  repeat' (first | exact eOk_l | exact eOk_r (by decide) | refine eOk_i ?_ ?_)
set_option maxHeartbeats 1000000 in
set_option maxRecDepth 100000 in
theorem case36 (hI : lI S K W v T) {i : Int} (h0 : 0 ≤ i) (h1 : i + 5 < (X.2.2.2.2.2.1 : Int)) (hX : X.2.2.2.2.2.1 ≤ 100000) (kk : lNx X i b s) : zWP X mL_law 14 lQ 2520 (lL i) [] (lH S K f W) (b + 10) (s + 3000) := by
  refine zWP_run gLw_36 100 [3529] ?_
  have hl9 := zEv_n (cStrongest (X := X) (S := S) (t := cM K ++ (oC f :: cWs 46 W)) hI.1 )
  refine zCl_i hl9 (by decide) ?_
  rintro o9 h9 ⟨o0, ⟨rfl, R, rfl, sg, hv1⟩, rfl⟩
  have hE := pStrongest_e v 
  have hk9 := zEv_n (kStrongest (X := X) (S := R) (K := K) (t := oC f :: cWs 46 W) hI.2.1 )
  generalize pStrongest v  = r at hv1 hE hk9 ⊢
  obtain ⟨y | e, v1⟩ := r
  · skip
    refine zCl_i hk9 (by decide) ?_
    rintro o9 h9 ⟨o0, ⟨z, Q, rfl, rfl, kf, hkv, hz, ht⟩, rfl⟩
    refine zBrT ⟨wI_r y, wI_r z⟩ (by rw [hz]) ?_
    exact kk R Q f W v1 T (b + 10) (s + 3000) (by omega) (by omega) (lI_g hI sg hv1 kf hkv)
  · exact absurd (hE e rfl) List.not_mem_nil
theorem pRing_e (v : vV) (x : Int) : eOk (pRing v x) [] := by
  unfold pRing
  repeat' (first | exact eOk_l | exact eOk_r (by decide) | refine eOk_i ?_ ?_)
set_option maxHeartbeats 1000000 in
set_option maxRecDepth 100000 in
theorem case37 (hI : lI S K W v T) {i : Int} (h0 : 0 ≤ i) (h1 : i + 5 < (X.2.2.2.2.2.1 : Int)) (hX : X.2.2.2.2.2.1 ≤ 100000) (kk : lNx X i b s) : zWP X mL_law 14 lQ 2533 (lL i) [] (lH S K f W) (b + 10) (s + 3000) := by
  refine zWP_run gLw_37 100 [3529] ?_
  refine mVc_i ⟨by omega, by omega, hX⟩ ?_
  have hl9 := zEv_n (cRing (X := X) (S := S) (t := cM K ++ (oC f :: cWs 46 W)) hI.1 (scr_r X (i + 1)))
  refine zCl_i hl9 (by decide) ?_
  rintro o9 h9 ⟨o0, ⟨rfl, R, rfl, sg, hv1⟩, rfl⟩
  have hE := pRing_e v (scr X (i + 1))
  have hk9 := zEv_n (kRing (X := X) (S := R) (K := K) (t := oC f :: cWs 46 W) hI.2.1 (scr_r X (i + 1)))
  generalize pRing v (scr X (i + 1)) = r at hv1 hE hk9 ⊢
  obtain ⟨y | e, v1⟩ := r
  · refine mVc_i ⟨by omega, by omega, hX⟩ ?_
    refine zCl_i hk9 (by decide) ?_
    rintro o9 h9 ⟨o0, ⟨z, Q, rfl, rfl, kf, hkv, hz, ht⟩, rfl⟩
    refine zBrT ⟨wI_r y, wI_r z⟩ (by rw [hz]) ?_
    exact kk R Q f W v1 T (b + 10) (s + 3000) (by omega) (by omega) (lI_g hI sg hv1 kf hkv)
  · exact absurd (hE e rfl) List.not_mem_nil
theorem pEvenest_e (v : vV) : eOk (pEvenest v ) [] := by
  unfold pEvenest
  repeat' (first | exact eOk_l | exact eOk_r (by decide) | refine eOk_i ?_ ?_)
set_option maxHeartbeats 1000000 in
set_option maxRecDepth 100000 in
theorem case40 (hI : lI S K W v T) {i : Int} (h0 : 0 ≤ i) (h1 : i + 5 < (X.2.2.2.2.2.1 : Int)) (hX : X.2.2.2.2.2.1 ≤ 100000) (kk : lNx X i b s) : zWP X mL_law 14 lQ 2716 (lL i) [] (lH S K f W) (b + 10) (s + 3000) := by
  refine zWP_run gLw_40 100 [3529] ?_
  have hl9 := zEv_n (cEvenest (X := X) (S := S) (t := cM K ++ (oC f :: cWs 46 W)) hI.1 )
  refine zCl_i hl9 (by decide) ?_
  rintro o9 h9 ⟨o0, ⟨rfl, R, rfl, sg, hv1⟩, rfl⟩
  have hE := pEvenest_e v 
  have hk9 := zEv_n (kEvenest (X := X) (S := R) (K := K) (t := oC f :: cWs 46 W) hI.2.1 )
  generalize pEvenest v  = r at hv1 hE hk9 ⊢
  obtain ⟨y | e, v1⟩ := r
  · skip
    refine zCl_i hk9 (by decide) ?_
    rintro o9 h9 ⟨o0, ⟨z, Q, rfl, rfl, kf, hkv, hz, ht⟩, rfl⟩
    refine zBrT ⟨wI_r y, wI_r z⟩ (by rw [hz]) ?_
    exact kk R Q f W v1 T (b + 10) (s + 3000) (by omega) (by omega) (lI_g hI sg hv1 kf hkv)
  · exact absurd (hE e rfl) List.not_mem_nil
theorem pLoaded_e (v : vV) : eOk (pLoaded v ) [] := by
  unfold pLoaded
  repeat' (first | exact eOk_l | exact eOk_r (by decide) | refine eOk_i ?_ ?_)
set_option maxHeartbeats 1000000 in
set_option maxRecDepth 100000 in
theorem case48 (hI : lI S K W v T) {i : Int} (h0 : 0 ≤ i) (h1 : i + 5 < (X.2.2.2.2.2.1 : Int)) (hX : X.2.2.2.2.2.1 ≤ 100000) (kk : lNx X i b s) : zWP X mL_law 14 lQ 3192 (lL i) [] (lH S K f W) (b + 10) (s + 3000) := by
  refine zWP_run gLw_48 100 [3529] ?_
  have hl9 := zEv_n (cLoaded (X := X) (S := S) (t := cM K ++ (oC f :: cWs 46 W)) hI.1 )
  refine zCl_i hl9 (by decide) ?_
  rintro o9 h9 ⟨o0, ⟨rfl, R, rfl, sg, hv1⟩, rfl⟩
  have hE := pLoaded_e v 
  have hk9 := zEv_n (kLoaded (X := X) (S := R) (K := K) (t := oC f :: cWs 46 W) hI.2.1 )
  generalize pLoaded v  = r at hv1 hE hk9 ⊢
  obtain ⟨y | e, v1⟩ := r
  · skip
    refine zCl_i hk9 (by decide) ?_
    rintro o9 h9 ⟨o0, ⟨z, Q, rfl, rfl, kf, hkv, hz, ht⟩, rfl⟩
    refine zBrT ⟨wI_r y, wI_r z⟩ (by rw [hz]) ?_
    exact kk R Q f W v1 T (b + 10) (s + 3000) (by omega) (by omega) (lI_g hI sg hv1 kf hkv)
  · exact absurd (hE e rfl) List.not_mem_nil
set_option maxHeartbeats 1000000 in
set_option maxRecDepth 100000 in
theorem case2 (hI : lI S K W v T) {i : Int} (h0 : 0 ≤ i) (h1 : i + 5 < (X.2.2.2.2.2.1 : Int)) (hX : X.2.2.2.2.2.1 ≤ 100000) (kk : lNx X i b s) : zWP X mL_law 14 lQ 405 (lL i) [] (lH S K f W) (b + 10) (s + 3000) := by
  refine zWP_run gLw_2 100 [3529] ?_
  refine mVc_i ⟨by omega, by omega, hX⟩ ?_
  refine zCl_i (zEv_n (cFault (scr_r X (i + 1)))) (by decide) ?_
  rintro o9 h9 ⟨o0, ⟨rfl, rfl⟩, rfl⟩
  refine mVc_i ⟨by omega, by omega, hX⟩ ?_
  refine zCl_i (zEv_n (kFault (S := S) (K := K) (t := oC f :: cWs 46 W) (scr_r X (i + 1)))) (by decide) ?_
  rintro o9 h9 ⟨o0, ⟨rfl, rfl⟩, rfl⟩
  have t := hI.2.2.2.2.1
  refine zBrT ⟨wI_r _, wI_r _⟩ (by rw [t.2.2.2.2.1, t.2.2.2.2.2]) ?_
  exact kk S (kI K 0 0) f W v T (b + 10) (s + 3000) (by omega) (by omega) (lI_0 hI 0)
set_option maxHeartbeats 1000000 in
set_option maxRecDepth 100000 in
theorem case54 (hI : lI S K W v T) {i : Int} (h0 : 0 ≤ i) (h1 : i + 5 < (X.2.2.2.2.2.1 : Int)) (hX : X.2.2.2.2.2.1 ≤ 100000) (kk : lNx X i b s) : zWP X mL_law 14 lQ 3504 (lL i) [] (lH S K f W) (b + 10) (s + 3000) := by
  refine zWP_run gLw_54 100 [3529] ?_
  refine mVc_i ⟨by omega, by omega, hX⟩ ?_
  refine zCl_i (zEv_n (cCount hI.1 (scr_r X (i + 1)))) (by decide) ?_
  rintro o9 h9 ⟨o0, ⟨rfl, rfl⟩, rfl⟩
  refine mVc_i ⟨by omega, by omega, hX⟩ ?_
  refine zCl_i (zEv_n (kCount (S := S) (K := K) (t := oC f :: cWs 46 W) hI.2.1 (scr_r X (i + 1)))) (by decide) ?_
  rintro o9 h9 ⟨o0, ⟨rfl, rfl⟩, rfl⟩
  have t := hI.2.2.2.2.1
  refine zBrT ⟨wI_r _, wI_r _⟩ (by rw [t.1]) ?_
  exact kk S (kI K 0 0) f W v T (b + 10) (s + 3000) (by omega) (by omega) (lI_0 hI 0)
set_option maxHeartbeats 1000000 in
set_option maxRecDepth 100000 in
theorem case0 (hI : lI S K W v T) {i : Int} (h0 : 0 ≤ i) (h1 : i + 5 < (X.2.2.2.2.2.1 : Int)) (hX : X.2.2.2.2.2.1 ≤ 100000) (kk : lNx X i b s) : zWP X mL_law 14 lQ 276 (lL i) [] (lH S K f W) (b + 10) (s + 3000) := by
  refine zWP_run gLw_0 100 [3529] ?_
  refine mVc_i ⟨by omega, by omega, hX⟩ ?_
  refine mVc_i ⟨by omega, by omega, hX⟩ ?_
  refine mVc_i ⟨by omega, by omega, hX⟩ ?_
  refine mVc_i ⟨by omega, by omega, hX⟩ ?_
  refine mVc_i ⟨by omega, by omega, hX⟩ ?_
  have t := hI.2.2.2.2.1
  have t0 := t.1
  have t1 := t.2.1
  refine zCl_i (zEv_n (cFeed t1)) (by decide) ?_
  rintro o9 h9 ⟨o0, ⟨rfl, rfl⟩, rfl⟩
  refine mVc_i ⟨by omega, by omega, hX⟩ ?_
  refine mVc_i ⟨by omega, by omega, hX⟩ ?_
  refine mVc_i ⟨by omega, by omega, hX⟩ ?_
  refine mVc_i ⟨by omega, by omega, hX⟩ ?_
  refine mVc_i ⟨by omega, by omega, hX⟩ ?_
  refine zCl_i (zEv_n (kFeed (K := K) (t := oC f :: cWs 46 W) (by omega))) (by decide) ?_
  rintro o9 h9 ⟨o0, ⟨rfl, rfl⟩, rfl⟩
  refine zBrT ⟨wI_r _, wI_r _⟩ (by rw [t0]) ?_
  by_cases c : S.1 0 ≤ 580
  · rw [if_pos c, if_pos (show K.1 1 ≤ 580 by omega)]
    exact kk _ _ f W v T (b + 10) (s + 3000) (by omega) (by omega) (lI_fd hI c _ _ _ _ _)
  · rw [if_neg c, if_neg (show ¬ K.1 1 ≤ 580 by omega)]
    exact kk S (kI K 0 0) f W v T (b + 10) (s + 3000) (by omega) (by omega) (lI_0 hI 0)
end Ct
