/-! the law's cases: write, image, restore -/
theorem iX_b {S : sS} {K : kK} {W : List jJ} (h : iX S K W) : ∀ a b, S.2.2 a = some b → b < 46 + 4 * W.length := by
  intro a b q
  obtain ⟨j, J, u, -, e, hj, -⟩ := iX_j h q
  omega
theorem iNo_b (o : Option Nat) : iNo o ≤ 1 := by cases o <;> simp [iNo]
theorem iX_l {S : sS} {K : kK} {W : List jJ} (h : iX S K W) : W.length ≤ 3 := by
  have := h.2.2.2
  have := iNo_b (S.2.2 0)
  have := iNo_b (S.2.2 1)
  have := iNo_b (S.2.2 2)
  omega
theorem iX_l2 {S : sS} {K : kK} {W : List jJ} (h : iX S K W) {i : Nat} (hi : i < 3) (hs : S.2.2 i = none) : W.length ≤ 2 := by
  have hl := h.2.2.2
  have b0 := iNo_b (S.2.2 0)
  have b1 := iNo_b (S.2.2 1)
  have b2 := iNo_b (S.2.2 2)
  have e : i = 0 ∨ i = 1 ∨ i = 2 := by omega
  have z : iNo (none : Option Nat) = 0 := rfl
  rcases e with rfl | rfl | rfl
  · rw [hs, z] at hl
    omega
  · rw [hs, z] at hl
    omega
  · rw [hs, z] at hl
    omega
theorem iX_0 {S : sS} {K : kK} {W : List jJ} (h : iX S K W) {i : Nat} (hi : i < 3) (hs : S.2.2 i = none) : K.2 4 i = 0 := by
  rcases h.2.1 i hi with ⟨-, e⟩ | ⟨j, J, u, e1, -⟩
  · exact e
  · rw [hs] at e1
    cases e1
theorem iX_ims {S : sS} {K Q : kK} {W : List jJ} {v : vV} {i j : Nat} {J : jJ} (hi : i < 3) (h : iX S K W) (hv : kV (K.2 0) v) (hs : S.2.2 i = some (46 + 4 * j)) (hw : j < W.length) (hx : vX S v) (h4 : ∀ a, Q.2 4 a = if a = i then 1 else K.2 4 a) (h3 : ∀ z, Q.2 3 z = if 3108 * i ≤ z ∧ z < 3108 * i + 3108 then K.2 0 (z - 3108 * i) else K.2 3 z) : iX S Q (W.set j (jCp S J)) := by
  refine iX_im (j := j) (J1 := jCp S J) hi h hv ?_ (List.getElem?_set_self hw) (jCp_v hx J) (fun a ha _ => List.getElem?_set_ne (fun q => ha q.symm)) (fun a ha q => ha (h.2.2.1 a i _ q hs)) ?_ h4 h3
  · funext a
    by_cases e : a = i
    · rw [e, va_up_s, hs]
    · rw [va_up_o _ _ e]
  · rw [List.length_set]
    exact h.2.2.2
theorem iX_imn {S : sS} {K Q : kK} {W : List jJ} {v : vV} {i : Nat} (hi : i < 3) (h : iX S K W) (hv : kV (K.2 0) v) (hs : S.2.2 i = none) (hx : vX S v) (h4 : ∀ a, Q.2 4 a = if a = i then 1 else K.2 4 a) (h3 : ∀ z, Q.2 3 z = if 3108 * i ≤ z ∧ z < 3108 * i + 3108 then K.2 0 (z - 3108 * i) else K.2 3 z) : iX (sIm S i (46 + 4 * W.length)) Q (W ++ [jCp S j0]) := by
  refine iX_im (j := W.length) (J1 := jCp S j0) hi h hv rfl ?_ (jCp_v hx j0) (fun a _ ha => List.getElem?_append_left ha) (fun a _ q => by have := iX_b h a _ q; omega) ?_ h4 h3
  · rw [List.getElem?_append_right (Nat.le_refl _), Nat.sub_self]
    rfl
  · have e := iNo_up (q := S.2.2) (p := 46 + 4 * W.length) hi
    have z : iNo (none : Option Nat) = 0 := rfl
    rw [hs, z] at e
    have hl := h.2.2.2
    rw [List.length_append]
    show W.length + 1 = iNo (va_up S.2.2 i (some (46 + 4 * W.length)) 0) + iNo (va_up S.2.2 i (some (46 + 4 * W.length)) 1) + iNo (va_up S.2.2 i (some (46 + 4 * W.length)) 2)
    rw [e]
    omega
section Cv
variable {X : mX} {S : sS} {K : kK} {W : List jJ} {f : Nat → Int} {v : vV} {T : tT} {b s : Nat}
set_option maxHeartbeats 1000000 in
set_option maxRecDepth 100000 in

theorem imgC (h : iX S K W) (hk : kV (K.2 0) v) (hv : vX S v) {i : Int} (c : 0 ≤ i ∧ i < 3) : ∃ (R : sS) (W1 : List jJ), zEv X 13 mL_image [zR 0, zI i] (lH S K f W) (zIs (.inl (some (zI 0))) (lH R K f W1)) ∧ R.1 = S.1 ∧ R.2.1 = S.2.1 ∧ ∀ Q : kK, (∀ a, Q.2 4 a = if a = i.toNat then 1 else K.2 4 a) → (∀ z, Q.2 3 z = if 3108 * i.toNat ≤ z ∧ z < 3108 * i.toNat + 3108 then K.2 0 (z - 3108 * i.toNat) else K.2 3 z) → iX R Q W1 := by
  have hi : i.toNat < 3 := by omega
  cases hs : S.2.2 i.toNat with
  | some p =>
    obtain ⟨j, J, u, -, e, hj, hw, -⟩ := iX_j h hs
    subst e
    have hl := iX_l h
    refine ⟨S, W.set j (jCp S J), ?_, rfl, rfl, fun Q q4 q3 => iX_ims hi h hk hs hj hv q4 q3⟩
    have hj3 : j = 0 ∨ j = 1 ∨ j = 2 := by omega
    rcases hj3 with rfl | rfl | rfl
    · rcases W with _ | ⟨J0, w⟩
      · simp at hj
      · have e0 : J0 = J := by simpa using hw
        subst e0
        exact limage0 (cIm0 (J := J0) (w := cWs 50 w) c hs)
    · rcases W with _ | ⟨J0, _ | ⟨J1, w⟩⟩
      · simp at hj
      · simp at hj
      · have e0 : J1 = J := by simpa using hw
        subst e0
        exact limage0 (cIm1 (J := J1) (w := cWs 54 w) c hs)
    · rcases W with _ | ⟨J0, _ | ⟨J1, _ | ⟨J2, w⟩⟩⟩
      · simp at hj
      · simp at hj
      · simp at hj
      · have e0 : J2 = J := by simpa using hw
        subst e0
        exact limage0 (cIm2 (J := J2) (w := cWs 58 w) c hs)
  | none =>
    have hl := iX_l2 h hi hs
    have hb := iX_b h
    refine ⟨sIm S i.toNat (46 + 4 * W.length), W ++ [jCp S j0], ?_, rfl, rfl, fun Q q4 q3 => iX_imn hi h hk hs hv q4 q3⟩
    rcases W with _ | ⟨J0, _ | ⟨J1, _ | ⟨J2, w⟩⟩⟩
    · exact limage0 (cImN0 (fun a b q => hb a b q) c hs)
    · exact limage0 (cImN1 (fun a b q => hb a b q) c hs)
    · exact limage0 (cImN2 (fun a b q => hb a b q) c hs)
    · simp only [List.length_cons] at hl
      omega
set_option maxHeartbeats 1000000 in
set_option maxRecDepth 100000 in

theorem rstC (h : iX S K W) {i : Int} (c : 0 ≤ i ∧ i < 3) {j : Nat} {J : jJ} (hs : S.2.2 i.toNat = some (46 + 4 * j)) (hw : W[j]? = some J) : zEv X 13 mL_restore [zR 0, zI i] (lH S K f W) (zIs (.inl (some (zI 0))) (lH (cRt S J) K f W)) := by
  have hl := iX_l h
  have hj := (List.getElem?_eq_some_iff.mp hw).1
  have hj3 : j = 0 ∨ j = 1 ∨ j = 2 := by omega
  rcases hj3 with rfl | rfl | rfl
  · rcases W with _ | ⟨J0, w⟩
    · simp at hj
    · have e0 : J0 = J := by simpa using hw
      subst e0
      exact lrestore0 (cRs0 (J := J0) (w := cWs 50 w) c hs)
  · rcases W with _ | ⟨J0, _ | ⟨J1, w⟩⟩
    · simp at hj
    · simp at hj
    · have e0 : J1 = J := by simpa using hw
      subst e0
      exact lrestore0 (cRs1 (J := J1) (w := cWs 54 w) c hs)
  · rcases W with _ | ⟨J0, _ | ⟨J1, _ | ⟨J2, w⟩⟩⟩
    · simp at hj
    · simp at hj
    · simp at hj
    · have e0 : J2 = J := by simpa using hw
      subst e0
      exact lrestore0 (cRs2 (J := J2) (w := cWs 58 w) c hs)
theorem lI_im {S R : sS} {K : kK} {W W1 : List jJ} {v : vV} {T : tT} (h : lI S K W v T) (r1 : R.1 = S.1) (r2 : R.2.1 = S.2.1) {y z : Nat → Int} (hx : iX R (kA (kA (kI K 0 0) 4 y) 3 z) W1) : lI R (kA (kA (kI K 0 0) 4 y) 3 z) W1 v T := by
  obtain ⟨h1, h2, h3, h4, h5, h6⟩ := h
  refine ⟨vX_st h1 (fun i _ _ => by rw [r1]) (fun r _ _ => by rw [r2]), h2, ?_, kTr_st h4 rfl rfl rfl, lTe_st h5 (by rw [r1]) (by rw [r1]) (by rw [r1]) (by rw [r2]) rfl rfl rfl rfl, hx⟩
  unfold tX
  rw [r1, r2]
  exact h3
set_option maxHeartbeats 1000000 in
set_option maxRecDepth 100000 in
theorem case52 (hI : lI S K W v T) {i : Int} (h0 : 0 ≤ i) (h1 : i + 5 < (X.2.2.2.2.2.1 : Int)) (hX : X.2.2.2.2.2.1 ≤ 100000) (kk : lNx X i b s) {bc bs : Nat} (hbc : b + 10 ≤ bc) (hbs : s + 3000 ≤ bs) : zWP X mL_law 14 lQ 3432 (lL i) [] (lH S K f W) bc bs := by
  refine zWP_run gLw_52 100 [3529] ?_
  refine mVc_i ⟨by omega, by omega, hX⟩ ?_
  show zInv X mL_law 14 lQ tLw_52 (fun pc L st h bc bs => bif [3529].elem pc then zWP X mL_law 14 lQ pc L st h bc bs else zRun X mL_law 14 lQ tLw_52 [3529] 93 pc L st h bc bs) 3439 3442 (lL i) (lH S K f W) bc bs 8 mL_image [zR 0, zI (scr X (i + 1))] []
  refine zInv_i (M2 := mL_image) rfl rfl (Nat.ble_eq.mpr ?_) (Nat.ble_eq.mpr ?_) ?_
  · show 5 ≤ bc
    omega
  · show 2453 ≤ bs
    omega
  by_cases c : 0 ≤ (scr X (i + 1)) ∧ (scr X (i + 1)) < 3
  · obtain ⟨R, W1, hE, r1, r2, hx⟩ := imgC (X := X) (f := f) hI.2.2.2.2.2 hI.2.1 hI.1 c
    refine zCl_e hE (by decide) ?_
    refine mVc_i ⟨by omega, by omega, hX⟩ ?_
    refine zCl_i (kImT (S := R) (K := K) (t := oC f :: cWs 46 W1) c) (by decide) ?_
    rintro o9 h9 ⟨rfl, y, rfl, hy⟩
    refine zCl_e (kthr (S := R) (K := kA (kA (kI K 0 0) 4 (va_up (K.2 4) (scr X (i + 1)).toNat 1)) 3 y) (t := oC f :: cWs 46 W1)) (by decide) ?_
    refine zBrT ⟨show rI 0 from ⟨by omega, by omega⟩, show rI 0 from ⟨by omega, by omega⟩⟩ rfl ?_
    exact zWP_fg (kk R _ f W1 v T (bc - 5 - 0 - 0) (bs - 2453 - 0 - 0) (by omega) (by omega) (lI_im hI r1 r2 (hx _ (fun a => rfl) (fun z => hy z)))) (by repeat (first | exact trivial | refine ⟨rfl, ?_⟩))
  · refine zCl_e (limage1 (t := cM K ++ (oC f :: cWs 46 W)) (cImF (scr_r X (i + 1)) c)) (by decide) ?_
    refine mVc_i ⟨by omega, by omega, hX⟩ ?_
    refine zCl_e (kImF (S := S) (K := K) (t := oC f :: cWs 46 W) (scr_r X (i + 1)) c) (by decide) ?_
    refine zCl_e (kthr (S := S) (K := kI K 0 1) (t := oC f :: cWs 46 W)) (by decide) ?_
    refine zBrT ⟨show rI 1 from ⟨by omega, by omega⟩, show rI 1 from ⟨by omega, by omega⟩⟩ rfl ?_
    exact zWP_fg (kk S _ f W v T (bc - 5 - 0 - 0) (bs - 2453 - 0 - 0) (by omega) (by omega) (lI_0 hI 1)) (by repeat (first | exact trivial | refine ⟨rfl, ?_⟩))
set_option maxHeartbeats 1000000 in
set_option maxRecDepth 100000 in
theorem case53 (hI : lI S K W v T) {i : Int} (h0 : 0 ≤ i) (h1 : i + 5 < (X.2.2.2.2.2.1 : Int)) (hX : X.2.2.2.2.2.1 ≤ 100000) (kk : lNx X i b s) : zWP X mL_law 14 lQ 3468 (lL i) [] (lH S K f W) (b + 10) (s + 3000) := by
  refine zWP_run gLw_53 100 [3529] ?_
  refine mVc_i ⟨by omega, by omega, hX⟩ ?_
  by_cases c : 0 ≤ (scr X (i + 1)) ∧ (scr X (i + 1)) < 3
  · cases hs : S.2.2 (scr X (i + 1)).toNat with
    | none =>
      refine zCl_e (lrestore2 (t := cM K ++ (oC f :: cWs 46 W)) (cRsN c hs)) (by decide) ?_
      refine mVc_i ⟨by omega, by omega, hX⟩ ?_
      refine zCl_e (kRsN (S := S) (K := K) (t := oC f :: cWs 46 W) c (iX_0 hI.2.2.2.2.2 (show (scr X (i + 1)).toNat < 3 by omega) hs)) (by decide) ?_
      refine zCl_e (kthr (S := S) (K := kI K 0 2) (t := oC f :: cWs 46 W)) (by decide) ?_
      refine zBrT ⟨show rI 2 from ⟨by omega, by omega⟩, show rI 2 from ⟨by omega, by omega⟩⟩ rfl ?_
      exact zWP_fg (kk S _ f W v T (b + 8) (s + 2988) (by omega) (by omega) (lI_0 hI 2)) (by repeat (first | exact trivial | refine ⟨rfl, ?_⟩))
    | some p =>
      obtain ⟨j, J, u, -, e, hj, hw, hJ, h4, hku⟩ := iX_j hI.2.2.2.2.2 hs
      subst e
      refine zCl_e (rstC (f := f) hI.2.2.2.2.2 c hs hw) (by decide) ?_
      refine mVc_i ⟨by omega, by omega, hX⟩ ?_
      refine zCl_i (kRsT (S := cRt S J) (K := K) (t := oC f :: cWs 46 W) c h4) (by decide) ?_
      rintro o9 h9 ⟨rfl, y, rfl, hy⟩
      refine zCl_e (kthr (S := cRt S J) (K := kA (kI K 0 0) 0 y) (t := oC f :: cWs 46 W)) (by decide) ?_
      refine zBrT ⟨show rI 0 from ⟨by omega, by omega⟩, show rI 0 from ⟨by omega, by omega⟩⟩ rfl ?_
      exact zWP_fg (kk (cRt S J) (kA (kI K 0 0) 0 y) f W u T (b + 8) (s + 2988) (by omega) (by omega) (lI_g hI (cRt_W S J) (cRt_v hJ S) (kF_t (kF_I K 0 (by omega)) (kF_A _ y (by omega))) (show kV y u from kV_cg (fun z hz => hy z hz) hku))) (by repeat (first | exact trivial | refine ⟨rfl, ?_⟩))
  · refine zCl_e (lrestore1 (t := cM K ++ (oC f :: cWs 46 W)) (cRsF (scr_r X (i + 1)) c)) (by decide) ?_
    refine mVc_i ⟨by omega, by omega, hX⟩ ?_
    refine zCl_e (kRsF (S := S) (K := K) (t := oC f :: cWs 46 W) (scr_r X (i + 1)) c) (by decide) ?_
    refine zCl_e (kthr (S := S) (K := kI K 0 1) (t := oC f :: cWs 46 W)) (by decide) ?_
    refine zBrT ⟨show rI 1 from ⟨by omega, by omega⟩, show rI 1 from ⟨by omega, by omega⟩⟩ rfl ?_
    exact zWP_fg (kk S _ f W v T (b + 8) (s + 2988) (by omega) (by omega) (lI_0 hI 1)) (by repeat (first | exact trivial | refine ⟨rfl, ?_⟩))
def wz (X : mX) (i : Int) : Int := (Int64.ofInt ((Int64.ofInt (scr X (i + 3)) <<< ((Int32.ofInt 32).toInt64 &&& 63)).toInt) ||| Int64.ofInt ((Int64.ofInt (scr X (i + 4)) &&& Int64.ofInt 4294967295).toInt)).toInt
theorem wz_r (X : mX) (i : Int) : rL (wz X i) := ⟨Int64.le_toInt _, Int64.toInt_lt _⟩
set_option maxHeartbeats 1000000 in
set_option maxRecDepth 100000 in
theorem case50 (hI : lI S K W v T) {i : Int} (h0 : 0 ≤ i) (h1 : i + 5 < (X.2.2.2.2.2.1 : Int)) (hX : X.2.2.2.2.2.1 ≤ 100000) (kk : lNx X i b s) : zWP X mL_law 14 lQ 3265 (lL i) [] (lH S K f W) (b + 10) (s + 3000) := by
  refine zWP_run gLw_50 100 [3529] ?_
  refine mVc_i ⟨by omega, by omega, hX⟩ ?_
  refine mVc_i ⟨by omega, by omega, hX⟩ ?_
  refine mVc_i ⟨by omega, by omega, hX⟩ ?_
  refine mVc_i (scr_r X (i + 3)) ?_
  refine mVc_i ⟨by omega, by omega, hX⟩ ?_
  refine mVc_i (scr_r X (i + 4)) ?_
  have hl9 := lWrite (X := X) (S := S) (K := K) (W := cWs 46 W) (f := f) hI.2.2.1 (scr_r X (i + 1)) (scr_r X (i + 2)) (wz_r X i)
  refine zCl_i hl9 (by decide) ?_
  rintro o9 h9 ⟨R, f1, rfl, sg, hv1, ho⟩
  have hk9 := zEv_n (kWrite (X := X) (S := R) (K := K) (t := oC f1 :: cWs 46 W) hI.2.2.2.1 (scr_r X (i + 1)) (scr_r X (i + 2)) (wz_r X i))
  generalize pWrite T (scr X (i + 1)) (scr X (i + 2)) (wz X i) = r at hv1 ho hk9
  obtain ⟨y | e, v1⟩ := r
  · obtain ⟨rfl, ho⟩ := ho
    refine mVc_i ⟨by omega, by omega, hX⟩ ?_
    refine mVc_i ⟨by omega, by omega, hX⟩ ?_
    refine mVc_i ⟨by omega, by omega, hX⟩ ?_
    refine mVc_i (scr_r X (i + 3)) ?_
    refine mVc_i ⟨by omega, by omega, hX⟩ ?_
    refine mVc_i (scr_r X (i + 4)) ?_
    refine zCl_i hk9 (by decide) ?_
    rintro o9 h9 ⟨o0, ⟨z, Q, rfl, rfl, kf, hkv, hz, ht⟩, rfl⟩
    refine zCl_e (kthr (S := R) (K := Q) (t := oC f1 :: cWs 46 W)) (by decide) ?_
    refine zBrT ⟨by rw [ht]; exact rI_0, rI_0⟩ ht ?_
    refine zBrT rI_0 rfl ?_
    refine mVc_i (by omega) ?_
    refine zBrT ⟨by show rL (f1 0); rw [ho]; exact wJ_r y, wJ_r z⟩ (by show f1 0 = _; rw [ho, hz]) ?_
    exact zWP_fg (kk R Q f1 W v v1 (b + 7) (s + 2982) (by omega) (by omega) (lI_t hI sg hv1 kf hkv)) (by repeat (first | exact trivial | refine ⟨rfl, ?_⟩))
  · have ho2 : o9 = .inl (some (zI (kcd [1, 2, 3] e))) := ho
    subst ho2
    have hb := kcd_b [1, 2, 3] e
    have hb1 := kcd_1 1 [2, 3] e
    simp only [List.length_cons, List.length_nil] at hb
    refine mVc_i ⟨by omega, by omega, hX⟩ ?_
    refine mVc_i ⟨by omega, by omega, hX⟩ ?_
    refine mVc_i ⟨by omega, by omega, hX⟩ ?_
    refine mVc_i (scr_r X (i + 3)) ?_
    refine mVc_i ⟨by omega, by omega, hX⟩ ?_
    refine mVc_i (scr_r X (i + 4)) ?_
    refine zCl_i hk9 (by decide) ?_
    rintro o9 h9 ⟨o0, ⟨z, Q, rfl, rfl, kf, hkv, ht⟩, rfl⟩
    have ht2 : Q.1 0 = kcd [1, 2, 3] e := ht
    refine zCl_e (kthr (S := R) (K := Q) (t := oC f1 :: cWs 46 W)) (by decide) ?_
    refine zBrT ⟨by rw [ht2]; simp only [rI]; omega, by simp only [rI]; omega⟩ ht2 ?_
    refine zBrF (by simp only [rI]; omega) (by omega) ?_
    exact zWP_fg (kk R Q f1 W v v1 (b + 7) (s + 2982) (by omega) (by omega) (lI_t hI sg hv1 kf hkv)) (by repeat (first | exact trivial | refine ⟨rfl, ?_⟩))
end Cv
