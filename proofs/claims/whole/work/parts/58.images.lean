/-! the class: image and restore -/
/-! no cell beyond -/
def zLv (n : Nat) : zV → Prop
  | .inr (.inr (some k)) => k < n
  | _ => True
def zLs (n : Nat) : List zV → Prop
  | [] => True
  | v :: r => zLv n v ∧ zLs n r
def zLt (n : Nat) : zE → Prop
  | .inl (_, _, .inl _) => True
  | .inl (_, _, .inr f) => ∀ i k, f i = some k → k < n
  | .inr (_, fs) => zLs n fs
def zBd (n : Nat) : zH → Prop
  | [] => True
  | e :: r => zLt n e ∧ zBd n r
def zLo (n : Nat) : List (Option zV) → Prop
  | [] => True
  | some v :: r => zLv n v ∧ zLo n r
  | none :: r => zLo n r
theorem zBd_a {n : Nat} : ∀ {a b : zH}, zBd n a → zBd n b → zBd n (a ++ b)
  | [], _, _, h => h
  | _ :: _, _, h, k => ⟨h.1, zBd_a h.2 k⟩
theorem zBd_m {n : Nat} : ∀ {h : zH} {e : zE}, zBd n h → e ∈ h → zLt n e
  | [], _, _, q => by cases q
  | e0 :: r, e, h, q => by
    rcases List.mem_cons.mp q with q | q
    · rw [q]; exact h.1
    · exact zBd_m h.2 q
theorem zLs_m {n : Nat} : ∀ {h : List zV} {e : zV}, zLs n h → e ∈ h → zLv n e
  | [], _, _, q => by cases q
  | e0 :: r, e, h, q => by
    rcases List.mem_cons.mp q with q | q
    · rw [q]; exact h.1
    · exact zLs_m h.2 q
theorem zLo_m {n : Nat} : ∀ {h : List (Option zV)} {e : zV}, zLo n h → some e ∈ h → zLv n e
  | [], _, _, q => by cases q
  | some v :: r, e, h, q => by
    rcases List.mem_cons.mp q with q | q
    · cases q; exact h.1
    · exact zLo_m h.2 q
  | none :: r, e, h, q => by
    rcases List.mem_cons.mp q with q | q
    · cases q
    · exact zLo_m (h := r) h q
theorem zLv_n {n : Nat} {v : zV} (h : zLv n v) : mNoV n (zT v) := by
  rcases v with z | z | z | k
  · exact trivial
  · exact trivial
  · exact trivial
  · have : k < n := h
    show k ≠ n
    omega
theorem zStab {h : zH} {L : List (Option zV)} {st : List zV} {n : Nat} (hn : h.length = n) (h1 : zBd n h) (h2 : zLo n L) (h3 : zLs n st) : mStab (h.map zC) (zL L) (st.map zT) := by
  unfold mStab
  rw [List.length_map, hn]
  refine ⟨fun e he => ?_, fun o ho v hv => ?_, fun v hv => ?_⟩
  · obtain ⟨e0, h0, rfl⟩ := List.mem_map.mp he
    have hm := zBd_m h1 h0
    rcases e0 with ⟨t, m, f | f⟩ | ⟨c, fs⟩
    · show mNoE n (.inl (t, m, if t = 1 then .inr (.inl (fun i => Int64.ofInt (f i))) else .inl (fun i => Int32.ofInt (f i))))
      split
      · exact trivial
      · exact trivial
    · show ∀ i, f i ≠ some n
      intro i q
      have hm2 : ∀ i k, f i = some k → k < n := hm
      have := hm2 i n q
      omega
    · show ∀ v ∈ fs.map zT, mNoV n v
      intro v hv
      obtain ⟨v0, h0, rfl⟩ := List.mem_map.mp hv
      exact zLv_n (zLs_m hm h0)
  · obtain ⟨o0, h0, rfl⟩ := List.mem_map.mp ho
    cases o0 with
    | none => cases hv
    | some v0 =>
      cases hv
      exact zLv_n (zLo_m h2 h0)
  · obtain ⟨v0, h0, rfl⟩ := List.mem_map.mp hv
    exact zLv_n (zLs_m h3 h0)
theorem cX_bd {S : sS} {n : Nat} (hn : 29 ≤ n) (hS : ∀ i k, S.2.2 i = some k → k < n) : zBd n (cX S) := by
  unfold cX
  simp only [zBd, zLt, zLs, zLv, zR, zI, and_true, true_and]
  refine ⟨?_, ?_, ?_, ?_, ?_, ?_, ?_, ?_, ?_, ?_, ?_, ?_, ?_, ?_⟩ <;> (first | exact hS | omega | skip)
  all_goals (intro i k q; rcases i with _ | _ | _ | _ | i <;> simp only [Option.some.injEq, reduceCtorEq] at q <;> omega)
theorem cM_bd {K : kK} {n : Nat} (hn : 45 ≤ n) : zBd n (cM K) := by
  unfold cM
  simp only [zBd, zLt, zLs, zLv, zR, zI, and_true, true_and]
  omega
/-! images: games of their own -/
abbrev jJ : Type := (Nat → Int) × (Nat → Nat → Int)
def cI (p : Nat) (J : jJ) : zH := [.inr (2, [zI (J.1 0), zI (J.1 1), zI (J.1 2), zI (J.1 3), zI (J.1 4), zR (p + 1), zR (p + 2), zR (p + 3)]), .inl (0, 39, .inl (J.2 0)), .inl (0, 60, .inl (J.2 1)), .inl (0, 2340, .inl (J.2 2))]
theorem cI_bd {p n : Nat} {J : jJ} (h : p + 4 ≤ n) : zBd n (cI p J) := by
  unfold cI
  simp only [zBd, zLt, zLs, zLv, zR, zI, and_true, true_and]
  omega
def jS (J : jJ) : sS := (fun i => J.1 (i - 12), fun r => J.2 (r - 2), fun _ => none)
def jCp (S : sS) (J : jJ) : jJ := (fun i => S.1 (12 + i), fun r => match r with
  | 0 => va_cpy (S.2.1 2) (J.2 0) 0 0 39
  | 1 => va_cpy (S.2.1 3) (J.2 1) 0 0 60
  | _ => va_cpy (S.2.1 4) (J.2 2) 0 0 2340)
def cRt (S : sS) (J : jJ) : sS := sA (sA (sA (sI (sI (sI (sI (sI S 12 (J.1 0)) 13 (J.1 1)) 14 (J.1 2)) 15 (J.1 3)) 16 (J.1 4)) 2 (va_cpy (J.2 0) (S.2.1 2) 0 0 39)) 3 (va_cpy (J.2 1) (S.2.1 3) 0 0 60)) 4 (va_cpy (J.2 2) (S.2.1 4) 0 0 2340)
def j0 : jJ := (fun i => if i = 3 then 5 else 0, fun _ _ => 0)
theorem cRt_W (S : sS) (J : jJ) : sG S (cRt S J) := sG_t (sG_t (sG_t (sG_t (sG_t (sG_t (sG_t (sG_I S _ (by omega)) (sG_I _ _ (by omega))) (sG_I _ _ (by omega))) (sG_I _ _ (by omega))) (sG_I _ _ (by omega))) (sG_A _ _ (by omega))) (sG_A _ _ (by omega))) (sG_A _ _ (by omega))
theorem vX_cg {S R : sS} {v : vV} (h : vX S v) (h1 : ∀ i, 12 ≤ i → i ≤ 16 → R.1 i = S.1 i) (h2 : ∀ i, i < 39 → R.2.1 2 i = S.2.1 2 i) (h3 : ∀ i, i < 60 → R.2.1 3 i = S.2.1 3 i) (h4 : ∀ i, i < 2340 → R.2.1 4 i = S.2.1 4 i) : vX R v := by
  have b2 := h.1.2.2.1
  have b4 := h.1.2.2.2.2.1
  unfold vX
  rw [h1 12 (by omega) (by omega), h1 13 (by omega) (by omega), h1 14 (by omega) (by omega), h1 15 (by omega) (by omega), h1 16 (by omega) (by omega)]
  refine ⟨h.1, h.2.1, h.2.2.1, h.2.2.2.1, h.2.2.2.2.1, h.2.2.2.2.2.1, ?_, fun k k0 k1 => ⟨?_, ?_⟩⟩
  · exact vRow_cg (by omega) (fun i hi => h2 (0 + i) (by omega)) h.2.2.2.2.2.2.1
  · rw [h3 _ (by omega)]
    exact (h.2.2.2.2.2.2.2 k k0 k1).1
  · exact vRow_cg (by omega) (fun i hi => h4 _ (by omega)) (h.2.2.2.2.2.2.2 k k0 k1).2
theorem va_cpy0 {f g : Nat → Int} {n i : Nat} (h : i < n) : va_cpy f g 0 0 n i = f i := by
  rw [va_cpy, if_pos (by omega), show 0 + (i - 0) = i by omega]
theorem jCp_v {S : sS} {v : vV} (h : vX S v) (J : jJ) : vX (jS (jCp S J)) v := vX_cg h (fun i a b => by
  show S.1 (12 + (i - 12)) = S.1 i
  rw [show 12 + (i - 12) = i by omega]) (fun i hi => va_cpy0 hi) (fun i hi => va_cpy0 hi) (fun i hi => va_cpy0 hi)
theorem cRt_v {J : jJ} {v : vV} (h : vX (jS J) v) (S : sS) : vX (cRt S J) v := vX_cg h (fun i a b => by
  have e : i = 12 ∨ i = 13 ∨ i = 14 ∨ i = 15 ∨ i = 16 := by omega
  rcases e with rfl | rfl | rfl | rfl | rfl <;> rfl) (fun i hi => va_cpy0 hi) (fun i hi => va_cpy0 hi) (fun i hi => va_cpy0 hi)
section Img
variable {X : mX} {S : sS} {K : kK} {f : Nat → Int} {J J1 J2 : jJ} {w : zH}
abbrev oC (f : Nat → Int) : zE := .inl (1, 1, .inl f)
def sIm (S : sS) (i : Nat) (p : Nat) : sS := (S.1, S.2.1, va_up S.2.2 i (some p))
set_option maxHeartbeats 1000000 in
set_option maxRecDepth 100000 in
theorem gcp0  : zEv X 1 mX2_copyFrom [zR 46, zR 5] (cX (S) ++ (cM K ++ (oC f :: (cI 46 J ++ (w))))) (zIs (.inl none) (cX (S) ++ (cM K ++ (oC f :: (cI 46 (jCp S J) ++ (w)))))) := by
  refine zEv_run gX2_copyFrom 80 [] rfl ?_
  refine mVc_i (by omega) ?_
  refine mVc_i (by omega) ?_
  refine mVc_i (by omega) ?_
  exact ⟨rfl, rfl⟩
set_option maxHeartbeats 1000000 in
set_option maxRecDepth 100000 in
theorem grs0  : zEv X 1 mX2_copyFrom [zR 5, zR 46] (cX (S) ++ (cM K ++ (oC f :: (cI 46 J ++ (w))))) (zIs (.inl none) (cX (cRt S J) ++ (cM K ++ (oC f :: (cI 46 J ++ (w)))))) := by
  refine zEv_run gX2_copyFrom 80 [] rfl ?_
  refine mVc_i (by omega) ?_
  refine mVc_i (by omega) ?_
  refine mVc_i (by omega) ?_
  exact ⟨rfl, rfl⟩
set_option maxHeartbeats 1000000 in
set_option maxRecDepth 100000 in
theorem gcp1  : zEv X 1 mX2_copyFrom [zR 50, zR 5] (cX (S) ++ (cM K ++ (oC f :: (cI 46 J1 ++ (cI 50 J ++ (w)))))) (zIs (.inl none) (cX (S) ++ (cM K ++ (oC f :: (cI 46 J1 ++ (cI 50 (jCp S J) ++ (w))))))) := by
  refine zEv_run gX2_copyFrom 80 [] rfl ?_
  refine mVc_i (by omega) ?_
  refine mVc_i (by omega) ?_
  refine mVc_i (by omega) ?_
  exact ⟨rfl, rfl⟩
set_option maxHeartbeats 1000000 in
set_option maxRecDepth 100000 in
theorem grs1  : zEv X 1 mX2_copyFrom [zR 5, zR 50] (cX (S) ++ (cM K ++ (oC f :: (cI 46 J1 ++ (cI 50 J ++ (w)))))) (zIs (.inl none) (cX (cRt S J) ++ (cM K ++ (oC f :: (cI 46 J1 ++ (cI 50 J ++ (w))))))) := by
  refine zEv_run gX2_copyFrom 80 [] rfl ?_
  refine mVc_i (by omega) ?_
  refine mVc_i (by omega) ?_
  refine mVc_i (by omega) ?_
  exact ⟨rfl, rfl⟩
set_option maxHeartbeats 1000000 in
set_option maxRecDepth 100000 in
theorem gcp2  : zEv X 1 mX2_copyFrom [zR 54, zR 5] (cX (S) ++ (cM K ++ (oC f :: (cI 46 J1 ++ (cI 50 J2 ++ (cI 54 J ++ (w))))))) (zIs (.inl none) (cX (S) ++ (cM K ++ (oC f :: (cI 46 J1 ++ (cI 50 J2 ++ (cI 54 (jCp S J) ++ (w)))))))) := by
  refine zEv_run gX2_copyFrom 80 [] rfl ?_
  refine mVc_i (by omega) ?_
  refine mVc_i (by omega) ?_
  refine mVc_i (by omega) ?_
  exact ⟨rfl, rfl⟩
set_option maxHeartbeats 1000000 in
set_option maxRecDepth 100000 in
theorem grs2  : zEv X 1 mX2_copyFrom [zR 5, zR 54] (cX (S) ++ (cM K ++ (oC f :: (cI 46 J1 ++ (cI 50 J2 ++ (cI 54 J ++ (w))))))) (zIs (.inl none) (cX (cRt S J) ++ (cM K ++ (oC f :: (cI 46 J1 ++ (cI 50 J2 ++ (cI 54 J ++ (w)))))))) := by
  refine zEv_run gX2_copyFrom 80 [] rfl ?_
  refine mVc_i (by omega) ?_
  refine mVc_i (by omega) ?_
  refine mVc_i (by omega) ?_
  exact ⟨rfl, rfl⟩
set_option maxHeartbeats 1000000 in
set_option maxRecDepth 100000 in
theorem ni_t {t : zH} {i : Int} (h : 0 ≤ i ∧ i < 3) : zEv X 2 mX9_needImagePlace [zR 0, zI i] (cX S ++ t) (zIs (.inl none) (cX S ++ t)) := by
  refine zEv_run gX9_needImagePlace 40 [] rfl ?_
  refine zBrF (by simp only [rI]; omega) (by omega) ?_
  refine zBrT ⟨by simp only [rI]; omega, by show rI 3; simp only [rI]; omega⟩ (by show i < 3; omega) ?_
  exact ⟨rfl, rfl⟩
set_option maxHeartbeats 1000000 in
set_option maxRecDepth 100000 in
theorem ni_f {t : zH} {i : Int} (hr : rI i) (h : ¬ (0 ≤ i ∧ i < 3)) : zEv X 2 mX9_needImagePlace [zR 0, zI i] (cX S ++ t) (zIs (.inr 1) (cX S ++ t)) := by
  refine zEv_run gX9_needImagePlace 40 [] rfl ?_
  by_cases c : i < 0
  · refine zBrT hr c ?_
    exact ⟨rfl, rfl⟩
  · refine zBrF hr c ?_
    refine zBrF ⟨hr, by show rI 3; simp only [rI]; omega⟩ (by show ¬ i < 3; omega) ?_
    exact ⟨rfl, rfl⟩
set_option maxHeartbeats 1000000 in
set_option maxRecDepth 100000 in
theorem cImF {t : zH} {i : Int} (hr : rI i) (h : ¬ (0 ≤ i ∧ i < 3)) : zEv X 12 mX9_image [zR 0, zI i] (cX S ++ t) (zIs (.inr 1) (cX S ++ t)) := by
  refine zEv_run gX9_image 60 [] rfl ?_
  refine zCl_e (ni_f hr h) (by decide) ?_
  exact ⟨rfl, rfl⟩
set_option maxHeartbeats 1000000 in
set_option maxRecDepth 100000 in
theorem cRsF {t : zH} {i : Int} (hr : rI i) (h : ¬ (0 ≤ i ∧ i < 3)) : zEv X 12 mX9_restore [zR 0, zI i] (cX S ++ t) (zIs (.inr 1) (cX S ++ t)) := by
  refine zEv_run gX9_restore 60 [] rfl ?_
  refine zCl_e (ni_f hr h) (by decide) ?_
  exact ⟨rfl, rfl⟩
set_option maxHeartbeats 1000000 in
set_option maxRecDepth 100000 in
theorem cRsN {t : zH} {i : Int} (h : 0 ≤ i ∧ i < 3) (hs : S.2.2 i.toNat = none) : zEv X 12 mX9_restore [zR 0, zI i] (cX S ++ t) (zIs (.inr 2) (cX S ++ t)) := by
  refine zEv_run gX9_restore 60 [11] rfl ?_
  refine zCl_e (ni_t h) (by decide) ?_
  refine mVc_i (by omega) ?_
  show zWP X mX9_restore 12 _ 11 _ [.inr (.inr (S.2.2 i.toNat))] _ _ _
  rw [hs]
  refine zWP_run gX9_restore 60 [] ?_
  exact ⟨rfl, rfl⟩
set_option maxHeartbeats 1000000 in
set_option maxRecDepth 100000 in
theorem cRs0 {i : Int} (h : 0 ≤ i ∧ i < 3) (hs : S.2.2 i.toNat = some 46) : zEv X 12 mX9_restore [zR 0, zI i] (cX (S) ++ (cM K ++ (oC f :: (cI 46 J ++ (w))))) (zIs (.inl none) (cX (cRt S J) ++ (cM K ++ (oC f :: (cI 46 J ++ (w)))))) := by
  refine zEv_run gX9_restore 60 [11] rfl ?_
  refine zCl_e (ni_t h) (by decide) ?_
  refine mVc_i (by omega) ?_
  show zWP X mX9_restore 12 _ 11 _ [.inr (.inr (S.2.2 i.toNat))] _ _ _
  rw [hs]
  refine zWP_run gX9_restore 60 [35] ?_
  refine mVc_i (by omega) ?_
  show zWP X mX9_restore 12 _ 35 _ [.inr (.inr (S.2.2 i.toNat)), zR 5] _ _ _
  rw [hs]
  refine zWP_run gX9_restore 60 [] ?_
  refine zCl_e (grs0) (by decide) ?_
  exact ⟨rfl, rfl⟩
set_option maxHeartbeats 1000000 in
set_option maxRecDepth 100000 in
theorem cIm0 {i : Int} (h : 0 ≤ i ∧ i < 3) (hs : S.2.2 i.toNat = some 46) : zEv X 12 mX9_image [zR 0, zI i] (cX (S) ++ (cM K ++ (oC f :: (cI 46 J ++ (w))))) (zIs (.inl none) (cX (S) ++ (cM K ++ (oC f :: (cI 46 (jCp S J) ++ (w)))))) := by
  refine zEv_run gX9_image 60 [11] rfl ?_
  refine zCl_e (ni_t h) (by decide) ?_
  refine mVc_i (by omega) ?_
  show zWP X mX9_image 12 _ 11 _ [.inr (.inr (S.2.2 i.toNat))] _ _ _
  rw [hs]
  refine zWP_run gX9_image 60 [33] ?_
  refine mVc_i (by omega) ?_
  show zWP X mX9_image 12 _ 33 _ [.inr (.inr (S.2.2 i.toNat))] _ _ _
  rw [hs]
  refine zWP_run gX9_image 60 [] ?_
  refine zCl_e (gcp0) (by decide) ?_
  exact ⟨rfl, rfl⟩
set_option maxHeartbeats 1000000 in
set_option maxRecDepth 100000 in
theorem cRs1 {i : Int} (h : 0 ≤ i ∧ i < 3) (hs : S.2.2 i.toNat = some 50) : zEv X 12 mX9_restore [zR 0, zI i] (cX (S) ++ (cM K ++ (oC f :: (cI 46 J1 ++ (cI 50 J ++ (w)))))) (zIs (.inl none) (cX (cRt S J) ++ (cM K ++ (oC f :: (cI 46 J1 ++ (cI 50 J ++ (w))))))) := by
  refine zEv_run gX9_restore 60 [11] rfl ?_
  refine zCl_e (ni_t h) (by decide) ?_
  refine mVc_i (by omega) ?_
  show zWP X mX9_restore 12 _ 11 _ [.inr (.inr (S.2.2 i.toNat))] _ _ _
  rw [hs]
  refine zWP_run gX9_restore 60 [35] ?_
  refine mVc_i (by omega) ?_
  show zWP X mX9_restore 12 _ 35 _ [.inr (.inr (S.2.2 i.toNat)), zR 5] _ _ _
  rw [hs]
  refine zWP_run gX9_restore 60 [] ?_
  refine zCl_e (grs1) (by decide) ?_
  exact ⟨rfl, rfl⟩
set_option maxHeartbeats 1000000 in
set_option maxRecDepth 100000 in
theorem cIm1 {i : Int} (h : 0 ≤ i ∧ i < 3) (hs : S.2.2 i.toNat = some 50) : zEv X 12 mX9_image [zR 0, zI i] (cX (S) ++ (cM K ++ (oC f :: (cI 46 J1 ++ (cI 50 J ++ (w)))))) (zIs (.inl none) (cX (S) ++ (cM K ++ (oC f :: (cI 46 J1 ++ (cI 50 (jCp S J) ++ (w))))))) := by
  refine zEv_run gX9_image 60 [11] rfl ?_
  refine zCl_e (ni_t h) (by decide) ?_
  refine mVc_i (by omega) ?_
  show zWP X mX9_image 12 _ 11 _ [.inr (.inr (S.2.2 i.toNat))] _ _ _
  rw [hs]
  refine zWP_run gX9_image 60 [33] ?_
  refine mVc_i (by omega) ?_
  show zWP X mX9_image 12 _ 33 _ [.inr (.inr (S.2.2 i.toNat))] _ _ _
  rw [hs]
  refine zWP_run gX9_image 60 [] ?_
  refine zCl_e (gcp1) (by decide) ?_
  exact ⟨rfl, rfl⟩
set_option maxHeartbeats 1000000 in
set_option maxRecDepth 100000 in
theorem cRs2 {i : Int} (h : 0 ≤ i ∧ i < 3) (hs : S.2.2 i.toNat = some 54) : zEv X 12 mX9_restore [zR 0, zI i] (cX (S) ++ (cM K ++ (oC f :: (cI 46 J1 ++ (cI 50 J2 ++ (cI 54 J ++ (w))))))) (zIs (.inl none) (cX (cRt S J) ++ (cM K ++ (oC f :: (cI 46 J1 ++ (cI 50 J2 ++ (cI 54 J ++ (w)))))))) := by
  refine zEv_run gX9_restore 60 [11] rfl ?_
  refine zCl_e (ni_t h) (by decide) ?_
  refine mVc_i (by omega) ?_
  show zWP X mX9_restore 12 _ 11 _ [.inr (.inr (S.2.2 i.toNat))] _ _ _
  rw [hs]
  refine zWP_run gX9_restore 60 [35] ?_
  refine mVc_i (by omega) ?_
  show zWP X mX9_restore 12 _ 35 _ [.inr (.inr (S.2.2 i.toNat)), zR 5] _ _ _
  rw [hs]
  refine zWP_run gX9_restore 60 [] ?_
  refine zCl_e (grs2) (by decide) ?_
  exact ⟨rfl, rfl⟩
set_option maxHeartbeats 1000000 in
set_option maxRecDepth 100000 in
theorem cIm2 {i : Int} (h : 0 ≤ i ∧ i < 3) (hs : S.2.2 i.toNat = some 54) : zEv X 12 mX9_image [zR 0, zI i] (cX (S) ++ (cM K ++ (oC f :: (cI 46 J1 ++ (cI 50 J2 ++ (cI 54 J ++ (w))))))) (zIs (.inl none) (cX (S) ++ (cM K ++ (oC f :: (cI 46 J1 ++ (cI 50 J2 ++ (cI 54 (jCp S J) ++ (w)))))))) := by
  refine zEv_run gX9_image 60 [11] rfl ?_
  refine zCl_e (ni_t h) (by decide) ?_
  refine mVc_i (by omega) ?_
  show zWP X mX9_image 12 _ 11 _ [.inr (.inr (S.2.2 i.toNat))] _ _ _
  rw [hs]
  refine zWP_run gX9_image 60 [33] ?_
  refine mVc_i (by omega) ?_
  show zWP X mX9_image 12 _ 33 _ [.inr (.inr (S.2.2 i.toNat))] _ _ _
  rw [hs]
  refine zWP_run gX9_image 60 [] ?_
  refine zCl_e (gcp2) (by decide) ?_
  exact ⟨rfl, rfl⟩
theorem gbd0 {n : Nat} {r : zH} (hb : ∀ a b, S.2.2 a = some b → b < 46) (hn : 46 ≤ n) (hr : zBd n r) : zBd n ((cX S ++ (cM K ++ (oC f :: []))) ++ r) := zBd_a (zBd_a (cX_bd (by omega) (fun a b q => by have := hb a b q; omega)) (zBd_a (cM_bd (by omega)) ⟨trivial, trivial⟩)) hr
set_option maxHeartbeats 1000000 in
set_option maxRecDepth 100000 in
theorem gin0 (hb : ∀ a b, S.2.2 a = some b → b < 46) : zEv X 1 mX2_init [zR 46] ((cX S ++ (cM K ++ (oC f :: []))) ++ [.inr (2, zDf 2 8)]) (zIs (.inl none) (cX (S) ++ (cM K ++ (oC f :: (cI 46 j0))))) := by
  refine zEv_run gX2_init 60 [] rfl ?_
  refine mVc_i ⟨by omega, by omega, by decide, zStab (n := 47) rfl (gbd0 (r := [.inr (2, [zI 0, zI 0, zI 0, zI 5, zI 0, .inr (.inr none), .inr (.inr none), .inr (.inr none)])]) hb (by omega) ⟨⟨trivial, trivial, trivial, trivial, trivial, trivial, trivial, trivial, trivial⟩, trivial⟩) ⟨by show 46 < 47; omega, trivial⟩ ⟨by show 46 < 47; omega, trivial⟩, by show 47 < mSB; decide +kernel⟩ ?_
  refine mVc_i ⟨by omega, by omega, by decide, zStab (n := 48) rfl (gbd0 (r := [.inr (2, [zI 0, zI 0, zI 0, zI 5, zI 0, zR 47, .inr (.inr none), .inr (.inr none)]), .inl (0, 39, .inl (fun _ => 0))]) hb (by omega) ⟨⟨trivial, trivial, trivial, trivial, trivial, by show 47 < 48; omega, trivial, trivial, trivial⟩, trivial, trivial⟩) ⟨by show 46 < 48; omega, trivial⟩ ⟨by show 46 < 48; omega, trivial⟩, by show 48 < mSB; decide +kernel⟩ ?_
  refine mVc_i ⟨by omega, by omega, by decide, zStab (n := 49) rfl (gbd0 (r := [.inr (2, [zI 0, zI 0, zI 0, zI 5, zI 0, zR 47, zR 48, .inr (.inr none)]), .inl (0, 39, .inl (fun _ => 0)), .inl (0, 60, .inl (fun _ => 0))]) hb (by omega) ⟨⟨trivial, trivial, trivial, trivial, trivial, by show 47 < 49; omega, by show 48 < 49; omega, trivial, trivial⟩, trivial, trivial, trivial⟩) ⟨by show 46 < 49; omega, trivial⟩ ⟨by show 46 < 49; omega, trivial⟩, by show 49 < mSB; decide +kernel⟩ ?_
  exact ⟨rfl, rfl⟩
set_option maxHeartbeats 1000000 in
set_option maxRecDepth 100000 in
theorem cImN0 (hb : ∀ a b, S.2.2 a = some b → b < 46) {i : Int} (h : 0 ≤ i ∧ i < 3) (hs : S.2.2 i.toNat = none) : zEv X 12 mX9_image [zR 0, zI i] (cX S ++ (cM K ++ (oC f :: []))) (zIs (.inl none) (cX (sIm S i.toNat 46) ++ (cM K ++ (oC f :: (cI 46 (jCp S j0)))))) := by
  refine zEv_run gX9_image 60 [11] rfl ?_
  refine zCl_e (ni_t h) (by decide) ?_
  refine mVc_i (by omega) ?_
  show zWP X mX9_image 12 _ 11 _ [.inr (.inr (S.2.2 i.toNat))] _ _ _
  rw [hs]
  refine zWP_run gX9_image 60 [33] ?_
  refine mVc_i ⟨zStab (n := 46) rfl (by have := gbd0 (S := S) (K := K) (f := f) (r := []) hb (Nat.le_refl _) trivial; rw [List.append_nil] at this; exact this) ⟨by show 0 < 46; omega, trivial, trivial⟩ ⟨trivial, by show 28 < 46; omega, trivial⟩, by show 46 < mSB; decide +kernel⟩ ?_
  refine zCl_e (gin0 hb) (by decide) ?_
  refine mVc_i (by omega) ?_
  refine mVc_i (by omega) ?_
  show zWP X mX9_image 12 _ 33 _ [.inr (.inr (va_up S.2.2 i.toNat (some 46) i.toNat))] _ _ _
  rw [va_up_s]
  refine zWP_run gX9_image 60 [] ?_
  have k9 := gcp0 (X := X) (S := sIm S i.toNat 46) (K := K) (f := f) (J := j0) (w := [])
  refine zCl_e k9 (by decide) ?_
  exact ⟨rfl, rfl⟩
theorem gbd1 {n : Nat} {r : zH} (hb : ∀ a b, S.2.2 a = some b → b < 50) (hn : 50 ≤ n) (hr : zBd n r) : zBd n ((cX (S) ++ (cM K ++ (oC f :: (cI 46 J1)))) ++ r) := zBd_a (zBd_a (cX_bd (by omega) (fun a b q => by have := hb a b q; omega)) (zBd_a (cM_bd (by omega)) ⟨trivial, cI_bd (p := 46) (by omega)⟩)) hr
set_option maxHeartbeats 1000000 in
set_option maxRecDepth 100000 in
theorem gin1 (hb : ∀ a b, S.2.2 a = some b → b < 50) : zEv X 1 mX2_init [zR 50] ((cX (S) ++ (cM K ++ (oC f :: (cI 46 J1)))) ++ [.inr (2, zDf 2 8)]) (zIs (.inl none) (cX (S) ++ (cM K ++ (oC f :: (cI 46 J1 ++ (cI 50 j0)))))) := by
  refine zEv_run gX2_init 60 [] rfl ?_
  refine mVc_i ⟨by omega, by omega, by decide, zStab (n := 51) rfl (gbd1 (r := [.inr (2, [zI 0, zI 0, zI 0, zI 5, zI 0, .inr (.inr none), .inr (.inr none), .inr (.inr none)])]) hb (by omega) ⟨⟨trivial, trivial, trivial, trivial, trivial, trivial, trivial, trivial, trivial⟩, trivial⟩) ⟨by show 50 < 51; omega, trivial⟩ ⟨by show 50 < 51; omega, trivial⟩, by show 51 < mSB; decide +kernel⟩ ?_
  refine mVc_i ⟨by omega, by omega, by decide, zStab (n := 52) rfl (gbd1 (r := [.inr (2, [zI 0, zI 0, zI 0, zI 5, zI 0, zR 51, .inr (.inr none), .inr (.inr none)]), .inl (0, 39, .inl (fun _ => 0))]) hb (by omega) ⟨⟨trivial, trivial, trivial, trivial, trivial, by show 51 < 52; omega, trivial, trivial, trivial⟩, trivial, trivial⟩) ⟨by show 50 < 52; omega, trivial⟩ ⟨by show 50 < 52; omega, trivial⟩, by show 52 < mSB; decide +kernel⟩ ?_
  refine mVc_i ⟨by omega, by omega, by decide, zStab (n := 53) rfl (gbd1 (r := [.inr (2, [zI 0, zI 0, zI 0, zI 5, zI 0, zR 51, zR 52, .inr (.inr none)]), .inl (0, 39, .inl (fun _ => 0)), .inl (0, 60, .inl (fun _ => 0))]) hb (by omega) ⟨⟨trivial, trivial, trivial, trivial, trivial, by show 51 < 53; omega, by show 52 < 53; omega, trivial, trivial⟩, trivial, trivial, trivial⟩) ⟨by show 50 < 53; omega, trivial⟩ ⟨by show 50 < 53; omega, trivial⟩, by show 53 < mSB; decide +kernel⟩ ?_
  exact ⟨rfl, rfl⟩
set_option maxHeartbeats 1000000 in
set_option maxRecDepth 100000 in
theorem cImN1 (hb : ∀ a b, S.2.2 a = some b → b < 50) {i : Int} (h : 0 ≤ i ∧ i < 3) (hs : S.2.2 i.toNat = none) : zEv X 12 mX9_image [zR 0, zI i] (cX (S) ++ (cM K ++ (oC f :: (cI 46 J1)))) (zIs (.inl none) (cX (sIm S i.toNat 50) ++ (cM K ++ (oC f :: (cI 46 J1 ++ (cI 50 (jCp S j0))))))) := by
  refine zEv_run gX9_image 60 [11] rfl ?_
  refine zCl_e (ni_t h) (by decide) ?_
  refine mVc_i (by omega) ?_
  show zWP X mX9_image 12 _ 11 _ [.inr (.inr (S.2.2 i.toNat))] _ _ _
  rw [hs]
  refine zWP_run gX9_image 60 [33] ?_
  refine mVc_i ⟨zStab (n := 50) rfl (by have := gbd1 (S := S) (K := K) (f := f) (J1 := J1) (r := []) hb (Nat.le_refl _) trivial; rw [List.append_nil] at this; exact this) ⟨by show 0 < 50; omega, trivial, trivial⟩ ⟨trivial, by show 28 < 50; omega, trivial⟩, by show 50 < mSB; decide +kernel⟩ ?_
  refine zCl_e (gin1 hb) (by decide) ?_
  refine mVc_i (by omega) ?_
  refine mVc_i (by omega) ?_
  show zWP X mX9_image 12 _ 33 _ [.inr (.inr (va_up S.2.2 i.toNat (some 50) i.toNat))] _ _ _
  rw [va_up_s]
  refine zWP_run gX9_image 60 [] ?_
  have k9 := gcp1 (X := X) (S := sIm S i.toNat 50) (K := K) (f := f) (J := j0) (J1 := J1) (w := [])
  refine zCl_e k9 (by decide) ?_
  exact ⟨rfl, rfl⟩
theorem gbd2 {n : Nat} {r : zH} (hb : ∀ a b, S.2.2 a = some b → b < 54) (hn : 54 ≤ n) (hr : zBd n r) : zBd n ((cX (S) ++ (cM K ++ (oC f :: (cI 46 J1 ++ (cI 50 J2))))) ++ r) := zBd_a (zBd_a (cX_bd (by omega) (fun a b q => by have := hb a b q; omega)) (zBd_a (cM_bd (by omega)) ⟨trivial, zBd_a (cI_bd (p := 46) (by omega)) (cI_bd (p := 50) (by omega))⟩)) hr
set_option maxHeartbeats 1000000 in
set_option maxRecDepth 100000 in
theorem gin2 (hb : ∀ a b, S.2.2 a = some b → b < 54) : zEv X 1 mX2_init [zR 54] ((cX (S) ++ (cM K ++ (oC f :: (cI 46 J1 ++ (cI 50 J2))))) ++ [.inr (2, zDf 2 8)]) (zIs (.inl none) (cX (S) ++ (cM K ++ (oC f :: (cI 46 J1 ++ (cI 50 J2 ++ (cI 54 j0))))))) := by
  refine zEv_run gX2_init 60 [] rfl ?_
  refine mVc_i ⟨by omega, by omega, by decide, zStab (n := 55) rfl (gbd2 (r := [.inr (2, [zI 0, zI 0, zI 0, zI 5, zI 0, .inr (.inr none), .inr (.inr none), .inr (.inr none)])]) hb (by omega) ⟨⟨trivial, trivial, trivial, trivial, trivial, trivial, trivial, trivial, trivial⟩, trivial⟩) ⟨by show 54 < 55; omega, trivial⟩ ⟨by show 54 < 55; omega, trivial⟩, by show 55 < mSB; decide +kernel⟩ ?_
  refine mVc_i ⟨by omega, by omega, by decide, zStab (n := 56) rfl (gbd2 (r := [.inr (2, [zI 0, zI 0, zI 0, zI 5, zI 0, zR 55, .inr (.inr none), .inr (.inr none)]), .inl (0, 39, .inl (fun _ => 0))]) hb (by omega) ⟨⟨trivial, trivial, trivial, trivial, trivial, by show 55 < 56; omega, trivial, trivial, trivial⟩, trivial, trivial⟩) ⟨by show 54 < 56; omega, trivial⟩ ⟨by show 54 < 56; omega, trivial⟩, by show 56 < mSB; decide +kernel⟩ ?_
  refine mVc_i ⟨by omega, by omega, by decide, zStab (n := 57) rfl (gbd2 (r := [.inr (2, [zI 0, zI 0, zI 0, zI 5, zI 0, zR 55, zR 56, .inr (.inr none)]), .inl (0, 39, .inl (fun _ => 0)), .inl (0, 60, .inl (fun _ => 0))]) hb (by omega) ⟨⟨trivial, trivial, trivial, trivial, trivial, by show 55 < 57; omega, by show 56 < 57; omega, trivial, trivial⟩, trivial, trivial, trivial⟩) ⟨by show 54 < 57; omega, trivial⟩ ⟨by show 54 < 57; omega, trivial⟩, by show 57 < mSB; decide +kernel⟩ ?_
  exact ⟨rfl, rfl⟩
set_option maxHeartbeats 1000000 in
set_option maxRecDepth 100000 in
theorem cImN2 (hb : ∀ a b, S.2.2 a = some b → b < 54) {i : Int} (h : 0 ≤ i ∧ i < 3) (hs : S.2.2 i.toNat = none) : zEv X 12 mX9_image [zR 0, zI i] (cX (S) ++ (cM K ++ (oC f :: (cI 46 J1 ++ (cI 50 J2))))) (zIs (.inl none) (cX (sIm S i.toNat 54) ++ (cM K ++ (oC f :: (cI 46 J1 ++ (cI 50 J2 ++ (cI 54 (jCp S j0)))))))) := by
  refine zEv_run gX9_image 60 [11] rfl ?_
  refine zCl_e (ni_t h) (by decide) ?_
  refine mVc_i (by omega) ?_
  show zWP X mX9_image 12 _ 11 _ [.inr (.inr (S.2.2 i.toNat))] _ _ _
  rw [hs]
  refine zWP_run gX9_image 60 [33] ?_
  refine mVc_i ⟨zStab (n := 54) rfl (by have := gbd2 (S := S) (K := K) (f := f) (J1 := J1) (J2 := J2) (r := []) hb (Nat.le_refl _) trivial; rw [List.append_nil] at this; exact this) ⟨by show 0 < 54; omega, trivial, trivial⟩ ⟨trivial, by show 28 < 54; omega, trivial⟩, by show 54 < mSB; decide +kernel⟩ ?_
  refine zCl_e (gin2 hb) (by decide) ?_
  refine mVc_i (by omega) ?_
  refine mVc_i (by omega) ?_
  show zWP X mX9_image 12 _ 33 _ [.inr (.inr (va_up S.2.2 i.toNat (some 54) i.toNat))] _ _ _
  rw [va_up_s]
  refine zWP_run gX9_image 60 [] ?_
  have k9 := gcp2 (X := X) (S := sIm S i.toNat 54) (K := K) (f := f) (J := j0) (J1 := J1) (J2 := J2) (w := [])
  refine zCl_e k9 (by decide) ?_
  exact ⟨rfl, rfl⟩
end Img
