/-! the calls: those that throw, and what the table is -/
def zTp (S : sS) (t : zH) (r : (Int ⊕ Nat) × vV) : zO → zH → Prop := zTs S t (zIr r.1) r.2
def zTq (S : sS) (t : zH) (r : (Int ⊕ Nat) × vV) : zO → zH → Prop := zTs S t (zJr r.1) r.2
theorem vWhy_b (v : vV) (d q f : Int) : 0 ≤ vWhy v d q f ∧ vWhy v d q f ≤ 4 := by
  unfold vWhy
  repeat (first | omega | split)
theorem vWhy_0 {v : vV} {d q f : Int} (h : vWhy v d q f = 0) : vOk v d q f ∧ v.1 4 < 60 ∧ ¬ vTot v.2.1 d = 0 ∧ ¬ v.2.1.1 d f = 0 := by
  unfold vWhy at h
  by_cases c1 : 0 ≤ d ∧ d < v.1 1
  · rw [if_neg (fun q => q c1)] at h
    by_cases c2 : 0 ≤ q ∧ q < v.1 2
    · rw [if_neg (fun q => q c2)] at h
      by_cases c3 : 1 ≤ f ∧ f ≤ 6
      · rw [if_neg (fun q => q c3)] at h
        by_cases c4 : vTot v.2.1 d = 0
        · rw [if_pos c4] at h
          omega
        · rw [if_neg c4] at h
          by_cases c5 : v.2.1.1 d f = 0
          · rw [if_pos c5] at h
            omega
          · rw [if_neg c5] at h
            by_cases c6 : v.1 4 < 60
            · exact ⟨⟨c1, c2, c3⟩, c6, c4, c5⟩
            · rw [if_neg c6] at h
              omega
      · rw [if_pos c3] at h
        omega
    · rw [if_pos c2] at h
      omega
  · rw [if_pos c1] at h
    omega
theorem vGo_1 (v : vV) (d q f : Int) {i : Nat} (h : i ≠ 4) : (vGo v d q f).1 i = v.1 i := by
  show (vWr (vPush v d q f) d f (v.2.1.2.2.1 q)).1 i = _
  rw [vWr_num]
  show (if i = 4 then v.1 4 + 1 else v.1 i) = _
  rw [if_neg h]
theorem vGo_4 (v : vV) (d q f : Int) : (vGo v d q f).1 4 = v.1 4 + 1 := by
  show (vWr (vPush v d q f) d f (v.2.1.2.2.1 q)).1 4 = _
  rw [vWr_num]
  rfl
/-- a draw of an evening -/
def vNt (x : Int × vV) : Int × vV :=
  if vTot x.2.2.1 (dW (dN x.1) % x.2.1 1) = 0 ∨ ¬ x.2.1 4 < 60 then (dN (dN x.1), x.2)
  else (dN (dN (dN x.1)), vGo x.2 (dW (dN x.1) % x.2.1 1) (dW (dN (dN x.1)) % x.2.1 2) (vFb (x.2.2.1.1 (dW (dN x.1) % x.2.1 1)) 5 1 (dW (dN (dN (dN x.1))) % vTot x.2.2.1 (dW (dN x.1) % x.2.1 1))))
def vNi (v : vV) (s i : Int) : Int × vV := zIt (fun _ x => vNt x) (s, v) i
theorem vNi_s (v : vV) (s : Int) {i : Int} (h : 0 ≤ i) : vNi v s (i + 1) = vNt (vNi v s i) := zIt_s _ _ h
section Calls1
variable {X : mX} {S : sS} {t : zH} {v : vV}
theorem ddraw3 {z : Int} (h : S.1 17 = z) : zEv X 1 mX1_draw [zR 9] (cX S ++ t) (zIs (.inl (some (zI (dW (dN z))))) (cX (sI S 17 (dN z)) ++ t)) := by
  subst h
  exact ddraw
def pDie (v : vV) (d w : Int) : (Int ⊕ Nat) × vV := if 0 ≤ d ∧ d < v.1 1 then (if 1 ≤ w ∧ w ≤ 10 then ((.inl (if w = 7 then vTot v.2.1 d else if w = 8 then v.2.1.2.1 d else if w = 9 then (if vTot v.2.1 d = 0 then 1 else 0) else if w = 10 then vTd v d else v.2.1.1 d w), v)) else (.inr 0, v)) else (.inr 1, v)
set_option maxHeartbeats 1000000 in
set_option maxRecDepth 100000 in
theorem cDie (hv : vX S v) {d w : Int} (hd : rI d) (hw : rI w) : zEv X 12 mX9_die [zR 0, zI d, zI w] (cX S ++ t) (zTp S t (pDie v d w)) := by
  unfold pDie
  by_cases c1 : 0 ≤ d ∧ d < v.1 1
  · rw [if_pos c1]
    by_cases c2 : 1 ≤ w ∧ w ≤ 10
    · rw [if_pos c2]
      refine zEv_run gX9_die 120 [] rfl ?_
      refine zCl_e (nd_t hv c1) (by decide) ?_
      refine zCl_e (nw_t hv hw (by simp only [rI]; omega) (by simp only [rI]; omega) c2) (by decide) ?_
      have hs := hv.1.2.2.2.2.2.1.2.1 d
      refine mVc_i hw ⟨fun q => ?_, fun q => ?_, fun q => ?_, fun q => ?_, fun q => ?_, trivial⟩
      · have q2 : w < 7 ∨ 10 < w := q
        rw [if_neg (by omega), if_neg (by omega), if_neg (by omega), if_neg (by omega)]
        refine zCl_e (gw hv c1.1 c1.2 (by omega) (by omega)) (by decide) ?_
        exact ⟨rfl, S, rfl, sG_r S, hv⟩
      · have q2 : w = 7 := q
        rw [if_pos (by omega)]
        refine zCl_e (gtot hv c1.1 c1.2) (by decide) ?_
        exact ⟨rfl, S, rfl, sG_r S, hv⟩
      · have q2 : w = 7 + 1 := q
        rw [if_neg (by omega), if_pos (by omega)]
        refine zCl_e (gsalt hv c1.1 c1.2) (by decide) ?_
        refine zBr (by simp only [rI]; omega) (fun c => ?_) (fun c => ?_)
        · rw [show v.2.1.2.1 d = 0 by omega]
          exact ⟨rfl, S, rfl, sG_r S, hv⟩
        · rw [show v.2.1.2.1 d = 1 by omega]
          exact ⟨rfl, S, rfl, sG_r S, hv⟩
      · have q2 : w = 7 + 1 + 1 := q
        rw [if_neg (by omega), if_neg (by omega), if_pos (by omega)]
        refine zCl_e (ggone hv c1.1 c1.2) (by decide) ?_
        refine zBb (fun c => ?_) (fun c => ?_)
        · rw [if_neg c]
          exact ⟨rfl, S, rfl, sG_r S, hv⟩
        · rw [if_pos c]
          exact ⟨rfl, S, rfl, sG_r S, hv⟩
      · have q2 : w = 7 + 1 + 1 + 1 := q
        rw [if_neg (by omega), if_neg (by omega), if_neg (by omega), if_pos (by omega)]
        refine zCl_e (ltd hv hd) (by decide) ?_
        exact ⟨rfl, S, rfl, sG_r S, hv⟩
    · rw [if_neg c2]
      refine zEv_run gX9_die 120 [] rfl ?_
      refine zCl_e (nd_t hv c1) (by decide) ?_
      refine zCl_e (nw_f hv hw (by simp only [rI]; omega) (by simp only [rI]; omega) c2) (by decide) ?_
      exact ⟨rfl, S, rfl, sG_r S, hv⟩
  · rw [if_neg c1]
    refine zEv_run gX9_die 120 [] rfl ?_
    refine zCl_e (nd_f hv hd c1) (by decide) ?_
    exact ⟨rfl, S, rfl, sG_r S, hv⟩
def pHand (v : vV) (q w : Int) : (Int ⊕ Nat) × vV := if 0 ≤ q ∧ q < v.1 2 then (if 0 ≤ w ∧ w ≤ 2 then ((.inl (if w = 0 then v.2.1.2.2.1 q else if w = 1 then v.2.1.2.2.2 q else vTh v q), v)) else (.inr 0, v)) else (.inr 1, v)
set_option maxHeartbeats 1000000 in
set_option maxRecDepth 100000 in
theorem cHand (hv : vX S v) {q w : Int} (hq : rI q) (hw : rI w) : zEv X 12 mX9_hand [zR 0, zI q, zI w] (cX S ++ t) (zTp S t (pHand v q w)) := by
  unfold pHand
  by_cases c1 : 0 ≤ q ∧ q < v.1 2
  · rw [if_pos c1]
    by_cases c2 : 0 ≤ w ∧ w ≤ 2
    · rw [if_pos c2]
      refine zEv_run gX9_hand 120 [] rfl ?_
      refine zCl_e (nh_t hv c1) (by decide) ?_
      refine zCl_e (nw_t hv hw (by simp only [rI]; omega) (by simp only [rI]; omega) c2) (by decide) ?_
      refine mVc_i hw ⟨fun qq => ?_, fun qq => ⟨fun q3 => ?_, fun q3 => ?_⟩⟩
      · have q2 : w = 0 := qq
        rw [if_pos q2]
        refine zCl_e (gheat hv c1.1 c1.2) (by decide) ?_
        exact ⟨rfl, S, rfl, sG_r S, hv⟩
      · have q4 : w = 1 := q3
        rw [if_neg (by omega), if_pos q4]
        refine zCl_e (glot hv c1.1 c1.2) (by decide) ?_
        exact ⟨rfl, S, rfl, sG_r S, hv⟩
      · have q2 : ¬ w = 0 := qq
        have q4 : ¬ w = 1 := q3
        rw [if_neg q2, if_neg q4]
        refine zCl_e (lth hv hq) (by decide) ?_
        exact ⟨rfl, S, rfl, sG_r S, hv⟩
    · rw [if_neg c2]
      refine zEv_run gX9_hand 120 [] rfl ?_
      refine zCl_e (nh_t hv c1) (by decide) ?_
      refine zCl_e (nw_f hv hw (by simp only [rI]; omega) (by simp only [rI]; omega) c2) (by decide) ?_
      exact ⟨rfl, S, rfl, sG_r S, hv⟩
  · rw [if_neg c1]
    refine zEv_run gX9_hand 120 [] rfl ?_
    refine zCl_e (nh_f hv hq c1) (by decide) ?_
    exact ⟨rfl, S, rfl, sG_r S, hv⟩
def pSalts (v : vV) (d : Int) : (Int ⊕ Nat) × vV := if 0 ≤ d ∧ d < v.1 1 then ((.inl (if v.2.1.2.1 d = 1 then 0 else 1), vSl v d)) else (.inr 1, v)
set_option maxHeartbeats 1000000 in
set_option maxRecDepth 100000 in
theorem cSalts (hv : vX S v) {d : Int} (hd : rI d) : zEv X 12 mX9_salts [zR 0, zI d] (cX S ++ t) (zTp S t (pSalts v d)) := by
  unfold pSalts
  by_cases c1 : 0 ≤ d ∧ d < v.1 1
  · rw [if_pos c1]
    refine zEv_run gX9_salts 120 [] rfl ?_
    refine zCl_e (nd_t hv c1) (by decide) ?_
    have hs := hv.1.2.2.2.2.2.1.2.1 d
    have h1 := hv.1.2.1
    refine zCl_e (gsalt hv c1.1 c1.2) (by decide) ?_
    refine zBr (by simp only [rI]; omega) (fun c => ?_) (fun c => ?_)
    · rw [if_neg (by omega)]
      refine zCl_e (gmk hv c1.1 c1.2) (by decide) ?_
      exact mVc_i (Or.inr rfl) ⟨rfl, _, rfl, sG_A S _ ⟨by omega, by omega⟩, vX_s hv c1.1 (by omega)⟩
    · rw [if_pos (by omega)]
      refine zCl_e (gmk hv c1.1 c1.2) (by decide) ?_
      exact mVc_i (Or.inl rfl) ⟨rfl, _, rfl, sG_A S _ ⟨by omega, by omega⟩, vX_s hv c1.1 (by omega)⟩
  · rw [if_neg c1]
    refine zEv_run gX9_salts 120 [] rfl ?_
    refine zCl_e (nd_f hv hd c1) (by decide) ?_
    exact ⟨rfl, S, rfl, sG_r S, hv⟩
def pCast (v : vV) (d q z : Int) : (Int ⊕ Nat) × vV := if 0 ≤ d ∧ d < v.1 1 then (if 0 ≤ q ∧ q < v.1 2 then (if ¬ vTot v.2.1 d = 0 then (if v.1 4 < 60 then ((.inl (vFb (v.2.1.1 d) 5 1 (dW (dN z) % vTot v.2.1 d)), vGo v d q (vFb (v.2.1.1 d) 5 1 (dW (dN z) % vTot v.2.1 d)))) else (.inr 2, v)) else (.inr 2, v)) else (.inr 1, v)) else (.inr 1, v)
set_option maxHeartbeats 1000000 in
set_option maxRecDepth 100000 in
theorem cCast (hv : vX S v) {d q z : Int} (hd : rI d) (hq : rI q) (hz : rI z) : zEv X 12 mX9_cast [zR 0, zI d, zI q, zI z] (cX S ++ t) (zTp S t (pCast v d q z)) := by
  unfold pCast
  by_cases c1 : 0 ≤ d ∧ d < v.1 1
  · rw [if_pos c1]
    by_cases c2 : 0 ≤ q ∧ q < v.1 2
    · rw [if_pos c2]
      by_cases c3 : ¬ vTot v.2.1 d = 0
      · rw [if_pos c3]
        by_cases c4 : v.1 4 < 60
        · rw [if_pos c4]
          refine zEv_run gX9_cast 120 [] rfl ?_
          refine zCl_e (nd_t hv c1) (by decide) ?_
          refine zCl_e (nh_t hv c2) (by decide) ?_
          refine zCl_e (ng_t hv c1 c3) (by decide) ?_
          refine zCl_e (nr_t hv c4) (by decide) ?_
          have hb := vFb_b (v.2.1.1 d) 5 1 (dW (dN z) % vTot v.2.1 d)
          refine zCl_e (dbeg) (by decide) ?_
          refine zCl_e (ddraw3 (S := sI S 17 z) (z := z) rfl) (by decide) ?_
          refine zCl_e (gfb (S := sI (sI S 17 z) 17 (dN z)) (vX_17 (vX_17 hv _) _) c1 (dW_b _) c3) (by decide) ?_
          refine zCl_t (gthrow (S := sI (sI S 17 z) 17 (dN z)) (vX_17 (vX_17 hv _) _) ⟨c1, c2, by omega, by omega⟩ c4) (by decide) ?_
          intro R f1 hv1
          exact ⟨rfl, R, rfl, sG_t (sG_t (sG_I S _ ⟨by omega, by omega⟩) (sG_I _ _ ⟨by omega, by omega⟩)) (sG_f f1), hv1⟩
        · rw [if_neg c4]
          refine zEv_run gX9_cast 120 [] rfl ?_
          refine zCl_e (nd_t hv c1) (by decide) ?_
          refine zCl_e (nh_t hv c2) (by decide) ?_
          refine zCl_e (ng_t hv c1 c3) (by decide) ?_
          refine zCl_e (nr_f hv c4) (by decide) ?_
          exact ⟨rfl, S, rfl, sG_r S, hv⟩
      · rw [if_neg c3]
        refine zEv_run gX9_cast 120 [] rfl ?_
        refine zCl_e (nd_t hv c1) (by decide) ?_
        refine zCl_e (nh_t hv c2) (by decide) ?_
        refine zCl_e (ng_f hv c1 c3) (by decide) ?_
        exact ⟨rfl, S, rfl, sG_r S, hv⟩
    · rw [if_neg c2]
      refine zEv_run gX9_cast 120 [] rfl ?_
      refine zCl_e (nd_t hv c1) (by decide) ?_
      refine zCl_e (nh_f hv hq c2) (by decide) ?_
      exact ⟨rfl, S, rfl, sG_r S, hv⟩
  · rw [if_neg c1]
    refine zEv_run gX9_cast 120 [] rfl ?_
    refine zCl_e (nd_f hv hd c1) (by decide) ?_
    exact ⟨rfl, S, rfl, sG_r S, hv⟩
def pShows (v : vV) (d q f : Int) : (Int ⊕ Nat) × vV := if 0 ≤ d ∧ d < v.1 1 then (if 0 ≤ q ∧ q < v.1 2 then (if 1 ≤ f ∧ f ≤ 6 then (if vWhy v d q f = 0 then ((.inl (vTot (vGo v d q f).2.1 d), vGo v d q f)) else (.inr 2, v)) else (.inr 0, v)) else (.inr 1, v)) else (.inr 1, v)
set_option maxHeartbeats 1000000 in
set_option maxRecDepth 100000 in
theorem cShows (hv : vX S v) {d q f : Int} (hd : rI d) (hq : rI q) (hf : rI f) : zEv X 12 mX9_shows [zR 0, zI d, zI q, zI f] (cX S ++ t) (zTp S t (pShows v d q f)) := by
  unfold pShows
  by_cases c1 : 0 ≤ d ∧ d < v.1 1
  · rw [if_pos c1]
    by_cases c2 : 0 ≤ q ∧ q < v.1 2
    · rw [if_pos c2]
      by_cases c3 : 1 ≤ f ∧ f ≤ 6
      · rw [if_pos c3]
        by_cases c4 : vWhy v d q f = 0
        · rw [if_pos c4]
          refine zEv_run gX9_shows 120 [] rfl ?_
          refine zCl_e (nd_t hv c1) (by decide) ?_
          refine zCl_e (nh_t hv c2) (by decide) ?_
          refine zCl_e (nf_t hv c3) (by decide) ?_
          refine zCl_e (gwhy hv hd hq hf) (by decide) ?_
          have hw := vWhy_b v d q f
          refine zBrT (by simp only [rI]; omega) c4 ?_
          refine zCl_t (gthrow hv ⟨c1, c2, c3⟩ (vWhy_0 c4).2.1) (by decide) ?_
          intro R f1 hv1
          refine zCl_e (gtot hv1 c1.1 (by rw [vGo_1 v d q f (by decide)]; exact c1.2)) (by decide) ?_
          exact ⟨rfl, R, rfl, sG_f f1, hv1⟩
        · rw [if_neg c4]
          refine zEv_run gX9_shows 120 [] rfl ?_
          refine zCl_e (nd_t hv c1) (by decide) ?_
          refine zCl_e (nh_t hv c2) (by decide) ?_
          refine zCl_e (nf_t hv c3) (by decide) ?_
          refine zCl_e (gwhy hv hd hq hf) (by decide) ?_
          have hw := vWhy_b v d q f
          refine zBrF (by simp only [rI]; omega) c4 ?_
          exact ⟨rfl, S, rfl, sG_r S, hv⟩
      · rw [if_neg c3]
        refine zEv_run gX9_shows 120 [] rfl ?_
        refine zCl_e (nd_t hv c1) (by decide) ?_
        refine zCl_e (nh_t hv c2) (by decide) ?_
        refine zCl_e (nf_f hv hf c3) (by decide) ?_
        exact ⟨rfl, S, rfl, sG_r S, hv⟩
    · rw [if_neg c2]
      refine zEv_run gX9_shows 120 [] rfl ?_
      refine zCl_e (nd_t hv c1) (by decide) ?_
      refine zCl_e (nh_f hv hq c2) (by decide) ?_
      exact ⟨rfl, S, rfl, sG_r S, hv⟩
  · rw [if_neg c1]
    refine zEv_run gX9_shows 120 [] rfl ?_
    refine zCl_e (nd_f hv hd c1) (by decide) ?_
    exact ⟨rfl, S, rfl, sG_r S, hv⟩
def pBack (v : vV) (n : Int) : (Int ⊕ Nat) × vV := if 0 ≤ n ∧ n ≤ v.1 4 then ((.inl (v.1 4 - n), vUn v n)) else (.inr 0, v)
set_option maxHeartbeats 1000000 in
set_option maxRecDepth 100000 in
theorem cBack (hv : vX S v) {n : Int} (hn : rI n) : zEv X 12 mX9_back [zR 0, zI n] (cX S ++ t) (zTp S t (pBack v n)) := by
  unfold pBack
  have h4 := hv.1.2.2.2.2.1
  have e4 : S.1 16 = v.1 4 := hv.2.2.2.2.2.1
  have h1 := hv.1.2.1
  have e1 : S.1 13 = v.1 1 := hv.2.2.1
  have h2 := hv.1.2.2.1
  have e2 : S.1 14 = v.1 2 := hv.2.2.2.1
  by_cases c1 : 0 ≤ n ∧ n ≤ v.1 4
  · rw [if_pos c1]
    refine zEv_run gX9_back 120 [] rfl ?_
    refine zBrF hn (by omega) ?_
    refine zBrT (by simp only [rI]; omega) (by omega) ?_
    refine zCl_t (gundo hv c1.1 c1.2) (by decide) ?_
    intro R f1 hv1
    have e5 : R.1 16 = v.1 4 - n := by
      rw [show R.1 16 = (vUn v n).1 4 from hv1.2.2.2.2.2.1]
      unfold vUn
      split
      · omega
      · rfl
    exact ⟨by rw [← e5]; rfl, R, rfl, sG_f f1, hv1⟩
  · rw [if_neg c1]
    refine zEv_run gX9_back 120 [] rfl ?_
    by_cases k1 : n < 0
    · refine zBrT hn k1 ?_
      exact ⟨rfl, S, rfl, sG_r S, hv⟩
    · refine zBrF hn k1 ?_
      refine zBrF ⟨hn, by simp only [rI]; omega⟩ (by omega) ?_
      exact ⟨rfl, S, rfl, sG_r S, hv⟩
def pPast (v : vV) (k w : Int) : (Int ⊕ Nat) × vV := if 0 ≤ k ∧ k < v.1 4 then (if 0 ≤ w ∧ w ≤ 2 then ((.inl (if w = 0 then v.2.2.1 k else if w = 1 then v.2.2.2.1 k else v.2.2.2.2.1 k), v)) else (.inr 0, v)) else (.inr 1, v)
set_option maxHeartbeats 1000000 in
set_option maxRecDepth 100000 in
theorem cPast (hv : vX S v) {k w : Int} (hk : rI k) (hw : rI w) : zEv X 12 mX9_past [zR 0, zI k, zI w] (cX S ++ t) (zTp S t (pPast v k w)) := by
  unfold pPast
  have h4 := hv.1.2.2.2.2.1
  have e4 : S.1 16 = v.1 4 := hv.2.2.2.2.2.1
  have h1 := hv.1.2.1
  have e1 : S.1 13 = v.1 1 := hv.2.2.1
  have h2 := hv.1.2.2.1
  have e2 : S.1 14 = v.1 2 := hv.2.2.2.1
  by_cases c1 : 0 ≤ k ∧ k < v.1 4
  · rw [if_pos c1]
    by_cases c2 : 0 ≤ w ∧ w ≤ 2
    · rw [if_pos c2]
      refine zEv_run gX9_past 120 [] rfl ?_
      refine zBrF hk (by omega) ?_
      refine zBrT (by simp only [rI]; omega) (by omega) ?_
      refine zCl_e (nw_t hv hw (by simp only [rI]; omega) (by simp only [rI]; omega) c2) (by decide) ?_
      refine mVc_i hw ⟨fun q => ?_, fun q => ⟨fun q3 => ?_, fun q3 => ?_⟩⟩
      · have q2 : w = 0 := q
        rw [if_pos q2]
        refine zCl_e (gdk hv c1.1 c1.2) (by decide) ?_
        exact ⟨rfl, S, rfl, sG_r S, hv⟩
      · have q4 : w = 1 := q3
        rw [if_neg (by omega), if_pos q4]
        refine zCl_e (ghk hv c1.1 c1.2) (by decide) ?_
        exact ⟨rfl, S, rfl, sG_r S, hv⟩
      · have q2 : ¬ w = 0 := q
        have q4 : ¬ w = 1 := q3
        rw [if_neg q2, if_neg q4]
        refine zCl_e (gfk hv c1.1 c1.2) (by decide) ?_
        exact ⟨rfl, S, rfl, sG_r S, hv⟩
    · rw [if_neg c2]
      refine zEv_run gX9_past 120 [] rfl ?_
      refine zBrF hk (by omega) ?_
      refine zBrT (by simp only [rI]; omega) (by omega) ?_
      refine zCl_e (nw_f hv hw (by simp only [rI]; omega) (by simp only [rI]; omega) c2) (by decide) ?_
      exact ⟨rfl, S, rfl, sG_r S, hv⟩
  · rw [if_neg c1]
    refine zEv_run gX9_past 120 [] rfl ?_
    by_cases k1 : k < 0
    · refine zBrT hk k1 ?_
      exact ⟨rfl, S, rfl, sG_r S, hv⟩
    · refine zBrF hk k1 ?_
      refine zBrF ⟨hk, by simp only [rI]; omega⟩ (by omega) ?_
      exact ⟨rfl, S, rfl, sG_r S, hv⟩
def pEvening (v : vV) (s n : Int) : (Int ⊕ Nat) × vV := if 1 ≤ n ∧ n ≤ 40 then (if ¬ (v.1 1 = 0 ∨ v.1 2 = 0) then (.inl ((vNi v s n).2.1 4 - v.1 4), (vNi v s n).2) else (.inr 2, v)) else (.inr 0, v)
set_option maxHeartbeats 1000000 in
set_option maxRecDepth 100000 in
theorem cEvening (hv : vX S v) {s n : Int} (hs : rI s) (hn : rI n) : zEv X 12 mX9_evening [zR 0, zI s, zI n] (cX S ++ t) (zTp S t (pEvening v s n)) := by
  have h4 := hv.1.2.2.2.2.1
  have e4 : S.1 16 = v.1 4 := hv.2.2.2.2.2.1
  have h1 := hv.1.2.1
  have e1 : S.1 13 = v.1 1 := hv.2.2.1
  have h2 := hv.1.2.2.1
  have e2 : S.1 14 = v.1 2 := hv.2.2.2.1
  have hn1 := hn.1
  have hn2 := hn.2
  unfold pEvening
  by_cases c1 : 1 ≤ n ∧ n ≤ 40
  · rw [if_pos c1]
    by_cases c2 : ¬ (v.1 1 = 0 ∨ v.1 2 = 0)
    · rw [if_pos c2]
      have lp : ∀ (k : Nat) (i : Int) (R : sS), 0 ≤ i → sG S R → R.1 17 = (vNi v s i).1 → vX R (vNi v s i).2 → (vNi v s i).2.1 1 = v.1 1 → (vNi v s i).2.1 2 = v.1 2 → i + k = n → zWP X mX9_evening 12 (zTp S t (.inl ((vNi v s n).2.1 4 - v.1 4), (vNi v s n).2)) 70 [some (zR 0), some (zI s), some (zI n), some (zI (v.1 4)), some (zI i), none, none] [] (cX R ++ t) 2 12 := by
        intro k
        induction k with
        | zero =>
          intro i R i0 hg h17 hr hd hh hk
          have r4 : R.1 16 = (vNi v s i).2.1 4 := hr.2.2.2.2.2.1
          refine zWP_run gX9_evening 80 [70] ?_
          refine zBrT (by simp only [rI]; omega) (by omega) ?_
          rw [← show i = n by omega, ← r4]
          exact ⟨rfl, R, rfl, hg, hr⟩
        | succ k ih =>
          intro i R i0 hg h17 hr hd hh hk
          have r1 : R.1 13 = (vNi v s i).2.1 1 := hr.2.2.1
          have r2 : R.1 14 = (vNi v s i).2.1 2 := hr.2.2.2.1
          have w1 := dW_b (dN (vNi v s i).1)
          have w2 := dW_b (dN (dN (vNi v s i).1))
          have m1 := Int.emod_nonneg (dW (dN (vNi v s i).1)) (show (vNi v s i).2.1 1 ≠ 0 by omega)
          have m2 := Int.emod_lt_of_pos (dW (dN (vNi v s i).1)) (show 0 < (vNi v s i).2.1 1 by omega)
          have m3 := Int.emod_nonneg (dW (dN (dN (vNi v s i).1))) (show (vNi v s i).2.1 2 ≠ 0 by omega)
          have m4 := Int.emod_lt_of_pos (dW (dN (dN (vNi v s i).1))) (show 0 < (vNi v s i).2.1 2 by omega)
          have hrA : vX (sI R 17 (dN (vNi v s i).1)) (vNi v s i).2 := vX_17 hr _
          have hrB : vX (sI (sI R 17 (dN (vNi v s i).1)) 17 (dN (dN (vNi v s i).1))) (vNi v s i).2 := vX_17 hrA _
          have gB : sG S (sI (sI R 17 (dN (vNi v s i).1)) 17 (dN (dN (vNi v s i).1))) := sG_t hg (sG_t (sG_I R _ ⟨by omega, by omega⟩) (sG_I _ _ ⟨by omega, by omega⟩))
          have hst := vNi_s v s i0
          refine zWP_run gX9_evening 120 [70] ?_
          refine zBrF (by simp only [rI]; omega) (by omega) ?_
          refine zCl_e (ddraw3 h17) (by decide) ?_
          refine mVc_i ?_ ?_
          · show 0 ≤ dW (dN (vNi v s i).1) ∧ rI (dW (dN (vNi v s i).1)) ∧ 0 < R.1 13 ∧ rI (R.1 13)
            simp only [rI]
            omega
          refine zCl_e (ddraw3 (S := sI R 17 (dN (vNi v s i).1)) (z := dN (vNi v s i).1) rfl) (by decide) ?_
          refine mVc_i ?_ ?_
          · show 0 ≤ dW (dN (dN (vNi v s i).1)) ∧ rI (dW (dN (dN (vNi v s i).1))) ∧ 0 < R.1 14 ∧ rI (R.1 14)
            simp only [rI]
            omega
          have eD : dW (dN (vNi v s i).1) % (sI R 17 (dN (vNi v s i).1)).1 13 = dW (dN (vNi v s i).1) % (vNi v s i).2.1 1 := by
            show dW (dN (vNi v s i).1) % R.1 13 = _
            rw [r1]
          have eH : dW (dN (dN (vNi v s i).1)) % (sI (sI R 17 (dN (vNi v s i).1)) 17 (dN (dN (vNi v s i).1))).1 14 = dW (dN (dN (vNi v s i).1)) % (vNi v s i).2.1 2 := by
            show dW (dN (dN (vNi v s i).1)) % R.1 14 = _
            rw [r2]
          rw [eD, eH]
          refine zCl_e (ggone hrB m1 m2) (by decide) ?_
          refine zBb (fun c => ?_) (fun c => ?_)
          · refine zCl_e (groom hrB) (by decide) ?_
            refine zBb (fun c5 => ?_) (fun c5 => ?_)
            · have hx : vNi v s (i + 1) = (dN (dN (vNi v s i).1), (vNi v s i).2) := by rw [hst, vNt, if_pos (Or.inr c5)]
              exact zWP_fg (ih (i + 1) (sI (sI R 17 (dN (vNi v s i).1)) 17 (dN (dN (vNi v s i).1))) (by omega) gB (by rw [hx]; rfl) (by rw [hx]; exact hrB) (by rw [hx]; exact hd) (by rw [hx]; exact hh) (by omega)) (by repeat (first | exact trivial | refine ⟨rfl, ?_⟩))
            · have hx : vNi v s (i + 1) = (dN (dN (dN (vNi v s i).1)), vGo (vNi v s i).2 (dW (dN (vNi v s i).1) % (vNi v s i).2.1 1) (dW (dN (dN (vNi v s i).1)) % (vNi v s i).2.1 2) (vFb ((vNi v s i).2.2.1.1 (dW (dN (vNi v s i).1) % (vNi v s i).2.1 1)) 5 1 (dW (dN (dN (dN (vNi v s i).1))) % vTot (vNi v s i).2.2.1 (dW (dN (vNi v s i).1) % (vNi v s i).2.1 1)))) := by
                rw [hst, vNt, if_neg (fun q => by rcases q with q | q; exact c q; exact q c5)]
              have hb := vFb_b ((vNi v s i).2.2.1.1 (dW (dN (vNi v s i).1) % (vNi v s i).2.1 1)) 5 1 (dW (dN (dN (dN (vNi v s i).1))) % vTot (vNi v s i).2.2.1 (dW (dN (vNi v s i).1) % (vNi v s i).2.1 1))
              refine zCl_e (ddraw3 (S := sI (sI R 17 (dN (vNi v s i).1)) 17 (dN (dN (vNi v s i).1))) (z := dN (dN (vNi v s i).1)) rfl) (by decide) ?_
              refine zCl_e (gfb (S := sI (sI (sI R 17 (dN (vNi v s i).1)) 17 (dN (dN (vNi v s i).1))) 17 (dN (dN (dN (vNi v s i).1)))) (vX_17 hrB _) ⟨m1, m2⟩ (dW_b _) c) (by decide) ?_
              refine zCl_t (gthrow (S := sI (sI (sI R 17 (dN (vNi v s i).1)) 17 (dN (dN (vNi v s i).1))) 17 (dN (dN (dN (vNi v s i).1)))) (vX_17 hrB _) ⟨⟨m1, m2⟩, ⟨m3, m4⟩, by omega, by omega⟩ c5) (by decide) ?_
              intro R2 f1 hv1
              have h172 : R2.1 17 = dN (dN (dN (vNi v s i).1)) := by rw [f1.1 17 (by omega)]; rfl
              exact zWP_fg (ih (i + 1) R2 (by omega) (sG_t (sG_t gB (sG_I _ _ ⟨by omega, by omega⟩)) (sG_f f1)) (by rw [hx]; exact h172) (by rw [hx]; exact hv1) (by rw [hx]; show (vGo _ _ _ _).1 1 = _; rw [vGo_1 _ _ _ _ (by decide)]; exact hd) (by rw [hx]; show (vGo _ _ _ _).1 2 = _; rw [vGo_1 _ _ _ _ (by decide)]; exact hh) (by omega)) (by repeat (first | exact trivial | refine ⟨rfl, ?_⟩))
          · have hx : vNi v s (i + 1) = (dN (dN (vNi v s i).1), (vNi v s i).2) := by rw [hst, vNt, if_pos (Or.inl c)]
            exact zWP_fg (ih (i + 1) (sI (sI R 17 (dN (vNi v s i).1)) 17 (dN (dN (vNi v s i).1))) (by omega) gB (by rw [hx]; rfl) (by rw [hx]; exact hrB) (by rw [hx]; exact hd) (by rw [hx]; exact hh) (by omega)) (by repeat (first | exact trivial | refine ⟨rfl, ?_⟩))
      refine zEv_run gX9_evening 80 [70] rfl ?_
      refine zBrF (by simp only [rI]; omega) (by omega) ?_
      refine zBrT (by simp only [rI]; omega) (by omega) ?_
      refine zBrF (by simp only [rI]; omega) (by omega) ?_
      refine zBrF (by simp only [rI]; omega) (by omega) ?_
      refine zCl_e (dbeg) (by decide) ?_
      rw [e4]
      exact lp n.toNat 0 (sI S 17 s) (by omega) (sG_I S _ ⟨by omega, by omega⟩) rfl (vX_17 hv _) rfl rfl (by omega)
    · rw [if_neg c2]
      refine zEv_run gX9_evening 80 [70] rfl ?_
      refine zBrF (by simp only [rI]; omega) (by omega) ?_
      refine zBrT (by simp only [rI]; omega) (by omega) ?_
      by_cases k1 : v.1 1 = 0
      · refine zBrT (by simp only [rI]; omega) (by omega) ?_
        exact ⟨rfl, S, rfl, sG_r S, hv⟩
      · refine zBrF (by simp only [rI]; omega) (by omega) ?_
        refine zBrT (by simp only [rI]; omega) (by omega) ?_
        exact ⟨rfl, S, rfl, sG_r S, hv⟩
  · rw [if_neg c1]
    refine zEv_run gX9_evening 80 [70] rfl ?_
    by_cases k1 : n < 1
    · refine zBrT (by simp only [rI]; omega) k1 ?_
      exact ⟨rfl, S, rfl, sG_r S, hv⟩
    · refine zBrF (by simp only [rI]; omega) k1 ?_
      refine zBrF (by simp only [rI]; omega) (by omega) ?_
      exact ⟨rfl, S, rfl, sG_r S, hv⟩
end Calls1
