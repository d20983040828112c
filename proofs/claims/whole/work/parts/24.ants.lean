/-! ants, lots, draws -/
def vWp (v : vV) (d p : Int) : Int := v.2.1.1 d (vAf v p)
def vBf (v : vV) (d p : Int) : Int := zSum (vWp v d) p
def vEp (v : vV) (d m p : Int) : Int := vWp v d p - min (vWp v d p) (max 0 (m - vBf v d p))
/-- the place in the ants' row of a face -/
def vPs (v : vV) (f : Int) : Int := (f - v.1 3) % 6
/-- die d when ants have had m minutes at its first p faces -/
def vEt (v : vV) (d m p : Int) : vV := (v.1, (fun d1 f1 => if d1 = d ∧ (1 ≤ f1 ∧ f1 ≤ 6) ∧ vPs v f1 < p then vEp v d m (vPs v f1) else v.2.1.1 d1 f1, v.2.1.2), v.2.2)
theorem vAf_b (v : vV) (p : Int) : 1 ≤ vAf v p ∧ vAf v p ≤ 6 := by simp only [vAf]; omega
theorem vPs_b (v : vV) (f : Int) : 0 ≤ vPs v f ∧ vPs v f < 6 := by simp only [vPs]; omega
theorem vPs_af (v : vV) {p : Int} (h0 : 0 ≤ p) (h1 : p < 6) : vPs v (vAf v p) = p := by simp only [vPs, vAf]; omega
theorem vAf_ps (v : vV) {f : Int} (h0 : 1 ≤ f) (h1 : f ≤ 6) : vAf v (vPs v f) = f := by simp only [vPs, vAf]; omega
theorem vWp_b {v : vV} (h : vVb v) (d p : Int) : 0 ≤ vWp v d p ∧ vWp v d p ≤ 20 := h.2.2.2.2.2.1.1 d _
theorem vBf_b {v : vV} (h : vVb v) (d : Int) {p : Int} (h0 : 0 ≤ p) (h1 : p ≤ 6) : 0 ≤ vBf v d p ∧ vBf v d p ≤ 120 := by
  have := zSum_bd (f := vWp v d) (c := 20) (fun i => vWp_b h d i) h0 h1 (by omega)
  simp only [vBf]
  omega
theorem vBf_s (v : vV) (d : Int) {p : Int} (h0 : 0 ≤ p) : vBf v d (p + 1) = vBf v d p + vWp v d p := by simp only [vBf]; exact zSum_s h0
theorem vEp_b {v : vV} (h : vVb v) (d m p : Int) : 0 ≤ vEp v d m p ∧ vEp v d m p ≤ 20 := by
  have := vWp_b h d p
  simp only [vEp]
  omega
theorem vEt_0 (v : vV) (d m : Int) : vEt v d m 0 = v := by
  have hF : (fun d1 f1 => if d1 = d ∧ (1 ≤ f1 ∧ f1 ≤ 6) ∧ vPs v f1 < 0 then vEp v d m (vPs v f1) else v.2.1.1 d1 f1) = v.2.1.1 := by
    funext d1 f1
    have := vPs_b v f1
    rw [if_neg (by omega)]
  simp only [vEt, hF]
theorem vEt_s (v : vV) (d m : Int) {p : Int} (h0 : 0 ≤ p) (h1 : p < 6) : vW (vEt v d m p) d (vAf v p) (vEp v d m p) = vEt v d m (p + 1) := by
  have hF : (fun d1 f1 => if d1 = d ∧ f1 = vAf v p then vEp v d m p else if d1 = d ∧ (1 ≤ f1 ∧ f1 ≤ 6) ∧ vPs v f1 < p then vEp v d m (vPs v f1) else v.2.1.1 d1 f1) = fun d1 f1 => if d1 = d ∧ (1 ≤ f1 ∧ f1 ≤ 6) ∧ vPs v f1 < p + 1 then vEp v d m (vPs v f1) else v.2.1.1 d1 f1 := by
    funext d1 f1
    have hb := vAf_b v p
    by_cases c : d1 = d ∧ f1 = vAf v p
    · have hp := vPs_af v h0 h1
      rw [if_pos c, if_pos ⟨c.1, by omega, by rw [c.2, hp]; omega⟩, c.2, hp]
    · rw [if_neg c]
      by_cases c2 : d1 = d ∧ (1 ≤ f1 ∧ f1 ≤ 6) ∧ vPs v f1 < p
      · rw [if_pos c2, if_pos ⟨c2.1, c2.2.1, by omega⟩]
      · rw [if_neg c2, if_neg]
        intro q
        have q2 : vPs v f1 = p := by omega
        have q3 := vAf_ps v q.2.1.1 q.2.1.2
        rw [q2] at q3
        exact c ⟨q.1, q3.symm⟩
  simp only [vW, vEt, hF]
theorem vEt_w (v : vV) (d m : Int) {p : Int} (h0 : 0 ≤ p) (h1 : p < 6) : (vEt v d m p).2.1.1 d (vAf v p) = vWp v d p := by
  show (if d = d ∧ (1 ≤ vAf v p ∧ vAf v p ≤ 6) ∧ vPs v (vAf v p) < p then vEp v d m (vPs v (vAf v p)) else v.2.1.1 d (vAf v p)) = _
  rw [vPs_af v h0 h1, if_neg (by omega)]
  rfl
/-- die d behind m minutes of ants -/
def vEat (v : vV) (d m : Int) : vV := if v.2.1.2.1 d = 1 then v else vEt v d m 6
def vAte (v : vV) (d m : Int) : Int := if v.2.1.2.1 d = 1 then 0 else min m (vBf v d 6)
section Ants
variable {X : mX} {S : sS} {t : zH} {v : vV}
set_option maxHeartbeats 1000000 in
set_option maxRecDepth 100000 in
theorem gfeed (hv : vX S v) {x m : Int} (h0 : 0 ≤ x) (h1 : x < v.1 1) (hm : 0 ≤ m) (hm2 : m ≤ 99) : zEv X 3 mX2_feedAnts [zR 5, zI x, zI m] (cX S ++ t) (zTo S t (.inl (some (zI (vAte v x m)))) (vEat v x m)) := by
  have hs := hv.1.2.2.2.2.2.1.2.1 x
  by_cases c : v.2.1.2.1 x = 1
  · simp only [vAte, vEat, if_pos c]
    have lp : ∀ (k : Nat) (p : Int) (R : sS), 0 ≤ p → sF S R → vX R v → p + k = 6 → zWP X mX2_feedAnts 3 (zTo S t (.inl (some (zI 0))) v) 5 [some (zR 5), some (zI x), some (zI m), some (zI 0), some (zI p)] [] (cX R ++ t) 0 0 := by
      intro k
      induction k with
      | zero =>
        intro p R g0 fr hr hk
        refine zWP_run gX2_feedAnts 80 [5] ?_
        refine zBrT (by simp only [rI]; omega) (by omega) ?_
        exact ⟨rfl, R, rfl, fr, hr⟩
      | succ k ih =>
        intro p R g0 fr hr hk
        refine zWP_run gX2_feedAnts 80 [5] ?_
        refine zBrF (by simp only [rI]; omega) (by omega) ?_
        have hb := vAf_b v p
        refine zCl_e (gaf hr g0 (by omega)) (by decide) ?_
        refine zCl_t (gwear hr h0 h1 hb.1 hb.2 (z := m - 0) (by omega) (by omega)) (by decide) ?_
        intro R2 f2 hr2
        rw [if_pos c]
        rw [vWr, if_pos c] at hr2
        exact ih (p + 1) R2 (by omega) (sF_t fr f2) hr2 (by omega)
    refine zEv_run gX2_feedAnts 60 [5] rfl ?_
    exact lp 6 0 S (by omega) (sF_r S) hv (by omega)
  · simp only [vAte, vEat, if_neg c]
    have lp : ∀ (k : Nat) (p : Int) (R : sS), 0 ≤ p → sF S R → vX R (vEt v x m p) → p + k = 6 → zWP X mX2_feedAnts 3 (zTo S t (.inl (some (zI (min m (vBf v x 6))))) (vEt v x m 6)) 5 [some (zR 5), some (zI x), some (zI m), some (zI (min m (vBf v x p))), some (zI p)] [] (cX R ++ t) 0 0 := by
      intro k
      induction k with
      | zero =>
        intro p R g0 fr hr hk
        refine zWP_run gX2_feedAnts 80 [5] ?_
        refine zBrT (by simp only [rI]; omega) (by omega) ?_
        have e : p = 6 := by omega
        subst e
        exact ⟨rfl, R, rfl, fr, hr⟩
      | succ k ih =>
        intro p R g0 fr hr hk
        refine zWP_run gX2_feedAnts 80 [5] ?_
        refine zBrF (by simp only [rI]; omega) (by omega) ?_
        have hb := vAf_b v p
        have hf := vBf_b hv.1 x g0 (by omega)
        have hw := vWp_b hv.1 x p
        have hr0 := hr
        refine zCl_e (gaf hr0 g0 (by omega)) (by decide) ?_
        rw [show vAf (vEt v x m p) p = vAf v p from rfl]
        refine zCl_t (gwear hr h0 h1 hb.1 hb.2 (z := m - min m (vBf v x p)) (by omega) (by omega)) (by decide) ?_
        intro R2 f2 hr2
        have c2 : ¬ (vEt v x m p).2.1.2.1 x = 1 := c
        have e1 := vEt_w v x m g0 (p := p) (by omega)
        have e2 : vWp v x p - min (vWp v x p) (m - min m (vBf v x p)) = vEp v x m p := by simp only [vEp]; omega
        have e4 : min m (vBf v x p) + min (vWp v x p) (m - min m (vBf v x p)) = min m (vBf v x (p + 1)) := by rw [vBf_s v x g0]; omega
        rw [if_neg c2, e1]
        rw [vWr, if_neg c2, e1, e2, vEt_s v x m g0 (by omega)] at hr2
        have k3 := ih (p + 1) R2 (by omega) (sF_t fr f2) hr2 (by omega)
        rw [← e4] at k3
        exact k3
    refine zEv_run gX2_feedAnts 60 [5] rfl ?_
    have k1 := lp 6 0 S (by omega) (sF_r S) (by rw [vEt_0]; exact hv) (by omega)
    rw [show min m (vBf v x 0) = 0 by rw [show vBf v x 0 = 0 from rfl]; omega] at k1
    exact k1
end Ants
