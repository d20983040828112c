/-! the reference: calls of ants, rain, fans -/
theorem zCl_b {X : mX} {d d2 : Nat} {S : sS} {K : kK} {t : zH} {v : vV} {τ : Int → Int} {x nn : Int} {M2 : mM} {as : List zV} {h : zH} {Q : zO → zH → Prop} (hE : zEv X d2 M2 as h (kBt S K t v τ x nn)) (hd : d2 < d) (hq : ∀ c, kVn c (vTm v (tau1 τ x)) nn → (∀ j, ¬ ((5 + 7 * x).toNat ≤ j ∧ j < (5 + 7 * x).toNat + 6) → c j = K.2 0 j) → Q (.inl (some (zI (vAte v x (τ x + 1) - vAte v x (τ x))))) (cX S ++ (cM (kA K 0 c) ++ t))) : zCl X d M2 as h Q := ⟨d2, _, hd, hE, fun o9 h9 q => by
  obtain ⟨q1, c, q2, q3, q4⟩ := q
  rw [q1, q4]
  exact hq c q2 q3⟩
/-- i minutes at all n dice, one more at the first j -/
def tauI (n i j : Int) : Int → Int := fun d => if 0 ≤ d ∧ d < n then (if d < j then i + 1 else i) else 0
theorem tauI_s {n i j : Int} (h0 : 0 ≤ j) (h1 : j < n) : tau1 (tauI n i j) j = tauI n i (j + 1) := by
  funext d
  simp only [tau1, tauI]
  by_cases e : d = j
  · subst e
    simp only [if_true]
    rw [if_pos ⟨h0, h1⟩, if_neg (by omega), if_pos (by omega), if_pos (by omega)]
  · rw [if_neg e]
    by_cases e2 : 0 ≤ d ∧ d < n
    · rw [if_pos e2, if_pos e2]
      by_cases e3 : d < j
      · rw [if_pos e3, if_pos (by omega)]
      · rw [if_neg e3, if_neg (by omega)]
    · rw [if_neg e2, if_neg e2]
theorem tauI_n (n i : Int) : tauI n i n = tauI n (i + 1) 0 := by
  funext d
  simp only [tauI]
  by_cases e2 : 0 ≤ d ∧ d < n
  · rw [if_pos e2, if_pos e2, if_pos e2.2, if_neg (by omega)]
  · rw [if_neg e2, if_neg e2]
theorem tauI_0 {n i j : Int} (h : 0 ≤ i) (d : Int) : 0 ≤ tauI n i j d := by
  simp only [tauI]
  split
  · split <;> omega
  · omega
section Mdl3
variable {X : mX} {S : sS} {K : kK} {t : zH} {v : vV}
set_option maxHeartbeats 1000000 in
set_option maxRecDepth 100000 in
theorem kAnts (hk : kVn (K.2 0) v (v.1 4)) {m : Int} (hm : rI m) : zEv X 10 mX10_ants [zR 29, zI m] (cX S ++ (cM K ++ t)) (kTp S K t (kcd [0]) (pAnts v m)) := by
  unfold pAnts
  have b1 := hk.1.2.1
  have b2 := hk.1.2.2.1
  have b4 := hk.1.2.2.2.2.1
  have hm1 := hm.1
  have hm2 := hm.2
  by_cases c1 : 1 ≤ m ∧ m ≤ 99
  · rw [if_pos c1]
    have hb : vVb v := hk.1
    have inner : ∀ (k : Nat) (i j n : Int) (R : kK), 0 ≤ i ∧ i < m → 0 ≤ j → j + k = v.1 1 → n = zSum (fun d => vAte v d (tauI (v.1 1) i j d)) (v.1 1) → kF K R → R.1 0 = 0 → kV (R.2 0) (vTm v (tauI (v.1 1) i j)) → (∀ R2 : kK, kF K R2 → R2.1 0 = 0 → kV (R2.2 0) (vTm v (tauI (v.1 1) (i + 1) 0)) → zWP X mX10_ants 10 (kTp S K t (kcd [0]) (.inl ((vAn v m (v.1 1)).1), (vAn v m (v.1 1)).2)) 27 [some (zR 29), some (zI m), some (zI (zSum (fun d => vAte v d (tauI (v.1 1) (i + 1) 0 d)) (v.1 1))), some (zI (i + 1)), none] [] (cX S ++ (cM R2 ++ t)) 0 0) → zWP X mX10_ants 10 (kTp S K t (kcd [0]) (.inl ((vAn v m (v.1 1)).1), (vAn v m (v.1 1)).2)) 35 [some (zR 29), some (zI m), some (zI n), some (zI i), some (zI j)] [] (cX S ++ (cM R ++ t)) 0 0 := by
      intro k
      induction k with
      | zero =>
        intro i j n R hi j0 hk0 hn hf h0 hr kk
        refine zWP_run gX10_ants 80 [27, 35] ?_
        refine zCl_e (kdi hr) (by decide) ?_
        refine zBrT (by show rI j ∧ rI (v.1 1); simp only [rI]; omega) (by show v.1 1 ≤ j; omega) ?_
        have e : tauI (v.1 1) i j = tauI (v.1 1) (i + 1) 0 := by rw [show j = v.1 1 by omega, tauI_n]
        rw [e] at hr hn
        rw [hn]
        exact zWP_fg (kk R hf h0 hr) (by repeat (first | exact trivial | refine ⟨rfl, ?_⟩))
      | succ k ih =>
        intro i j n R hi j0 hk0 hn hf h0 hr kk
        refine zWP_run gX10_ants 80 [27, 35] ?_
        refine zCl_e (kdi hr) (by decide) ?_
        refine zBrF (by show rI j ∧ rI (v.1 1); simp only [rI]; omega) (by show ¬ v.1 1 ≤ j; omega) ?_
        refine zCl_b (kea hb hr ⟨j0, by omega⟩ (tauI_0 hi.1 j)) (by decide) ?_
        intro c hc fr
        rw [tauI_s j0 (by omega)] at hc
        refine ih i (j + 1) _ (kA R 0 c) hi (by omega) (by omega) ?_ (kF_t hf (kF_A _ _ (by omega))) h0 hc kk
        have e1 : tauI (v.1 1) i j j + 1 = tauI (v.1 1) i (j + 1) j := by rw [← tauI_s j0 (by omega)]; simp only [tau1, if_true]
        rw [e1, hn, zSum_up (f := fun d => vAte v d (tauI (v.1 1) i (j + 1) d)) (g := fun d => vAte v d (tauI (v.1 1) i j d)) (j := j) (fun d hd => by rw [← tauI_s j0 (by omega)]; simp only [tau1, if_neg hd]) j0 (by omega)]
    have outer : ∀ (k : Nat) (i : Int) (R : kK), 0 ≤ i → i + k = m → kF K R → R.1 0 = 0 → kV (R.2 0) (vTm v (tauI (v.1 1) i 0)) → zWP X mX10_ants 10 (kTp S K t (kcd [0]) (.inl ((vAn v m (v.1 1)).1), (vAn v m (v.1 1)).2)) 27 [some (zR 29), some (zI m), some (zI (zSum (fun d => vAte v d (tauI (v.1 1) i 0 d)) (v.1 1))), some (zI i), none] [] (cX S ++ (cM R ++ t)) 0 0 := by
      intro k
      induction k with
      | zero =>
        intro i R i0 hk0 hf h0 hr
        have hi : i = m := by omega
        subst hi
        have e : tauI (v.1 1) i 0 = fun d => if 0 ≤ d ∧ d < v.1 1 then i else 0 := by
          funext d
          simp only [tauI]
          by_cases e2 : 0 ≤ d ∧ d < v.1 1
          · rw [if_pos e2, if_pos e2, if_neg (by omega)]
          · rw [if_neg e2, if_neg e2]
        refine zWP_run gX10_ants 80 [27, 35] ?_
        refine zBrT (by first | (simp only [rI]; omega) | (simp only [rL]; omega)) (by omega) ?_
        rw [vAn_eq hb i b1.1]
        refine ⟨_, R, rfl, rfl, hf, ?_, ?_, h0⟩
        · rw [e] at hr
          exact hr
        · refine zSum_cg fun d d0 d1 => ?_
          rw [e]
          show vAte v d (if 0 ≤ d ∧ d < v.1 1 then i else 0) = _
          rw [if_pos ⟨d0, d1⟩]
      | succ k ih =>
        intro i R i0 hk0 hf h0 hr
        refine zWP_run gX10_ants 80 [27, 35] ?_
        refine zBrF (by first | (simp only [rI]; omega) | (simp only [rL]; omega)) (by omega) ?_
        exact inner (v.1 1).toNat i 0 _ R ⟨i0, by omega⟩ (by omega) (by omega) rfl hf h0 hr (fun R2 f2 h02 hr2 => ih (i + 1) R2 (by omega) (by omega) f2 h02 hr2)
    refine zEv_run gX10_ants 80 [27, 35] rfl ?_
    refine mVc_i (by first | omega | (simp only [rI]; omega) | (simp only [rL]; omega)) ?_
    refine zCl_e (kwi_t (by simp only [rL]; omega) (by simp only [rL]; omega) (by simp only [rL]; omega) (by omega)) (by decide) ?_
    refine zBrF (by first | (simp only [rI]; omega) | (simp only [rL]; omega)) (by omega) ?_
    have e0 : vTm v (tauI (v.1 1) 0 0) = v := vTm_0 hb fun d => by
      simp only [tauI]
      split
      · rename_i q
        rw [if_neg (by omega)]
      · rfl
    have e1 : zSum (fun d => vAte v d (tauI (v.1 1) 0 0 d)) (v.1 1) = 0 := by
      have := zSum_cg (f := fun d => vAte v d (tauI (v.1 1) 0 0 d)) (g := fun _ => 0 * 0) (n := v.1 1) (fun d d0 d1 => by
        have hbf := vBf_b hb d (p := 6) (by omega) (by omega)
        simp only [tauI]
        rw [if_pos ⟨d0, d1⟩, if_neg (by omega)]
        unfold vAte
        split <;> omega)
      rw [this, zSum_mul]
      omega
    have k9 := outer m.toNat 0 (kI K 0 0) (by omega) (by omega) (kF_t (kF_r K) (kF_I _ _ (by omega))) rfl (by rw [e0]; exact hk)
    rw [e1] at k9
    exact k9
  · rw [if_neg c1]
    refine zEv_run gX10_ants 80 [27, 35] rfl ?_
    refine mVc_i (by first | omega | (simp only [rI]; omega) | (simp only [rL]; omega)) ?_
    refine zCl_e (kwi_f (by simp only [rL]; omega) (by simp only [rL]; omega) (by simp only [rL]; omega) (by omega)) (by decide) ?_
    refine zBrT (by first | (simp only [rI]; omega) | (simp only [rL]; omega)) (by omega) ?_
    refine zCl_e (kfa (K := kI K 0 0)) (by decide) ?_
    exact ⟨0, kI (kI K 0 0) 0 1, rfl, rfl, kF_t (kF_t (kF_r K) (kF_I _ _ (by omega))) (kF_I _ _ (by omega)), hk, rfl⟩
set_option maxHeartbeats 1000000 in
set_option maxRecDepth 100000 in
theorem klay {nn : Int} {u : vV} (hk : kVn (K.2 0) u nn) {d : Int} (hd : 0 ≤ d ∧ d < u.1 1) : zEv X 2 mX10_laysRow [zR 29, zI d] (cX S ++ (cM K ++ t)) (fun o9 h9 => o9 = .inl none ∧ ∃ f : Nat → Int, (∀ i : Int, 0 ≤ i → i < 6 → f i.toNat = u.2.1.1 d (i + 1)) ∧ h9 = cX S ++ (cM (kA K 6 f) ++ t)) := by
  have lp : ∀ (k : Nat) (i : Int) (f : Nat → Int), 0 ≤ i → (∀ j : Int, 0 ≤ j → j < i → f j.toNat = u.2.1.1 d (j + 1)) → i + k = 6 → zWP X mX10_laysRow 2 (fun o9 h9 => o9 = .inl none ∧ ∃ f : Nat → Int, (∀ i : Int, 0 ≤ i → i < 6 → f i.toNat = u.2.1.1 d (i + 1)) ∧ h9 = cX S ++ (cM (kA K 6 f) ++ t)) 2 [some (zR 29), some (zI d), some (zI i)] [] (cX S ++ (cM (kA K 6 f) ++ t)) 0 0 := by
    intro k
    induction k with
    | zero =>
      intro i f i0 hf hk0
      refine zWP_run gX10_laysRow 60 [2] ?_
      refine zBrT (by first | (simp only [rI]; omega) | (simp only [rL]; omega)) (by omega) ?_
      exact ⟨rfl, f, fun j j0 j1 => hf j j0 (by omega), rfl⟩
    | succ k ih =>
      intro i f i0 hf hk0
      refine zWP_run gX10_laysRow 60 [2] ?_
      refine zBrF (by first | (simp only [rI]; omega) | (simp only [rL]; omega)) (by omega) ?_
      refine zCl_e (kw (K := kA K 6 f) hk hd (by omega)) (by decide) ?_
      refine mVc_i (by omega) ?_
      refine ih (i + 1) (va_up f i.toNat (u.2.1.1 d (i + 1))) (by omega) (fun j j0 j1 => ?_) (by omega)
      by_cases e : j = i
      · rw [e, va_up_s]
      · rw [va_up_o _ _ (by omega)]
        exact hf j j0 (by omega)
  refine zEv_run gX10_laysRow 60 [2] rfl ?_
  have k9 := lp 6 0 (K.2 6) (by omega) (fun j j0 j1 => by omega) (by omega)
  rw [kA_same] at k9
  exact k9
set_option maxHeartbeats 1000000 in
set_option maxRecDepth 100000 in
theorem kputs {d : Int} (hd : 0 ≤ d ∧ d < 5) : zEv X 2 mX10_putsRow [zR 29, zI d] (cX S ++ (cM K ++ t)) (fun o9 h9 => o9 = .inl none ∧ ∃ c : Nat → Int, (∀ i : Int, 0 ≤ i → i < 6 → c (5 + 7 * d + i).toNat = K.2 6 i.toNat) ∧ (∀ j, ¬ ((5 + 7 * d).toNat ≤ j ∧ j < (5 + 7 * d).toNat + 6) → c j = K.2 0 j) ∧ h9 = cX S ++ (cM (kA K 0 c) ++ t)) := by
  have lp : ∀ (k : Nat) (i : Int) (c : Nat → Int), 0 ≤ i → (∀ j : Int, 0 ≤ j → j < i → c (5 + 7 * d + j).toNat = K.2 6 j.toNat) → (∀ j, ¬ ((5 + 7 * d).toNat ≤ j ∧ j < (5 + 7 * d).toNat + 6) → c j = K.2 0 j) → i + k = 6 → zWP X mX10_putsRow 2 (fun o9 h9 => o9 = .inl none ∧ ∃ c : Nat → Int, (∀ i : Int, 0 ≤ i → i < 6 → c (5 + 7 * d + i).toNat = K.2 6 i.toNat) ∧ (∀ j, ¬ ((5 + 7 * d).toNat ≤ j ∧ j < (5 + 7 * d).toNat + 6) → c j = K.2 0 j) ∧ h9 = cX S ++ (cM (kA K 0 c) ++ t)) 2 [some (zR 29), some (zI d), some (zI i)] [] (cX S ++ (cM (kA K 0 c) ++ t)) 0 0 := by
    intro k
    induction k with
    | zero =>
      intro i c i0 hc hf hk0
      refine zWP_run gX10_putsRow 60 [2] ?_
      refine zBrT (by first | (simp only [rI]; omega) | (simp only [rL]; omega)) (by omega) ?_
      exact ⟨rfl, c, fun j j0 j1 => hc j j0 (by omega), hf, rfl⟩
    | succ k ih =>
      intro i c i0 hc hf hk0
      refine zWP_run gX10_putsRow 60 [2] ?_
      refine zBrF (by first | (simp only [rI]; omega) | (simp only [rL]; omega)) (by omega) ?_
      refine mVc_i (by omega) ?_
      refine mVc_i (by omega) ?_
      refine ih (i + 1) (va_up c (5 + 7 * d + i).toNat (K.2 6 i.toNat)) (by omega) (fun j j0 j1 => ?_) (fun j hj => ?_) (by omega)
      · by_cases e : j = i
        · rw [e, va_up_s]
        · rw [va_up_o _ _ (by omega)]
          exact hc j j0 (by omega)
      · rw [va_up_o _ _ (by omega)]
        exact hf j hj
  refine zEv_run gX10_putsRow 60 [2] rfl ?_
  have k9 := lp 6 0 (K.2 0) (by omega) (fun j j0 j1 => by omega) (fun _ _ => rfl) (by omega)
  rw [kA_same] at k9
  exact k9
/-- a die's row put back -/
theorem kV_back {c0 c f : Nat → Int} {v : vV} {d : Int} (h : kV c0 v) (hd : 0 ≤ d ∧ d < v.1 1) (hf : ∀ i : Int, 0 ≤ i → i < 6 → f i.toNat = v.2.1.1 d (i + 1)) (h1 : ∀ i : Int, 0 ≤ i → i < 6 → c (5 + 7 * d + i).toNat = f i.toNat) (h2 : ∀ j, ¬ ((5 + 7 * d).toNat ≤ j ∧ j < (5 + 7 * d).toNat + 6) → c j = c0 j) : kV c v := by
  have b1 := h.1.2.1
  refine kV_cg (fun i hi => ?_) h
  by_cases e : (5 + 7 * d).toNat ≤ i ∧ i < (5 + 7 * d).toNat + 6
  · have e1 := h1 (i - (5 + 7 * d)) (by omega) (by omega)
    have e2 := hf (i - (5 + 7 * d)) (by omega) (by omega)
    have e3 := h.2.2.1.1 d (i - (5 + 7 * d) + 1) hd.1 (by omega) (by omega) (by omega)
    rw [Nat.zero_add, show (5 + 7 * d + (i - (5 + 7 * d) + 1) - 1).toNat = i by omega] at e3
    rw [show (5 + 7 * d + (i - (5 + 7 * d))).toNat = i by omega] at e1
    rw [e1, e2, e3]
  · exact h2 i e
def tauD (d i : Int) : Int → Int := fun d1 => if d1 = d then i else 0
theorem tauD_s (d i : Int) : tau1 (tauD d i) d = tauD d (i + 1) := by
  funext d1
  simp only [tau1, tauD]
  split
  · simp only [if_true]
  · rfl
theorem tauD_d (d i : Int) : tauD d i d = i := by simp only [tauD, if_true]
theorem vTm_d {v : vV} {d f i : Int} (hf : 1 ≤ f ∧ f ≤ 6) : (vTm v (tauD d i)).2.1.1 d f = vEn v d f i := by
  show (if 1 ≤ f ∧ f ≤ 6 then vEn v d f (tauD d i d) else v.2.1.1 d f) = _
  rw [if_pos hf, tauD_d]
set_option maxHeartbeats 1000000 in
set_option maxRecDepth 100000 in
theorem kEaten (hk : kVn (K.2 0) v (v.1 4)) {d f m : Int} (hd : rI d) (hf : rI f) (hm : rI m) : zEv X 10 mX10_eaten [zR 29, zI d, zI f, zI m] (cX S ++ (cM K ++ t)) (kTp S K t (kcd [1, 0]) (pEaten v d f m)) := by
  unfold pEaten
  have b1 := hk.1.2.1
  have b2 := hk.1.2.2.1
  have b4 := hk.1.2.2.2.2.1
  have hd1 := hd.1
  have hd2 := hd.2
  have hf1 := hf.1
  have hf2 := hf.2
  have hm1 := hm.1
  have hm2 := hm.2
  by_cases c1 : 0 ≤ d ∧ d < v.1 1
  · rw [if_pos c1]
    by_cases c2 : 1 ≤ f ∧ f ≤ 6
    · rw [if_pos c2]
      by_cases c3 : 0 ≤ m ∧ m ≤ 99
      · rw [if_pos c3]
        have hb : vVb v := hk.1
        have lp : ∀ (k : Nat) (i : Int) (R : kK), 0 ≤ i → i + k = m → kF K R → R.1 0 = 0 → kV (R.2 0) (vTm v (tauD d i)) → (∀ j, ¬ ((5 + 7 * d).toNat ≤ j ∧ j < (5 + 7 * d).toNat + 6) → R.2 0 j = K.2 0 j) → (∀ i : Int, 0 ≤ i → i < 6 → R.2 6 i.toNat = v.2.1.1 d (i + 1)) → zWP X mX10_eaten 10 (kTp S K t (kcd [1, 0]) (.inl (vEn v d f m), v)) 59 [some (zR 29), some (zI d), some (zI f), some (zI m), some (zI i)] [] (cX S ++ (cM R ++ t)) 0 0 := by
          intro k
          induction k with
          | zero =>
            intro i R i0 hk0 hf h0 hr fr hrow
            have hi : i = m := by omega
            subst hi
            refine zWP_run gX10_eaten 80 [59] ?_
            refine zBrT (by first | (simp only [rI]; omega) | (simp only [rL]; omega)) (by omega) ?_
            refine zCl_e (kw hr c1 c2) (by decide) ?_
            refine zCl_i (kputs (K := R) (d := d) (by omega)) (by decide) ?_
            rintro o9 h9 ⟨rfl, c, e1, e2, rfl⟩
            refine ⟨_, kA R 0 c, rfl, rfl, kF_t hf (kF_A _ _ (by omega)), ?_, vTm_d c2, h0⟩
            exact kV_back hk c1 hrow e1 (fun j hj => by show c j = _; rw [e2 j hj, fr j hj])
          | succ k ih =>
            intro i R i0 hk0 hf h0 hr fr hrow
            refine zWP_run gX10_eaten 80 [59] ?_
            refine zBrF (by first | (simp only [rI]; omega) | (simp only [rL]; omega)) (by omega) ?_
            refine zCl_b (kea hb hr c1 (by rw [tauD_d]; exact i0)) (by decide) ?_
            intro c hc fc
            rw [tauD_s] at hc
            exact ih (i + 1) (kA R 0 c) (by omega) (by omega) (kF_t hf (kF_A _ _ (by omega))) h0 hc (fun j hj => by show c j = _; rw [fc j hj, fr j hj]) hrow
        refine zEv_run gX10_eaten 80 [59] rfl ?_
        refine mVc_i (by first | omega | (simp only [rI]; omega) | (simp only [rL]; omega)) ?_
        refine zCl_e (kdie_t (K := K) hk (by simp only [rL]; omega) c1) (by decide) ?_
        refine zBrF (by first | (simp only [rI]; omega) | (simp only [rL]; omega)) (by omega) ?_
        refine mVc_i (by first | omega | (simp only [rI]; omega) | (simp only [rL]; omega)) ?_
        refine zCl_e (kfc_t (by simp only [rL]; omega) c2) (by decide) ?_
        refine zBrF (by first | (simp only [rI]; omega) | (simp only [rL]; omega)) (by omega) ?_
        refine mVc_i (by first | omega | (simp only [rI]; omega) | (simp only [rL]; omega)) ?_
        refine zCl_e (kwi_t (by simp only [rL]; omega) (by simp only [rL]; omega) (by simp only [rL]; omega) (by omega)) (by decide) ?_
        refine zBrF (by first | (simp only [rI]; omega) | (simp only [rL]; omega)) (by omega) ?_
        refine zBrT (by first | (simp only [rI]; omega) | (simp only [rL]; omega)) (by omega) ?_
        refine zCl_i (klay (K := kI K 0 0) hk c1) (by decide) ?_
        rintro o9 h9 ⟨rfl, r, hr, rfl⟩
        refine lp m.toNat 0 (kA (kI K 0 0) 6 r) (by omega) (by omega) (kF_t (kF_t (kF_r K) (kF_I _ _ (by omega))) (kF_A _ _ (by omega))) rfl ?_ (fun _ _ => rfl) hr
        rw [vTm_0 hb (fun d1 => by simp only [tauD]; split <;> rfl)]
        exact hk
      · rw [if_neg c3]
        refine zEv_run gX10_eaten 80 [59] rfl ?_
        refine mVc_i (by first | omega | (simp only [rI]; omega) | (simp only [rL]; omega)) ?_
        refine zCl_e (kdie_t (K := K) hk (by simp only [rL]; omega) c1) (by decide) ?_
        refine zBrF (by first | (simp only [rI]; omega) | (simp only [rL]; omega)) (by omega) ?_
        refine mVc_i (by first | omega | (simp only [rI]; omega) | (simp only [rL]; omega)) ?_
        refine zCl_e (kfc_t (by simp only [rL]; omega) c2) (by decide) ?_
        refine zBrF (by first | (simp only [rI]; omega) | (simp only [rL]; omega)) (by omega) ?_
        refine mVc_i (by first | omega | (simp only [rI]; omega) | (simp only [rL]; omega)) ?_
        refine zCl_e (kwi_f (by simp only [rL]; omega) (by simp only [rL]; omega) (by simp only [rL]; omega) (by omega)) (by decide) ?_
        refine zBrT (by first | (simp only [rI]; omega) | (simp only [rL]; omega)) (by omega) ?_
        refine zBrF (by first | (simp only [rI]; omega) | (simp only [rL]; omega)) (by omega) ?_
        exact ⟨0, kI K 0 2, rfl, rfl, kF_t (kF_r K) (kF_I _ _ (by omega)), hk, rfl⟩
    · rw [if_neg c2]
      refine zEv_run gX10_eaten 80 [59] rfl ?_
      refine mVc_i (by first | omega | (simp only [rI]; omega) | (simp only [rL]; omega)) ?_
      refine zCl_e (kdie_t (K := K) hk (by simp only [rL]; omega) c1) (by decide) ?_
      refine zBrF (by first | (simp only [rI]; omega) | (simp only [rL]; omega)) (by omega) ?_
      refine mVc_i (by first | omega | (simp only [rI]; omega) | (simp only [rL]; omega)) ?_
      refine zCl_e (kfc_f (by simp only [rL]; omega) c2) (by decide) ?_
      refine zBrT (by first | (simp only [rI]; omega) | (simp only [rL]; omega)) (by omega) ?_
      refine zBrF (by first | (simp only [rI]; omega) | (simp only [rL]; omega)) (by omega) ?_
      exact ⟨0, kI K 0 2, rfl, rfl, kF_t (kF_r K) (kF_I _ _ (by omega)), hk, rfl⟩
  · rw [if_neg c1]
    refine zEv_run gX10_eaten 80 [59] rfl ?_
    refine mVc_i (by first | omega | (simp only [rI]; omega) | (simp only [rL]; omega)) ?_
    refine zCl_e (kdie_f (K := K) hk (by simp only [rL]; omega) c1) (by decide) ?_
    refine zBrT (by first | (simp only [rI]; omega) | (simp only [rL]; omega)) (by omega) ?_
    refine zBrF (by first | (simp only [rI]; omega) | (simp only [rL]; omega)) (by omega) ?_
    exact ⟨0, kI K 0 1, rfl, rfl, kF_t (kF_r K) (kF_I _ _ (by omega)), hk, rfl⟩
set_option maxHeartbeats 1000000 in
set_option maxRecDepth 100000 in
theorem kLasts (hk : kVn (K.2 0) v (v.1 4)) {d : Int} (hd : rI d) : zEv X 10 mX10_lasts [zR 29, zI d] (cX S ++ (cM K ++ t)) (kTp S K t (kcd [1]) (pLasts v d)) := by
  unfold pLasts
  have b1 := hk.1.2.1
  have b2 := hk.1.2.2.1
  have b4 := hk.1.2.2.2.2.1
  have hd1 := hd.1
  have hd2 := hd.2
  by_cases c1 : 0 ≤ d ∧ d < v.1 1
  · rw [if_pos c1]
    refine zEv_run gX10_lasts 80 [] rfl ?_
    refine mVc_i (by first | omega | (simp only [rI]; omega) | (simp only [rL]; omega)) ?_
    refine zCl_e (kdie_t (K := kI K 0 0) hk (by simp only [rL]; omega) c1) (by decide) ?_
    refine zBrF (by first | (simp only [rI]; omega) | (simp only [rL]; omega)) (by omega) ?_
    refine zCl_e (ksa (K := kI K 0 0) hk c1) (by decide) ?_
    refine zBb (P := v.2.1.2.1 d = 1) (fun c => ?_) (fun c => ?_)
    · refine zCl_e (kto (K := kI K 0 0) hk c1) (by decide) ?_
      rw [if_neg (fun q => c q.1)]
      exact ⟨_, kI K 0 0, rfl, rfl, kF_t (kF_r K) (kF_I _ _ (by omega)), hk, rfl, rfl⟩
    · refine zCl_e (kgo (K := kI K 0 0) hk c1) (by decide) ?_
      refine zBb (P := vTot v.2.1 d = 0) (fun e => ?_) (fun e => ?_)
      · rw [if_pos ⟨c, e⟩]
        exact ⟨_, kI K 0 0, rfl, rfl, kF_t (kF_r K) (kF_I _ _ (by omega)), hk, rfl, rfl⟩
      · refine zCl_e (kto (K := kI K 0 0) hk c1) (by decide) ?_
        rw [if_neg (fun q => q.2 e)]
        exact ⟨_, kI K 0 0, rfl, rfl, kF_t (kF_r K) (kF_I _ _ (by omega)), hk, rfl, rfl⟩
  · rw [if_neg c1]
    refine zEv_run gX10_lasts 80 [] rfl ?_
    refine mVc_i (by first | omega | (simp only [rI]; omega) | (simp only [rL]; omega)) ?_
    refine zCl_e (kdie_f (K := kI K 0 0) hk (by simp only [rL]; omega) c1) (by decide) ?_
    refine zBrT (by first | (simp only [rI]; omega) | (simp only [rL]; omega)) (by omega) ?_
    refine zCl_e (kfa (K := kI K 0 0)) (by decide) ?_
    exact ⟨0, kI (kI K 0 0) 0 1, rfl, rfl, kF_t (kF_t (kF_r K) (kF_I _ _ (by omega))) (kF_I _ _ (by omega)), hk, rfl⟩
theorem vLf_s (v : vV) (d : Int) {i : Int} (h : 0 ≤ i) : vLf v d (i + 1) = if 0 < vWp v d i then vAf v i else vLf v d i := zIt_s _ _ h
theorem vLf_b (v : vV) (d : Int) {i : Int} (h : 0 ≤ i) : -1 ≤ vLf v d i ∧ vLf v d i ≤ 6 :=
  zIt_i _ _ (fun _ x => -1 ≤ x ∧ x ≤ 6) (by omega) (fun p x _ hx => by
    have := vAf_b v p
    split
    · omega
    · exact hx) h
theorem vLf_end {v : vV} (hb : vVb v) {d q : Int} (h0 : 0 ≤ q) (h1 : q ≤ 6) (h : vBf v d 6 ≤ vBf v d q) : vLf v d 6 = vLf v d q := by
  have hW : ∀ p, 0 ≤ vWp v d p := fun p => (vWp_b hb d p).1
  have hk : ∀ k : Nat, q + k ≤ 6 → vLf v d (q + k) = vLf v d q := by
    intro k
    induction k with
    | zero => intro _; simp only [Int.natCast_zero, Int.add_zero]
    | succ k ih =>
      intro hk
      have a := zSum_le hW (a := q + k + 1) (b := 6) (by omega) (by omega)
      have b := zSum_le hW (a := q) (b := q + k) (by omega) (by omega)
      rw [zSum_s (by omega)] at a
      have c : zSum (vWp v d) 6 ≤ zSum (vWp v d) q := h
      have e : q + ((k + 1 : Nat) : Int) = q + k + 1 := by omega
      rw [e, vLf_s v d (by omega), if_neg (by omega), ih (by omega)]
  have := hk (6 - q).toNat (by omega)
  rw [show q + ((6 - q).toNat : Int) = 6 by omega] at this
  exact this
set_option maxHeartbeats 1000000 in
set_option maxRecDepth 100000 in
theorem kLastFace (hk : kVn (K.2 0) v (v.1 4)) {d : Int} (hd : rI d) : zEv X 10 mX10_lastFace [zR 29, zI d] (cX S ++ (cM K ++ t)) (kTp S K t (kcd [1]) (pLastFace v d)) := by
  unfold pLastFace
  have b1 := hk.1.2.1
  have b2 := hk.1.2.2.1
  have b4 := hk.1.2.2.2.2.1
  have hd1 := hd.1
  have hd2 := hd.2
  by_cases c1 : 0 ≤ d ∧ d < v.1 1
  · rw [if_pos c1]
    have hb : vVb v := hk.1
    by_cases cs : v.2.1.2.1 d = 1
    · rw [if_pos cs]
      refine zEv_run gX10_lastFace 80 [33] rfl ?_
      refine mVc_i (by first | omega | (simp only [rI]; omega) | (simp only [rL]; omega)) ?_
      refine zCl_e (kdie_t (K := kI K 0 0) hk (by simp only [rL]; omega) c1) (by decide) ?_
      refine zBrF (by first | (simp only [rI]; omega) | (simp only [rL]; omega)) (by omega) ?_
      refine zCl_i (klay (K := kI K 0 0) hk c1) (by decide) ?_
      rintro o9 h9 ⟨rfl, r, hr, rfl⟩
      refine zCl_e (ken (K := kA (kI K 0 0) 6 r) hk c1) (by decide) ?_
      have e : vNx v d = -1 := by rw [vNx, if_pos cs]
      rw [e]
      refine zWP_run gX10_lastFace 80 [] ?_
      refine zBrT (by first | (simp only [rI]; omega) | (simp only [rL]; omega)) (by omega) ?_
      refine zCl_i (kputs (K := kA (kI K 0 0) 6 r) (d := d) (by omega)) (by decide) ?_
      rintro o9 h9 ⟨rfl, c, e1, e2, rfl⟩
      exact ⟨_, kA (kA (kI K 0 0) 6 r) 0 c, rfl, rfl, kF_t (kF_t (kF_t (kF_r K) (kF_I _ _ (by omega))) (kF_A _ _ (by omega))) (kF_A _ _ (by omega)), kV_back hk c1 hr e1 e2, rfl, rfl⟩
    · rw [if_neg cs]
      have hbt := vBf_b hb d (p := 6) (by omega) (by omega)
      have lp : ∀ (k : Nat) (i l q : Int) (R : kK), 0 ≤ i → i + k = vBf v d 6 → 0 ≤ q ∧ q ≤ 6 → l = vLf v d q → i ≤ vBf v d q → kF K R → R.1 0 = 0 → kV (R.2 0) (vTm v (tauD d i)) → (∀ j, ¬ ((5 + 7 * d).toNat ≤ j ∧ j < (5 + 7 * d).toNat + 6) → R.2 0 j = K.2 0 j) → (∀ i : Int, 0 ≤ i → i < 6 → R.2 6 i.toNat = v.2.1.1 d (i + 1)) → zWP X mX10_lastFace 10 (kTp S K t (kcd [1]) (.inl (vLf v d 6), v)) 33 [some (zR 29), some (zI d), some (zI l), some (zI (vNx (vTm v (tauD d i)) d))] [] (cX S ++ (cM R ++ t)) 0 0 := by
        intro k
        induction k with
        | zero =>
          intro i l q R i0 hk0 hq hl hi hf h0 hr fr hrow
          have hlb := vLf_b v d hq.1
          rcases vNf_spec (vWp (vTm v (tauD d i)) d) (vAf (vTm v (tauD d i))) 6 0 with ⟨h1, h2⟩ | ⟨p, h1, h2, h3, h4, h5⟩
          · have e : vNx (vTm v (tauD d i)) d = -1 := by rw [vNx, if_neg (show ¬ (vTm v (tauD d i)).2.1.2.1 d = 1 from cs), h1]
            rw [e]
            refine zWP_run gX10_lastFace 80 [] ?_
            refine zBrT (by first | (simp only [rI]; omega) | (simp only [rL]; omega)) (by omega) ?_
            refine zCl_i (kputs (K := R) (d := d) (by omega)) (by decide) ?_
            rintro o9 h9 ⟨rfl, c, e1, e2, rfl⟩
            refine ⟨_, kA R 0 c, rfl, rfl, kF_t hf (kF_A _ _ (by omega)), kV_back hk c1 hrow e1 (fun j hj => by show c j = _; rw [e2 j hj, fr j hj]), ?_, h0⟩
            rw [hl]
            exact (vLf_end hb hq.1 hq.2 (by omega)).symm
          · have hx := vTm_bite hb cs (by rw [tauD_d]; exact i0) (p := p) (by omega) (fun j a b => h5 j a b) h4
            rw [tauD_d] at hx
            have := zSum_le (f := vWp v d) (fun p => (vWp_b hb d p).1) (a := p + 1) (b := 6) (by omega) (by omega)
            have e9 : vBf v d (p + 1) = zSum (vWp v d) (p + 1) := rfl
            have e8 : vBf v d 6 = zSum (vWp v d) 6 := rfl
            omega
        | succ k ih =>
          intro i l q R i0 hk0 hq hl hi hf h0 hr fr hrow
          have hlb := vLf_b v d hq.1
          rcases vNf_spec (vWp (vTm v (tauD d i)) d) (vAf (vTm v (tauD d i))) 6 0 with ⟨h1, h2⟩ | ⟨p, h1, h2, h3, h4, h5⟩
          · have hx := vTm_none hb cs (by rw [tauD_d]; exact i0) (fun j a b => h2 j a (by omega))
            rw [tauD_d] at hx
            omega
          · have hx := vTm_bite hb cs (by rw [tauD_d]; exact i0) (p := p) (by omega) (fun j a b => h5 j a b) h4
            have h46 : 0 < vEp v d (tauD d i d) p := by rw [← vTm_w v (tauD d i) (by omega) cs]; exact h4
            rw [tauD_d] at hx h46
            have hvf := vAf_b v p
            have e : vNx (vTm v (tauD d i)) d = vAf v p := by rw [vNx, if_neg (show ¬ (vTm v (tauD d i)).2.1.2.1 d = 1 from cs), h3]; rfl
            rw [e]
            refine zWP_run gX10_lastFace 80 [33] ?_
            refine zBrF (by first | (simp only [rI]; omega) | (simp only [rL]; omega)) (by omega) ?_
            refine zCl_b (kea hb hr c1 (by rw [tauD_d]; exact i0)) (by decide) ?_
            intro c hc fc
            rw [tauD_s] at hc
            refine zCl_e (ken (K := kA R 0 c) hc c1) (by decide) ?_
            refine ih (i + 1) (vAf v p) (p + 1) (kA R 0 c) (by omega) (by omega) (by omega) ?_ (by omega) (kF_t hf (kF_A _ _ (by omega))) h0 hc (fun j hj => by show c j = _; rw [fc j hj, fr j hj]) hrow
            have hwp : 0 < vWp v d p := by
              have := vWp_b hb d p
              simp only [vEp] at h46
              omega
            rw [vLf_s v d (by omega), if_pos hwp]
      refine zEv_run gX10_lastFace 80 [33] rfl ?_
      refine mVc_i (by first | omega | (simp only [rI]; omega) | (simp only [rL]; omega)) ?_
      refine zCl_e (kdie_t (K := kI K 0 0) hk (by simp only [rL]; omega) c1) (by decide) ?_
      refine zBrF (by first | (simp only [rI]; omega) | (simp only [rL]; omega)) (by omega) ?_
      refine zCl_i (klay (K := kI K 0 0) hk c1) (by decide) ?_
      rintro o9 h9 ⟨rfl, r, hr, rfl⟩
      refine zCl_e (ken (K := kA (kI K 0 0) 6 r) hk c1) (by decide) ?_
      have e0 : vTm v (tauD d 0) = v := vTm_0 hb (fun d1 => by simp only [tauD]; split <;> rfl)
      have k9 := lp (vBf v d 6).toNat 0 (-1) 0 (kA (kI K 0 0) 6 r) (by omega) (by omega) (by omega) rfl (by show (0:Int) ≤ 0; omega) (kF_t (kF_t (kF_r K) (kF_I _ _ (by omega))) (kF_A _ _ (by omega))) rfl (by rw [e0]; exact hk) (fun _ _ => rfl) hr
      rw [e0] at k9
      exact k9
  · rw [if_neg c1]
    refine zEv_run gX10_lastFace 80 [33] rfl ?_
    refine mVc_i (by first | omega | (simp only [rI]; omega) | (simp only [rL]; omega)) ?_
    refine zCl_e (kdie_f (K := kI K 0 0) hk (by simp only [rL]; omega) c1) (by decide) ?_
    refine zBrT (by first | (simp only [rI]; omega) | (simp only [rL]; omega)) (by omega) ?_
    refine zCl_e (kfa (K := kI K 0 0)) (by decide) ?_
    exact ⟨0, kI (kI K 0 0) 0 1, rfl, rfl, kF_t (kF_t (kF_r K) (kF_I _ _ (by omega))) (kF_I _ _ (by omega)), hk, rfl⟩
set_option maxHeartbeats 1000000 in
set_option maxRecDepth 100000 in
theorem kFan (hk : kVn (K.2 0) v (v.1 4)) {q : Int} (hq : rI q) : zEv X 10 mX10_fan [zR 29, zI q] (cX S ++ (cM K ++ t)) (kTp S K t (kcd [1]) (pFan v q)) := by
  unfold pFan
  have b1 := hk.1.2.1
  have b2 := hk.1.2.2.1
  have b4 := hk.1.2.2.2.2.1
  have hq1 := hq.1
  have hq2 := hq.2
  by_cases c1 : 0 ≤ q ∧ q < v.1 2
  · rw [if_pos c1]
    have hh := hk.2.2.1.2.2.1 q c1.1 (by omega)
    rw [Nat.zero_add] at hh
    refine zEv_run gX10_fan 80 [] rfl ?_
    refine mVc_i (by first | omega | (simp only [rI]; omega) | (simp only [rL]; omega)) ?_
    refine zCl_e (khan_t (K := kI K 0 0) hk (by simp only [rL]; omega) c1) (by decide) ?_
    refine zBrF (by first | (simp only [rI]; omega) | (simp only [rL]; omega)) (by omega) ?_
    refine mVc_i (by first | omega | (simp only [rI]; omega) | (simp only [rL]; omega)) ?_
    refine mVc_i (by first | omega | (simp only [rI]; omega) | (simp only [rL]; omega)) ?_
    exact ⟨_, kA (kI K 0 0) 0 (va_up (K.2 0) (40 + q).toNat 0), rfl, rfl, kF_t (kF_t (kF_r K) (kF_I _ _ (by omega))) (kF_A _ _ (by omega)), kV_h hk c1.1 (by omega) (by omega), hh, rfl⟩
  · rw [if_neg c1]
    refine zEv_run gX10_fan 80 [] rfl ?_
    refine mVc_i (by first | omega | (simp only [rI]; omega) | (simp only [rL]; omega)) ?_
    refine zCl_e (khan_f (K := kI K 0 0) hk (by simp only [rL]; omega) c1) (by decide) ?_
    refine zBrT (by first | (simp only [rI]; omega) | (simp only [rL]; omega)) (by omega) ?_
    refine zCl_e (kfa (K := kI K 0 0)) (by decide) ?_
    exact ⟨0, kI (kI K 0 0) 0 1, rfl, rfl, kF_t (kF_t (kF_r K) (kF_I _ _ (by omega))) (kF_I _ _ (by omega)), hk, rfl⟩
end Mdl3
