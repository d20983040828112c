/-! Odds: what sums tell; stopping -/
/-- from the sum s on -/
def vGe (r : Int → Int) (s : Int) : Int := zSum (fun i => r (s + i)) (31 - s)
def vMo (r : Int → Int) (i : Int) : Int := zIt (fun j b => if r b < r (j + 1) then j + 1 else b) 0 i
def vPo (r : Int → Int) (i : Int) : Int := zIt (fun s b => if 0 < r s then (Int32.ofInt b ||| Int32.ofInt ((Int32.ofInt 1 <<< (Int32.ofInt s &&& 31)).toInt)).toInt else b) 0 i
def vAw (r : Int → Int) (i : Int) : Int := zSum (fun s => s * r s) i
def vPf (v : vV) (c f i : Int) : Int := zIt (fun d p => p * (if bit c d = 1 then v.2.1.1 d f else 1)) 1 i
def vOf (v : vV) (c : Int) : Int := if c = 0 then 1 else zSum (fun i => vPf v c (i + 1) (v.1 1)) 6
theorem vMo_b (r : Int → Int) {i : Int} (h0 : 0 ≤ i) : 0 ≤ vMo r i ∧ vMo r i ≤ i :=
  zIt_i (fun j b => if r b < r (j + 1) then j + 1 else b) 0 (fun i b => 0 ≤ b ∧ b ≤ i) (by omega) (fun j x hj hx => by
    show 0 ≤ (if r x < r (j + 1) then j + 1 else x) ∧ (if r x < r (j + 1) then j + 1 else x) ≤ j + 1
    split <;> omega) h0
theorem vMo_s (r : Int → Int) {i : Int} (h : 0 ≤ i) : vMo r (i + 1) = if r (vMo r i) < r (i + 1) then i + 1 else vMo r i := zIt_s _ _ h
theorem vPo_s (r : Int → Int) {i : Int} (h : 0 ≤ i) : vPo r (i + 1) = if 0 < r i then (Int32.ofInt (vPo r i) ||| Int32.ofInt ((Int32.ofInt 1 <<< (Int32.ofInt i &&& 31)).toInt)).toInt else vPo r i := zIt_s _ _ h
theorem vAw_s (r : Int → Int) {i : Int} (h : 0 ≤ i) : vAw r (i + 1) = vAw r i + i * r i := zSum_s h
theorem vPf_s (v : vV) (c f : Int) {i : Int} (h : 0 ≤ i) : vPf v c f (i + 1) = vPf v c f i * (if bit c i = 1 then v.2.1.1 i f else 1) := zIt_s _ _ h
theorem vSm_5 {v : vV} (h : vVb v) (c s : Int) : 0 ≤ vSm v c (v.1 1) s ∧ vSm v c (v.1 1) s ≤ 24883200000 := by
  have b1 := h.2.1
  have h1 := vSm_b h c b1.1 s
  have h2 := pcn_b c b1.1
  have h3 := p120 h2.1 (by omega)
  omega
theorem vGe_b {r : Int → Int} {B : Int} (hB : 0 ≤ B) (hr : ∀ s, 0 ≤ r s ∧ r s ≤ B) {s i : Int} (h0 : 0 ≤ i) (h1 : i ≤ 31) : 0 ≤ zSum (fun i => r (s + i)) i ∧ zSum (fun i => r (s + i)) i ≤ 31 * B := zSum_bd (fun i => hr _) h0 h1 hB
theorem pc_ok0 : ∀ c : Fin 32, pcn (c.val : Int) 5 = (c.val : Int) % 2 + (c.val : Int) / 2 % 2 + (c.val : Int) / 4 % 2 + (c.val : Int) / 8 % 2 + (c.val : Int) / 16 % 2 := by decide +kernel
section Odds2
variable {X : mX} {S : sS} {t : zH} {v : vV}
def vAt (r : Int → Int) (s : Int) : Int := if 0 ≤ s ∧ s < 31 then r s else 0
set_option maxHeartbeats 1000000 in
set_option maxRecDepth 100000 in
theorem osum (hv : vX S v) {c : Int} (hc : 0 ≤ c ∧ c < 32) {s : Int} (hs : rI s) : zEv X 4 mX4_waysOfSum [zR 10, zI c, zI s] (cX S ++ t) (zTo S t (.inl (some (zJ (vAt (vSm v c (v.1 1)) s)))) v) := by
  have hs1 := hs.1
  have hs2 := hs.2
  refine zEv_run gX4_waysOfSum 60 [] rfl ?_
  refine zCl_i (ocs hv hc) (by decide) ?_
  intro o9 h9 q9
  obtain ⟨rfl, f, hf, rfl⟩ := q9
  by_cases c1 : s < 0
  · refine zBrT hs c1 ?_
    rw [vAt, if_neg (by omega)]
    exact ⟨rfl, _, rfl, sF_A S f ⟨by omega, by omega⟩, hv⟩
  · refine zBrF hs c1 ?_
    refine zBr ⟨hs, by simp only [rI]; omega⟩ (fun c2 => ?_) (fun c2 => ?_)
    · rw [vAt, if_neg (by omega)]
      exact ⟨rfl, _, rfl, sF_A S f ⟨by omega, by omega⟩, hv⟩
    · refine mVc_i (by omega) ?_
      rw [vAt, if_pos (by omega), ← hf s (by omega) (by omega)]
      exact ⟨rfl, _, rfl, sF_A S f ⟨by omega, by omega⟩, hv⟩
set_option maxHeartbeats 1000000 in
set_option maxRecDepth 100000 in
theorem oge (hv : vX S v) {c : Int} (hc : 0 ≤ c ∧ c < 32) {s : Int} (hs : rI s) : zEv X 4 mX4_waysOfSumOrMore [zR 10, zI c, zI s] (cX S ++ t) (zTo S t (.inl (some (zJ (vGe (vSm v c (v.1 1)) (max s 0))))) v) := by
  have hs1 := hs.1
  have hs2 := hs.2
  have lp : ∀ (k : Nat) (i : Int) (f : Nat → Int), 0 ≤ i → (∀ s : Int, 0 ≤ s → s < 31 → f s.toNat = vSm v c (v.1 1) s) → i + k = 31 - max s 0 → zWP X mX4_waysOfSumOrMore 4 (zTo S t (.inl (some (zJ (vGe (vSm v c (v.1 1)) (max s 0))))) v) 14 [some (zR 10), some (zI c), some (zI s), some (zJ (zSum (fun i => vSm v c (v.1 1) (max s 0 + i)) i)), none, some (zI (max s 0 + i))] [] (cX (sA S 5 f) ++ t) 0 0 := by
    intro k
    induction k with
    | zero =>
      intro i f g0 hf hk
      refine zWP_run gX4_waysOfSumOrMore 80 [14] ?_
      refine zBrT (by simp only [rI]; omega) (by omega) ?_
      rw [vGe, ← show i = 31 - max s 0 by omega]
      exact ⟨rfl, _, rfl, sF_A S f ⟨by omega, by omega⟩, hv⟩
    | succ k ih =>
      intro i f g0 hf hk
      refine zWP_run gX4_waysOfSumOrMore 80 [14] ?_
      refine zBrF (by simp only [rI]; omega) (by omega) ?_
      refine mVc_i (by omega) ?_
      have k3 := ih (i + 1) f (by omega) hf (by omega)
      rw [zSum_s g0, ← hf (max s 0 + i) (by omega) (by omega)] at k3
      rw [show max s 0 + (i + 1) = max s 0 + i + 1 by omega] at k3
      exact k3
  refine zEv_run gX4_waysOfSumOrMore 60 [14] rfl ?_
  refine zCl_i (ocs hv hc) (by decide) ?_
  intro o9 h9 q9
  obtain ⟨rfl, f, hf, rfl⟩ := q9
  refine mVc_i ⟨hs, by simp only [rI]; omega⟩ ?_
  by_cases c1 : max s 0 ≤ 31
  · have k1 := lp (31 - max s 0).toNat 0 f (by omega) hf (by omega)
    rw [show max s 0 + 0 = max s 0 by omega] at k1
    exact k1
  · refine zWP_run gX4_waysOfSumOrMore 40 [] ?_
    refine zBrT (by simp only [rI]; omega) (by omega) ?_
    have e9 : vGe (vSm v c (v.1 1)) (max s 0) = 0 := by
      have e8 : (31 - max s 0).toNat = 0 := by omega
      simp only [vGe, zSum, e8, vSum]
    rw [e9]
    exact ⟨rfl, _, rfl, sF_A S f ⟨by omega, by omega⟩, hv⟩
set_option maxHeartbeats 1000000 in
set_option maxRecDepth 100000 in
theorem omo (hv : vX S v) {c : Int} (hc : 0 ≤ c ∧ c < 32) : zEv X 4 mX4_likeliestSum [zR 10, zI c] (cX S ++ t) (zTo S t (.inl (some (zI (vMo (vSm v c (v.1 1)) 30)))) v) := by
  have hsm : ∀ s, 0 ≤ vSm v c (v.1 1) s ∧ vSm v c (v.1 1) s ≤ 24883200000 := fun s => vSm_5 hv.1 c s
  have lp : ∀ (k : Nat) (i : Int) (f : Nat → Int), 0 ≤ i → (∀ s : Int, 0 ≤ s → s < 31 → f s.toNat = vSm v c (v.1 1) s) → i + k = 30 → zWP X mX4_likeliestSum 4 (zTo S t (.inl (some (zI (vMo (vSm v c (v.1 1)) 30)))) v) 9 [some (zR 10), some (zI c), some (zI (vMo (vSm v c (v.1 1)) i)), some (zI (i + 1))] [] (cX (sA S 5 f) ++ t) 0 0 := by
    intro k
    induction k with
    | zero =>
      intro i f g0 hf hk
      refine zWP_run gX4_likeliestSum 80 [9] ?_
      refine zBrT (by simp only [rI]; omega) (by omega) ?_
      rw [← show i = 30 by omega]
      exact ⟨rfl, _, rfl, sF_A S f ⟨by omega, by omega⟩, hv⟩
    | succ k ih =>
      intro i f g0 hf hk
      refine zWP_run gX4_likeliestSum 80 [9] ?_
      refine zBrF (by simp only [rI]; omega) (by omega) ?_
      have hb := vMo_b (vSm v c (v.1 1)) g0
      have k3 := ih (i + 1) f (by omega) hf (by omega)
      rw [vMo_s _ g0] at k3
      have a1 := hsm (i + 1)
      have a2 := hsm (vMo (vSm v c (v.1 1)) i)
      have e5 := hf (i + 1) (by omega) (by omega)
      have e6 := hf (vMo (vSm v c (v.1 1)) i) (by omega) (by omega)
      refine mVc_i (by omega) ?_
      refine mVc_i (by omega) ?_
      refine zBr ?_ (fun c1 => ?_) (fun c1 => ?_)
      · show rL (f (i + 1).toNat) ∧ rL (f (vMo (vSm v c (v.1 1)) i).toNat)
        rw [e5, e6]
        simp only [rL]
        omega
      · have c2 : f (i + 1).toNat ≤ f (vMo (vSm v c (v.1 1)) i).toNat := c1
        rw [e5, e6] at c2
        rw [if_neg (by omega)] at k3
        exact k3
      · have c2 : ¬ f (i + 1).toNat ≤ f (vMo (vSm v c (v.1 1)) i).toNat := c1
        rw [e5, e6] at c2
        rw [if_pos (by omega)] at k3
        exact k3
  refine zEv_run gX4_likeliestSum 60 [9] rfl ?_
  refine zCl_i (ocs hv hc) (by decide) ?_
  intro o9 h9 q9
  obtain ⟨rfl, f, hf, rfl⟩ := q9
  exact lp 30 0 f (by omega) hf (by omega)
set_option maxHeartbeats 1000000 in
set_option maxRecDepth 100000 in
theorem opo (hv : vX S v) {c : Int} (hc : 0 ≤ c ∧ c < 32) : zEv X 4 mX4_possibleSums [zR 10, zI c] (cX S ++ t) (zTo S t (.inl (some (zI (vPo (vSm v c (v.1 1)) 31)))) v) := by
  have hsm : ∀ s, 0 ≤ vSm v c (v.1 1) s ∧ vSm v c (v.1 1) s ≤ 24883200000 := fun s => vSm_5 hv.1 c s
  have lp : ∀ (k : Nat) (i : Int) (f : Nat → Int), 0 ≤ i → (∀ s : Int, 0 ≤ s → s < 31 → f s.toNat = vSm v c (v.1 1) s) → i + k = 31 → zWP X mX4_possibleSums 4 (zTo S t (.inl (some (zI (vPo (vSm v c (v.1 1)) 31)))) v) 9 [some (zR 10), some (zI c), some (zI (vPo (vSm v c (v.1 1)) i)), some (zI i)] [] (cX (sA S 5 f) ++ t) 0 0 := by
    intro k
    induction k with
    | zero =>
      intro i f g0 hf hk
      refine zWP_run gX4_possibleSums 80 [9] ?_
      refine zBrT (by simp only [rI]; omega) (by omega) ?_
      rw [← show i = 31 by omega]
      exact ⟨rfl, _, rfl, sF_A S f ⟨by omega, by omega⟩, hv⟩
    | succ k ih =>
      intro i f g0 hf hk
      refine zWP_run gX4_possibleSums 80 [9] ?_
      refine zBrF (by simp only [rI]; omega) (by omega) ?_
      have k3 := ih (i + 1) f (by omega) hf (by omega)
      rw [vPo_s _ g0] at k3
      have a1 := hsm i
      have e5 := hf i (by omega) (by omega)
      refine mVc_i (by omega) ?_
      refine zBr ?_ (fun c1 => ?_) (fun c1 => ?_)
      · show rL (f i.toNat) ∧ rL 0
        rw [e5]
        simp only [rL]
        omega
      · have c2 : f i.toNat ≤ 0 := c1
        rw [e5] at c2
        rw [if_neg (by omega)] at k3
        exact k3
      · have c2 : ¬ f i.toNat ≤ 0 := c1
        rw [e5] at c2
        rw [if_pos (by omega)] at k3
        exact k3
  refine zEv_run gX4_possibleSums 60 [9] rfl ?_
  refine zCl_i (ocs hv hc) (by decide) ?_
  intro o9 h9 q9
  obtain ⟨rfl, f, hf, rfl⟩ := q9
  exact lp 31 0 f (by omega) hf (by omega)
set_option maxHeartbeats 1000000 in
set_option maxRecDepth 100000 in
theorem oaw (hv : vX S v) {c : Int} (hc : 0 ≤ c ∧ c < 32) : zEv X 4 mX4_allSumsWeighed [zR 10, zI c] (cX S ++ t) (zTo S t (.inl (some (zJ (vAw (vSm v c (v.1 1)) 31)))) v) := by
  have hsm : ∀ s, 0 ≤ vSm v c (v.1 1) s ∧ vSm v c (v.1 1) s ≤ 24883200000 := fun s => vSm_5 hv.1 c s
  have lp : ∀ (k : Nat) (i : Int) (f : Nat → Int), 0 ≤ i → (∀ s : Int, 0 ≤ s → s < 31 → f s.toNat = vSm v c (v.1 1) s) → i + k = 31 → zWP X mX4_allSumsWeighed 4 (zTo S t (.inl (some (zJ (vAw (vSm v c (v.1 1)) 31)))) v) 10 [some (zR 10), some (zI c), some (zJ (vAw (vSm v c (v.1 1)) i)), none, some (zI i)] [] (cX (sA S 5 f) ++ t) 0 0 := by
    intro k
    induction k with
    | zero =>
      intro i f g0 hf hk
      refine zWP_run gX4_allSumsWeighed 80 [10] ?_
      refine zBrT (by simp only [rI]; omega) (by omega) ?_
      rw [← show i = 31 by omega]
      exact ⟨rfl, _, rfl, sF_A S f ⟨by omega, by omega⟩, hv⟩
    | succ k ih =>
      intro i f g0 hf hk
      refine zWP_run gX4_allSumsWeighed 80 [10] ?_
      refine zBrF (by simp only [rI]; omega) (by omega) ?_
      have k3 := ih (i + 1) f (by omega) hf (by omega)
      rw [vAw_s _ g0, ← hf i (by omega) (by omega)] at k3
      refine mVc_i (by simp only [rI]; omega) ?_
      refine mVc_i (by omega) ?_
      exact k3
  refine zEv_run gX4_allSumsWeighed 60 [10] rfl ?_
  refine zCl_i (ocs hv hc) (by decide) ?_
  intro o9 h9 q9
  obtain ⟨rfl, f, hf, rfl⟩ := q9
  exact lp 31 0 f (by omega) hf (by omega)
set_option maxHeartbeats 1000000 in
set_option maxRecDepth 100000 in
theorem oof (hv : vX S v) {c : Int} (hc : 0 ≤ c ∧ c < 32) : zEv X 2 mX4_waysOfOneFace [zR 10, zI c] (cX S ++ t) (zIs (.inl (some (zJ (vOf v c)))) (cX S ++ t)) := by
  have h4 := hv.1.2.2.2.2.1
  have e4 : S.1 16 = v.1 4 := hv.2.2.2.2.2.1
  have h1 := hv.1.2.1
  have e1 : S.1 13 = v.1 1 := hv.2.2.1
  have h2 := hv.1.2.2.1
  have e2 : S.1 14 = v.1 2 := hv.2.2.2.1
  have l1 : ∀ (k : Nat) (i : Int), 0 ≤ i → i + k = 6 → zWP X mX4_waysOfOneFace 2 (zIs (.inl (some (zJ (zSum (fun i => vPf v c (i + 1) (v.1 1)) 6)))) (cX S ++ t)) 11 [some (zR 10), some (zI c), some (zJ (zSum (fun i => vPf v c (i + 1) (v.1 1)) i)), none, some (zI (i + 1)), none, none, none] [] (cX S ++ t) 0 0 := by
    intro k
    induction k with
    | zero =>
      intro i i0 hk
      refine zWP_run gX4_waysOfOneFace 60 [11] ?_
      refine zBrT (by simp only [rI]; omega) (by omega) ?_
      rw [← show i = 6 by omega]
      exact ⟨rfl, rfl⟩
    | succ k ih =>
      intro i i0 hk
      have l2 : ∀ (k : Nat) (d : Int), 0 ≤ d → d + k = v.1 1 → zWP X mX4_waysOfOneFace 2 (zIs (.inl (some (zJ (zSum (fun i => vPf v c (i + 1) (v.1 1)) 6)))) (cX S ++ t)) 24 [some (zR 10), some (zI c), some (zJ (zSum (fun i => vPf v c (i + 1) (v.1 1)) i)), none, some (zI (i + 1)), some (zJ (vPf v c (i + 1) d)), none, some (zI d)] [] (cX S ++ t) 0 0 := by
        intro k2
        induction k2 with
        | zero =>
          intro d d0 hk2
          refine zWP_run gX4_waysOfOneFace 60 [11, 24] ?_
          refine zBrT (by simp only [rI]; omega) (by omega) ?_
          have k3 := ih (i + 1) (by omega) (by omega)
          rw [zSum_s i0, ← show d = v.1 1 by omega] at k3
          rw [← show d = v.1 1 by omega]
          exact zWP_fg k3 (by repeat (first | exact trivial | refine ⟨rfl, ?_⟩))
        | succ k2 ih2 =>
          intro d d0 hk2
          have hb := bit_01 c d
          have hw := gbd hv d (i + 1)
          have k3 := ih2 (d + 1) (by omega) (by omega)
          rw [vPf_s _ _ _ d0] at k3
          refine zWP_run gX4_waysOfOneFace 60 [11, 24] ?_
          refine zBrF (by simp only [rI]; omega) (by omega) ?_
          refine zCl_e (oin hc ⟨d0, by omega⟩) (by decide) ?_
          refine zBr (by simp only [rI]; omega) (fun c1 => ?_) (fun c1 => ?_)
          · rw [if_neg (by omega)] at k3
            exact k3
          · rw [if_pos (by omega)] at k3
            refine zCl_e (gw hv d0 (by omega) (by omega) (by omega)) (by decide) ?_
            refine mVc_i (by simp only [rI]; omega) ?_
            exact k3
      refine zWP_run gX4_waysOfOneFace 60 [11, 24] ?_
      refine zBrF (by simp only [rI]; omega) (by omega) ?_
      exact l2 (v.1 1).toNat 0 (by omega) (by omega)
  refine zEv_run gX4_waysOfOneFace 40 [11] rfl ?_
  simp only [vOf]
  refine zBr (by simp only [rI]; omega) (fun c1 => ?_) (fun c1 => ?_)
  · rw [if_pos c1]
    exact ⟨rfl, rfl⟩
  · rw [if_neg c1]
    exact l1 6 0 (by omega) (by omega)
def vMw (p q : Int → Int) (i : Int) : Int × Int := zIt (fun s x => (x.1 + p s * x.2, x.2 + q s)) (0, 0) i
theorem vMw_s (p q : Int → Int) {i : Int} (h : 0 ≤ i) : vMw p q (i + 1) = ((vMw p q i).1 + p i * (vMw p q i).2, (vMw p q i).2 + q i) := zIt_s _ _ h
set_option maxHeartbeats 1000000 in
set_option maxRecDepth 100000 in
theorem omw (hv : vX S v) {a b n : Int} (ha : 0 ≤ a ∧ a < v.1 1) (hb : 0 ≤ b ∧ b < v.1 1) (hn : 0 ≤ n ∧ n ≤ 8) : zEv X 4 mX4_waysOfMore [zR 10, zI a, zI b, zI n] (cX S ++ t) (zTo S t (.inl (some (zJ ((vMw (vTw (v.2.1.1 a) n) (vTw (v.2.1.1 b) n) 31).1)))) v) := by
  have lp : ∀ (k : Nat) (i : Int) (f q : Nat → Int), 0 ≤ i → (∀ s : Int, 0 ≤ s → s < 31 → f s.toNat = vTw (v.2.1.1 a) n s) → (∀ s : Int, 0 ≤ s → s < 31 → q s.toNat = vTw (v.2.1.1 b) n s) → i + k = 31 → zWP X mX4_waysOfMore 4 (zTo S t (.inl (some (zJ ((vMw (vTw (v.2.1.1 a) n) (vTw (v.2.1.1 b) n) 31).1)))) v) 29 [some (zR 10), some (zI a), some (zI b), some (zI n), some (zJ (vMw (vTw (v.2.1.1 a) n) (vTw (v.2.1.1 b) n) i).1), none, some (zJ (vMw (vTw (v.2.1.1 a) n) (vTw (v.2.1.1 b) n) i).2), none, some (zI i)] [] (cX (sA (sA S 5 f) 6 q) ++ t) 0 0 := by
    intro k
    induction k with
    | zero =>
      intro i f q g0 hf hq hk
      refine zWP_run gX4_waysOfMore 80 [29] ?_
      refine zBrT (by simp only [rI]; omega) (by omega) ?_
      rw [← show i = 31 by omega]
      exact ⟨rfl, _, rfl, sF_t (sF_A S f ⟨by omega, by omega⟩) (sF_A _ q ⟨by omega, by omega⟩), hv⟩
    | succ k ih =>
      intro i f q g0 hf hq hk
      refine zWP_run gX4_waysOfMore 80 [29] ?_
      refine zBrF (by simp only [rI]; omega) (by omega) ?_
      have k3 := ih (i + 1) f q (by omega) hf hq (by omega)
      rw [vMw_s _ _ g0, ← hf i (by omega) (by omega), ← hq i (by omega) (by omega)] at k3
      refine mVc_i (by omega) ?_
      refine mVc_i (by omega) ?_
      exact k3
  refine zEv_run gX4_waysOfMore 60 [29] rfl ?_
  refine zCl_i (oct5 hv ha hn) (by decide) ?_
  intro o9 h9 q9
  obtain ⟨rfl, f, hf, rfl⟩ := q9
  refine zCl_i (oct6 (S := sA S 5 f) (t := t) hv hb hn) (by decide) ?_
  intro o9 h9 q9
  obtain ⟨rfl, q, hq, rfl⟩ := q9
  exact lp 31 0 f q (by omega) hf hq (by omega)
end Odds2
