/-! Odds: sums -/
/-- is die d in the set: 1, 0 -/
def bit (c d : Int) : Int := c / 2 ^ d.toNat % 2
theorem bit_01 (c d : Int) : bit c d = 0 ∨ bit c d = 1 := by
  simp only [bit]
  omega
theorem bt_in {c k : Int} (h0 : 0 ≤ c) (h1 : c < 64) (h2 : 0 ≤ k) (h3 : k < 6) : (Int32.ofInt ((Int32.ofInt c >>> (Int32.ofInt k &&& 31)).toInt) &&& Int32.ofInt 1).toInt = bit c k := bt_shr h0 h1 h2 h3
def r0 (s : Int) : Int := if s = 0 then 1 else 0
def aS (w r : Int → Int) (s : Int) : Int := zSum (fun i => w (i + 1) * r (s - (i + 1))) (min 6 s)
def vSm (v : vV) (c i : Int) : Int → Int := zIt (fun d r => if bit c d = 1 then aS (v.2.1.1 d) r else r) r0 i
def vWh (v : vV) (c i : Int) : Int := zIt (fun d p => if bit c d = 1 then p * vTot v.2.1 d else p) 1 i
def pcn (c i : Int) : Int := zSum (bit c) i
theorem pcn_b (c : Int) {i : Int} (h0 : 0 ≤ i) : 0 ≤ pcn c i ∧ pcn c i ≤ i := zSum_01 (fun d => bit_01 c d) h0 (Int.le_refl i)
theorem pcn_s (c : Int) {i : Int} (h0 : 0 ≤ i) : pcn c (i + 1) = pcn c i + bit c i := zSum_s h0
theorem aS_b {w r : Int → Int} {B : Int} (hB : 0 ≤ B) (hw : ∀ f, 0 ≤ w f ∧ w f ≤ 20) (hr : ∀ s, 0 ≤ r s ∧ r s ≤ B) (s : Int) : 0 ≤ aS w r s ∧ aS w r s ≤ 120 * B := by
  by_cases h : 0 ≤ s
  · have := zSum_bd (f := fun i => w (i + 1) * r (s - (i + 1))) (c := 20 * B) (i := min 6 s) (n := 6) (fun i => mul_b (hw _) (hr _)) (by omega) (by omega) (by omega)
    simp only [aS]
    omega
  · have e : (min 6 s).toNat = 0 := by omega
    simp only [aS, zSum, e, vSum]
    omega
theorem vWh_b {v : vV} (h : vVb v) (c : Int) {i : Int} (h0 : 0 ≤ i) : 0 ≤ vWh v c i ∧ vWh v c i ≤ 120 ^ (pcn c i).toNat :=
  zIt_i (fun d p => if bit c d = 1 then p * vTot v.2.1 d else p) 1 (fun i p => 0 ≤ p ∧ p ≤ 120 ^ (pcn c i).toNat) (by show (0 : Int) ≤ 1 ∧ (1 : Int) ≤ 1; omega) (fun d p hd hp => by
    have hb := bit_01 c d
    have hpc := pcn_b c hd
    rw [pcn_s c hd]
    by_cases e : bit c d = 1
    · rw [if_pos e, e, show (pcn c d + 1).toNat = (pcn c d).toNat + 1 by omega, Int.pow_succ]
      exact mul_b hp (vTot_b h.2.2.2.2.2.1 d)
    · rw [if_neg e, show pcn c d + bit c d = pcn c d by omega]
      exact hp) h0
theorem vSm_b {v : vV} (h : vVb v) (c : Int) {i : Int} (h0 : 0 ≤ i) : ∀ s, 0 ≤ vSm v c i s ∧ vSm v c i s ≤ 120 ^ (pcn c i).toNat :=
  zIt_i (fun d r => if bit c d = 1 then aS (v.2.1.1 d) r else r) r0 (fun i r => ∀ s : Int, 0 ≤ r s ∧ r s ≤ 120 ^ (pcn c i).toNat) (fun s => by
    show 0 ≤ r0 s ∧ r0 s ≤ 1
    simp only [r0]
    split <;> omega) (fun d r hd hr => by
    have hb := bit_01 c d
    have hpc := pcn_b c hd
    rw [pcn_s c hd]
    by_cases e : bit c d = 1
    · rw [if_pos e, e, show (pcn c d + 1).toNat = (pcn c d).toNat + 1 by omega, Int.pow_succ]
      intro s
      have h9 : (0 : Int) ≤ 120 ^ (pcn c d).toNat := Int.le_trans (hr 0).1 (hr 0).2
      have := aS_b h9 (fun f => h.2.2.2.2.2.1.1 d f) hr s
      omega
    · rw [if_neg e, show pcn c d + bit c d = pcn c d by omega]
      exact hr) h0
theorem p120 {n : Int} (h0 : 0 ≤ n) (h1 : n ≤ 5) : (120 : Int) ^ n.toNat ≤ 24883200000 := by
  have hn : n = 0 ∨ n = 1 ∨ n = 2 ∨ n = 3 ∨ n = 4 ∨ n = 5 := by omega
  rcases hn with rfl | rfl | rfl | rfl | rfl | rfl <;> decide
theorem p120_3 {n : Int} (h0 : 0 ≤ n) (h1 : n ≤ 3) : (120 : Int) ^ n.toNat ≤ 1728000 := by
  have hn : n = 0 ∨ n = 1 ∨ n = 2 ∨ n = 3 := by omega
  rcases hn with rfl | rfl | rfl | rfl <;> decide
theorem vWh_s (v : vV) (c : Int) {i : Int} (h : 0 ≤ i) : vWh v c (i + 1) = if bit c i = 1 then vWh v c i * vTot v.2.1 i else vWh v c i := zIt_s _ _ h
theorem vSm_s (v : vV) (c : Int) {i : Int} (h : 0 ≤ i) : vSm v c (i + 1) = if bit c i = 1 then aS (v.2.1.1 i) (vSm v c i) else vSm v c i := zIt_s _ _ h
section Odds
variable {X : mX} {S : sS} {t : zH} {v : vV}
set_option maxHeartbeats 1000000 in
set_option maxRecDepth 100000 in
theorem oin {c d : Int} (hc : 0 ≤ c ∧ c < 32) (hd : 0 ≤ d ∧ d < 5) : zEv X 1 mX4_isIn [zI c, zI d] (cX S ++ t) (zIs (.inl (some (zI (bit c d)))) (cX S ++ t)) := by
  have e9 := bt_in hc.1 (by omega) hd.1 (k := d) (by omega)
  have hb := bit_01 c d
  refine zEv_run gX4_isIn 40 [] rfl ?_
  refine zBr ⟨?_, by simp only [rI]; omega⟩ (fun c1 => ?_) (fun c1 => ?_)
  · show rI ((Int32.ofInt ((Int32.ofInt c >>> (Int32.ofInt d &&& 31)).toInt) &&& Int32.ofInt 1).toInt)
    rw [e9]
    simp only [rI]
    omega
  · have c2 : (Int32.ofInt ((Int32.ofInt c >>> (Int32.ofInt d &&& 31)).toInt) &&& Int32.ofInt 1).toInt = 1 := c1
    rw [e9] at c2
    exact mVc_i (Or.inr rfl) ⟨by rw [c2], rfl⟩
  · have c2 : ¬ (Int32.ofInt ((Int32.ofInt c >>> (Int32.ofInt d &&& 31)).toInt) &&& Int32.ofInt 1).toInt = 1 := c1
    rw [e9] at c2
    exact mVc_i (Or.inl rfl) ⟨by rw [show bit c d = 0 by omega], rfl⟩
set_option maxHeartbeats 1000000 in
set_option maxRecDepth 100000 in
theorem owh (hv : vX S v) {c : Int} (hc : 0 ≤ c ∧ c < 32) : zEv X 3 mX4_wholeOf [zR 10, zI c] (cX S ++ t) (zIs (.inl (some (zJ (vWh v c (v.1 1))))) (cX S ++ t)) := by
  have h4 := hv.1.2.2.2.2.1
  have e4 : S.1 16 = v.1 4 := hv.2.2.2.2.2.1
  have h1 := hv.1.2.1
  have e1 : S.1 13 = v.1 1 := hv.2.2.1
  have h2 := hv.1.2.2.1
  have e2 : S.1 14 = v.1 2 := hv.2.2.2.1
  have lp : ∀ (k : Nat) (d : Int), 0 ≤ d → d + k = v.1 1 → zWP X mX4_wholeOf 3 (zIs (.inl (some (zJ (vWh v c (v.1 1))))) (cX S ++ t)) 5 [some (zR 10), some (zI c), some (zJ (vWh v c d)), none, some (zI d)] [] (cX S ++ t) 0 0 := by
    intro k
    induction k with
    | zero =>
      intro d g0 hk
      refine zWP_run gX4_wholeOf 80 [5] ?_
      refine zBrT (by simp only [rI]; omega) (by omega) ?_
      rw [show d = v.1 1 by omega]
      exact ⟨rfl, rfl⟩
    | succ k ih =>
      intro d g0 hk
      refine zWP_run gX4_wholeOf 80 [5] ?_
      refine zBrF (by simp only [rI]; omega) (by omega) ?_
      have k3 := ih (d + 1) (by omega) (by omega)
      rw [vWh_s v c g0] at k3
      have hb := bit_01 c d
      have ht := gtb hv d
      refine zCl_e (oin hc ⟨g0, by omega⟩) (by decide) ?_
      refine zBr (by simp only [rI]; omega) (fun c1 => ?_) (fun c1 => ?_)
      · rw [if_neg (by omega)] at k3
        exact k3
      · rw [if_pos (by omega)] at k3
        refine zCl_e (gtot hv g0 (by omega)) (by decide) ?_
        refine mVc_i (by simp only [rI]; omega) ?_
        exact k3
  refine zEv_run gX4_wholeOf 40 [5] rfl ?_
  exact lp (v.1 1).toNat 0 (by omega) (by omega)
set_option maxHeartbeats 1000000 in
set_option maxRecDepth 100000 in
theorem obeg5  : zEv X 1 mX4_begin [zR 11] (cX S ++ t) (fun o9 h9 => o9 = .inl none ∧ ∃ f : Nat → Int, (∀ s : Int, 0 ≤ s → s < 31 → f s.toNat = r0 s) ∧ h9 = cX (sA S 5 f) ++ t) := by
  have lp : ∀ (k : Nat) (i : Int) (f : Nat → Int), 0 ≤ i → (∀ s : Int, 0 ≤ s → s < i → f s.toNat = r0 s) → i + k = 31 → zWP X mX4_begin 1 (fun o9 h9 => o9 = .inl none ∧ ∃ f : Nat → Int, (∀ s : Int, 0 ≤ s → s < 31 → f s.toNat = r0 s) ∧ h9 = cX (sA S 5 f) ++ t) 2 [some (zR 11), some (zI i)] [] (cX (sA S 5 f) ++ t) 0 0 := by
    intro k
    induction k with
    | zero =>
      intro i f g0 hf hk
      refine zWP_run gX4_begin 80 [2] ?_
      refine zBrT (by simp only [rI]; omega) (by omega) ?_
      exact ⟨rfl, f, fun s s0 s1 => hf s s0 (by omega), rfl⟩
    | succ k ih =>
      intro i f g0 hf hk
      refine zWP_run gX4_begin 80 [2] ?_
      refine zBrF (by simp only [rI]; omega) (by omega) ?_
      refine zBr (by simp only [rI]; omega) (fun c => ?_) (fun c => ?_)
      · refine mVc_i (by omega) ?_
        exact ih (i + 1) (va_up f i.toNat 1) (by omega) (fun s s0 s1 => by
          by_cases e : s = i
          · rw [e, va_up_s, r0, if_pos c]
          · rw [va_up_o _ _ (by omega)]; exact hf s s0 (by omega)) (by omega)
      · refine mVc_i (by omega) ?_
        exact ih (i + 1) (va_up f i.toNat 0) (by omega) (fun s s0 s1 => by
          by_cases e : s = i
          · rw [e, va_up_s, r0, if_neg c]
          · rw [va_up_o _ _ (by omega)]; exact hf s s0 (by omega)) (by omega)
  refine zEv_run gX4_begin 40 [2] rfl ?_
  exact lp 31 0 (S.2.1 5) (by omega) (fun s s0 s1 => by omega) (by omega)
set_option maxHeartbeats 1000000 in
set_option maxRecDepth 100000 in
theorem obeg6  : zEv X 1 mX4_begin [zR 12] (cX S ++ t) (fun o9 h9 => o9 = .inl none ∧ ∃ f : Nat → Int, (∀ s : Int, 0 ≤ s → s < 31 → f s.toNat = r0 s) ∧ h9 = cX (sA S 6 f) ++ t) := by
  have lp : ∀ (k : Nat) (i : Int) (f : Nat → Int), 0 ≤ i → (∀ s : Int, 0 ≤ s → s < i → f s.toNat = r0 s) → i + k = 31 → zWP X mX4_begin 1 (fun o9 h9 => o9 = .inl none ∧ ∃ f : Nat → Int, (∀ s : Int, 0 ≤ s → s < 31 → f s.toNat = r0 s) ∧ h9 = cX (sA S 6 f) ++ t) 2 [some (zR 12), some (zI i)] [] (cX (sA S 6 f) ++ t) 0 0 := by
    intro k
    induction k with
    | zero =>
      intro i f g0 hf hk
      refine zWP_run gX4_begin 80 [2] ?_
      refine zBrT (by simp only [rI]; omega) (by omega) ?_
      exact ⟨rfl, f, fun s s0 s1 => hf s s0 (by omega), rfl⟩
    | succ k ih =>
      intro i f g0 hf hk
      refine zWP_run gX4_begin 80 [2] ?_
      refine zBrF (by simp only [rI]; omega) (by omega) ?_
      refine zBr (by simp only [rI]; omega) (fun c => ?_) (fun c => ?_)
      · refine mVc_i (by omega) ?_
        exact ih (i + 1) (va_up f i.toNat 1) (by omega) (fun s s0 s1 => by
          by_cases e : s = i
          · rw [e, va_up_s, r0, if_pos c]
          · rw [va_up_o _ _ (by omega)]; exact hf s s0 (by omega)) (by omega)
      · refine mVc_i (by omega) ?_
        exact ih (i + 1) (va_up f i.toNat 0) (by omega) (fun s s0 s1 => by
          by_cases e : s = i
          · rw [e, va_up_s, r0, if_neg c]
          · rw [va_up_o _ _ (by omega)]; exact hf s s0 (by omega)) (by omega)
  refine zEv_run gX4_begin 40 [2] rfl ?_
  exact lp 31 0 (S.2.1 6) (by omega) (fun s s0 s1 => by omega) (by omega)
set_option maxHeartbeats 1000000 in
set_option maxRecDepth 100000 in
theorem obeg7  : zEv X 1 mX4_begin [zR 13] (cX S ++ t) (fun o9 h9 => o9 = .inl none ∧ ∃ f : Nat → Int, (∀ s : Int, 0 ≤ s → s < 64 → f s.toNat = r0 s) ∧ h9 = cX (sA S 7 f) ++ t) := by
  have lp : ∀ (k : Nat) (i : Int) (f : Nat → Int), 0 ≤ i → (∀ s : Int, 0 ≤ s → s < i → f s.toNat = r0 s) → i + k = 64 → zWP X mX4_begin 1 (fun o9 h9 => o9 = .inl none ∧ ∃ f : Nat → Int, (∀ s : Int, 0 ≤ s → s < 64 → f s.toNat = r0 s) ∧ h9 = cX (sA S 7 f) ++ t) 2 [some (zR 13), some (zI i)] [] (cX (sA S 7 f) ++ t) 0 0 := by
    intro k
    induction k with
    | zero =>
      intro i f g0 hf hk
      refine zWP_run gX4_begin 80 [2] ?_
      refine zBrT (by simp only [rI]; omega) (by omega) ?_
      exact ⟨rfl, f, fun s s0 s1 => hf s s0 (by omega), rfl⟩
    | succ k ih =>
      intro i f g0 hf hk
      refine zWP_run gX4_begin 80 [2] ?_
      refine zBrF (by simp only [rI]; omega) (by omega) ?_
      refine zBr (by simp only [rI]; omega) (fun c => ?_) (fun c => ?_)
      · refine mVc_i (by omega) ?_
        exact ih (i + 1) (va_up f i.toNat 1) (by omega) (fun s s0 s1 => by
          by_cases e : s = i
          · rw [e, va_up_s, r0, if_pos c]
          · rw [va_up_o _ _ (by omega)]; exact hf s s0 (by omega)) (by omega)
      · refine mVc_i (by omega) ?_
        exact ih (i + 1) (va_up f i.toNat 0) (by omega) (fun s s0 s1 => by
          by_cases e : s = i
          · rw [e, va_up_s, r0, if_neg c]
          · rw [va_up_o _ _ (by omega)]; exact hf s s0 (by omega)) (by omega)
  refine zEv_run gX4_begin 40 [2] rfl ?_
  exact lp 64 0 (S.2.1 7) (by omega) (fun s s0 s1 => by omega) (by omega)
set_option maxHeartbeats 1000000 in
set_option maxRecDepth 100000 in
theorem oadd5 (hv : vX S v) {x : Int} {r : Int → Int} (hx : 0 ≤ x ∧ x < v.1 1) (hr : ∀ s : Int, 0 ≤ s → s < 31 → S.2.1 5 s.toNat = r s) : zEv X 2 mX4_addToSums [zR 10, zR 11, zI x] (cX S ++ t) (fun o9 h9 => o9 = .inl none ∧ ∃ f : Nat → Int, (∀ s : Int, 0 ≤ s → s < 31 → f s.toNat = aS (v.2.1.1 x) r s) ∧ h9 = cX (sA S 5 f) ++ t) := by
  have h4 := hv.1.2.2.2.2.1
  have e4 : S.1 16 = v.1 4 := hv.2.2.2.2.2.1
  have h1 := hv.1.2.1
  have e1 : S.1 13 = v.1 1 := hv.2.2.1
  have h2 := hv.1.2.2.1
  have e2 : S.1 14 = v.1 2 := hv.2.2.2.1
  have l1 : ∀ (k : Nat) (s : Int) (f : Nat → Int), s + 1 = k → s < 31 → (∀ j : Int, s < j → j < 31 → f j.toNat = aS (v.2.1.1 x) r j) → (∀ j : Int, 0 ≤ j → j ≤ s → f j.toNat = r j) → zWP X mX4_addToSums 2 (fun o9 h9 => o9 = .inl none ∧ ∃ f : Nat → Int, (∀ s : Int, 0 ≤ s → s < 31 → f s.toNat = aS (v.2.1.1 x) r s) ∧ h9 = cX (sA S 5 f) ++ t) 5 [some (zR 10), some (zR 11), some (zI x), some (zI s), none, none, none] [] (cX (sA S 5 f) ++ t) 0 0 := by
    intro k
    induction k with
    | zero =>
      intro s f hk s1 hf hr2
      refine zWP_run gX4_addToSums 80 [5] ?_
      refine zBrT (by simp only [rI]; omega) (by omega) ?_
      exact ⟨rfl, f, fun j j0 j1 => hf j (by omega) j1, rfl⟩
    | succ k ih =>
      intro s f hk s1 hf hr2
      have hv2 : vX (sA S 5 f) v := hv
      have l2 : ∀ (k : Nat) (i : Int), 0 ≤ i → i + k = min 6 s → zWP X mX4_addToSums 2 (fun o9 h9 => o9 = .inl none ∧ ∃ f : Nat → Int, (∀ s : Int, 0 ≤ s → s < 31 → f s.toNat = aS (v.2.1.1 x) r s) ∧ h9 = cX (sA S 5 f) ++ t) 15 [some (zR 10), some (zR 11), some (zI x), some (zI s), some (zJ (zSum (fun i => v.2.1.1 x (i + 1) * r (s - (i + 1))) i)), none, some (zI (i + 1))] [] (cX (sA S 5 f) ++ t) 0 0 := by
        intro k2
        induction k2 with
        | zero =>
          intro i i0 hk2
          have k3 := ih (s - 1) (va_up f s.toNat (aS (v.2.1.1 x) r s)) (by omega) (by omega) (fun j j0 j1 => by
            by_cases e : j = s
            · rw [e, va_up_s]
            · rw [va_up_o _ _ (by omega)]; exact hf j (by omega) j1) (fun j j0 j1 => by
              rw [va_up_o _ _ (by omega)]; exact hr2 j j0 (by omega))
          rw [aS, ← show i = min 6 s by omega] at k3
          refine zWP_run gX4_addToSums 80 [5, 15] ?_
          by_cases c : 6 ≤ i
          · refine zBrT (by simp only [rI]; omega) (by omega) ?_
            refine mVc_i (by omega) ?_
            exact zWP_fg k3 (by repeat (first | exact trivial | refine ⟨rfl, ?_⟩))
          · refine zBrF (by simp only [rI]; omega) (by omega) ?_
            refine zBrT (by simp only [rI]; omega) (by omega) ?_
            refine mVc_i (by omega) ?_
            exact zWP_fg k3 (by repeat (first | exact trivial | refine ⟨rfl, ?_⟩))
        | succ k2 ih2 =>
          intro i i0 hk2
          have hw := gbd hv x (i + 1)
          refine zWP_run gX4_addToSums 80 [5, 15] ?_
          refine zBrF (by simp only [rI]; omega) (by omega) ?_
          refine zBrF (by simp only [rI]; omega) (by omega) ?_
          refine zCl_e (gw hv2 hx.1 hx.2 (by omega) (by omega)) (by decide) ?_
          refine mVc_i (by simp only [rI]; omega) ?_
          refine mVc_i (by omega) ?_
          have k3 := ih2 (i + 1) (by omega) (by omega)
          rw [zSum_s i0, ← hr2 (s - (i + 1)) (by omega) (by omega)] at k3
          exact k3
      refine zWP_run gX4_addToSums 80 [5, 15] ?_
      refine zBrF (by simp only [rI]; omega) (by omega) ?_
      exact l2 (min 6 s).toNat 0 (by omega) (by omega)
  refine zEv_run gX4_addToSums 40 [5] rfl ?_
  exact l1 31 30 (S.2.1 5) (by omega) (by omega) (fun j j0 j1 => by omega) (fun j j0 j1 => hr j j0 (by omega))
set_option maxHeartbeats 1000000 in
set_option maxRecDepth 100000 in
theorem oadd6 (hv : vX S v) {x : Int} {r : Int → Int} (hx : 0 ≤ x ∧ x < v.1 1) (hr : ∀ s : Int, 0 ≤ s → s < 31 → S.2.1 6 s.toNat = r s) : zEv X 2 mX4_addToSums [zR 10, zR 12, zI x] (cX S ++ t) (fun o9 h9 => o9 = .inl none ∧ ∃ f : Nat → Int, (∀ s : Int, 0 ≤ s → s < 31 → f s.toNat = aS (v.2.1.1 x) r s) ∧ h9 = cX (sA S 6 f) ++ t) := by
  have h4 := hv.1.2.2.2.2.1
  have e4 : S.1 16 = v.1 4 := hv.2.2.2.2.2.1
  have h1 := hv.1.2.1
  have e1 : S.1 13 = v.1 1 := hv.2.2.1
  have h2 := hv.1.2.2.1
  have e2 : S.1 14 = v.1 2 := hv.2.2.2.1
  have l1 : ∀ (k : Nat) (s : Int) (f : Nat → Int), s + 1 = k → s < 31 → (∀ j : Int, s < j → j < 31 → f j.toNat = aS (v.2.1.1 x) r j) → (∀ j : Int, 0 ≤ j → j ≤ s → f j.toNat = r j) → zWP X mX4_addToSums 2 (fun o9 h9 => o9 = .inl none ∧ ∃ f : Nat → Int, (∀ s : Int, 0 ≤ s → s < 31 → f s.toNat = aS (v.2.1.1 x) r s) ∧ h9 = cX (sA S 6 f) ++ t) 5 [some (zR 10), some (zR 12), some (zI x), some (zI s), none, none, none] [] (cX (sA S 6 f) ++ t) 0 0 := by
    intro k
    induction k with
    | zero =>
      intro s f hk s1 hf hr2
      refine zWP_run gX4_addToSums 80 [5] ?_
      refine zBrT (by simp only [rI]; omega) (by omega) ?_
      exact ⟨rfl, f, fun j j0 j1 => hf j (by omega) j1, rfl⟩
    | succ k ih =>
      intro s f hk s1 hf hr2
      have hv2 : vX (sA S 6 f) v := hv
      have l2 : ∀ (k : Nat) (i : Int), 0 ≤ i → i + k = min 6 s → zWP X mX4_addToSums 2 (fun o9 h9 => o9 = .inl none ∧ ∃ f : Nat → Int, (∀ s : Int, 0 ≤ s → s < 31 → f s.toNat = aS (v.2.1.1 x) r s) ∧ h9 = cX (sA S 6 f) ++ t) 15 [some (zR 10), some (zR 12), some (zI x), some (zI s), some (zJ (zSum (fun i => v.2.1.1 x (i + 1) * r (s - (i + 1))) i)), none, some (zI (i + 1))] [] (cX (sA S 6 f) ++ t) 0 0 := by
        intro k2
        induction k2 with
        | zero =>
          intro i i0 hk2
          have k3 := ih (s - 1) (va_up f s.toNat (aS (v.2.1.1 x) r s)) (by omega) (by omega) (fun j j0 j1 => by
            by_cases e : j = s
            · rw [e, va_up_s]
            · rw [va_up_o _ _ (by omega)]; exact hf j (by omega) j1) (fun j j0 j1 => by
              rw [va_up_o _ _ (by omega)]; exact hr2 j j0 (by omega))
          rw [aS, ← show i = min 6 s by omega] at k3
          refine zWP_run gX4_addToSums 80 [5, 15] ?_
          by_cases c : 6 ≤ i
          · refine zBrT (by simp only [rI]; omega) (by omega) ?_
            refine mVc_i (by omega) ?_
            exact zWP_fg k3 (by repeat (first | exact trivial | refine ⟨rfl, ?_⟩))
          · refine zBrF (by simp only [rI]; omega) (by omega) ?_
            refine zBrT (by simp only [rI]; omega) (by omega) ?_
            refine mVc_i (by omega) ?_
            exact zWP_fg k3 (by repeat (first | exact trivial | refine ⟨rfl, ?_⟩))
        | succ k2 ih2 =>
          intro i i0 hk2
          have hw := gbd hv x (i + 1)
          refine zWP_run gX4_addToSums 80 [5, 15] ?_
          refine zBrF (by simp only [rI]; omega) (by omega) ?_
          refine zBrF (by simp only [rI]; omega) (by omega) ?_
          refine zCl_e (gw hv2 hx.1 hx.2 (by omega) (by omega)) (by decide) ?_
          refine mVc_i (by simp only [rI]; omega) ?_
          refine mVc_i (by omega) ?_
          have k3 := ih2 (i + 1) (by omega) (by omega)
          rw [zSum_s i0, ← hr2 (s - (i + 1)) (by omega) (by omega)] at k3
          exact k3
      refine zWP_run gX4_addToSums 80 [5, 15] ?_
      refine zBrF (by simp only [rI]; omega) (by omega) ?_
      exact l2 (min 6 s).toNat 0 (by omega) (by omega)
  refine zEv_run gX4_addToSums 40 [5] rfl ?_
  exact l1 31 30 (S.2.1 6) (by omega) (by omega) (fun j j0 j1 => by omega) (fun j j0 j1 => hr j j0 (by omega))
set_option maxHeartbeats 1000000 in
set_option maxRecDepth 100000 in
theorem ocs (hv : vX S v) {c : Int} (hc : 0 ≤ c ∧ c < 32) : zEv X 3 mX4_countSums [zR 10, zI c] (cX S ++ t) (fun o9 h9 => o9 = .inl none ∧ ∃ f : Nat → Int, (∀ s : Int, 0 ≤ s → s < 31 → f s.toNat = vSm v c (v.1 1) s) ∧ h9 = cX (sA S 5 f) ++ t) := by
  have h4 := hv.1.2.2.2.2.1
  have e4 : S.1 16 = v.1 4 := hv.2.2.2.2.2.1
  have h1 := hv.1.2.1
  have e1 : S.1 13 = v.1 1 := hv.2.2.1
  have h2 := hv.1.2.2.1
  have e2 : S.1 14 = v.1 2 := hv.2.2.2.1
  have lp : ∀ (k : Nat) (d : Int) (f : Nat → Int), 0 ≤ d → (∀ s : Int, 0 ≤ s → s < 31 → f s.toNat = vSm v c d s) → d + k = v.1 1 → zWP X mX4_countSums 3 (fun o9 h9 => o9 = .inl none ∧ ∃ f : Nat → Int, (∀ s : Int, 0 ≤ s → s < 31 → f s.toNat = vSm v c (v.1 1) s) ∧ h9 = cX (sA S 5 f) ++ t) 9 [some (zR 10), some (zI c), some (zI d)] [] (cX (sA S 5 f) ++ t) 0 0 := by
    intro k
    induction k with
    | zero =>
      intro d f g0 hf hk
      refine zWP_run gX4_countSums 80 [9] ?_
      have e13 : (sA S 5 f).1 13 = v.1 1 := e1
      refine zBrT (by simp only [rI]; omega) (by omega) ?_
      exact ⟨rfl, f, by rw [← show d = v.1 1 by omega]; exact hf, rfl⟩
    | succ k ih =>
      intro d f g0 hf hk
      refine zWP_run gX4_countSums 80 [9] ?_
      have e13 : (sA S 5 f).1 13 = v.1 1 := e1
      refine zBrF (by simp only [rI]; omega) (by omega) ?_
      have hv2 : vX (sA S 5 f) v := hv
      have hb := bit_01 c d
      refine zCl_e (oin hc ⟨g0, by omega⟩) (by decide) ?_
      refine zBr (by simp only [rI]; omega) (fun c1 => ?_) (fun c1 => ?_)
      · exact ih (d + 1) f (by omega) (by rw [vSm_s v c g0, if_neg (by omega)]; exact hf) (by omega)
      · refine zCl_i (oadd5 (S := sA S 5 f) (t := t) hv2 ⟨g0, by omega⟩ hf) (by decide) ?_
        intro o9 h9 q9
        obtain ⟨rfl, f2, hf2, rfl⟩ := q9
        exact ih (d + 1) f2 (by omega) (by rw [vSm_s v c g0, if_pos (by omega)]; exact hf2) (by omega)
  refine zEv_run gX4_countSums 40 [9] rfl ?_
  refine zCl_i (obeg5) (by decide) ?_
  intro o9 h9 q9
  obtain ⟨rfl, f, hf, rfl⟩ := q9
  exact lp (v.1 1).toNat 0 f (by omega) hf (by omega)
def vTw (w : Int → Int) (n : Int) : Int → Int := zIt (fun _ r => aS w r) r0 n
theorem vTw_s (w : Int → Int) {n : Int} (h : 0 ≤ n) : vTw w (n + 1) = aS w (vTw w n) := zIt_s _ _ h
set_option maxHeartbeats 1000000 in
set_option maxRecDepth 100000 in
theorem oct5 (hv : vX S v) {x n : Int} (hx : 0 ≤ x ∧ x < v.1 1) (hn : 0 ≤ n ∧ n ≤ 8) : zEv X 3 mX4_countThrows [zR 10, zR 11, zI x, zI n] (cX S ++ t) (fun o9 h9 => o9 = .inl none ∧ ∃ f : Nat → Int, (∀ s : Int, 0 ≤ s → s < 31 → f s.toNat = vTw (v.2.1.1 x) n s) ∧ h9 = cX (sA S 5 f) ++ t) := by
  have h4 := hv.1.2.2.2.2.1
  have e4 : S.1 16 = v.1 4 := hv.2.2.2.2.2.1
  have h1 := hv.1.2.1
  have e1 : S.1 13 = v.1 1 := hv.2.2.1
  have h2 := hv.1.2.2.1
  have e2 : S.1 14 = v.1 2 := hv.2.2.2.1
  have lp : ∀ (k : Nat) (i : Int) (f : Nat → Int), 0 ≤ i → (∀ s : Int, 0 ≤ s → s < 31 → f s.toNat = vTw (v.2.1.1 x) i s) → i + k = n → zWP X mX4_countThrows 3 (fun o9 h9 => o9 = .inl none ∧ ∃ f : Nat → Int, (∀ s : Int, 0 ≤ s → s < 31 → f s.toNat = vTw (v.2.1.1 x) n s) ∧ h9 = cX (sA S 5 f) ++ t) 7 [some (zR 10), some (zR 11), some (zI x), some (zI n), some (zI i)] [] (cX (sA S 5 f) ++ t) 0 0 := by
    intro k
    induction k with
    | zero =>
      intro i f g0 hf hk
      refine zWP_run gX4_countThrows 80 [7] ?_
      refine zBrT (by simp only [rI]; omega) (by omega) ?_
      exact ⟨rfl, f, by rw [← show i = n by omega]; exact hf, rfl⟩
    | succ k ih =>
      intro i f g0 hf hk
      refine zWP_run gX4_countThrows 80 [7] ?_
      refine zBrF (by simp only [rI]; omega) (by omega) ?_
      have hv2 : vX (sA S 5 f) v := hv
      refine zCl_i (oadd5 (S := sA S 5 f) (t := t) hv2 hx hf) (by decide) ?_
      intro o9 h9 q9
      obtain ⟨rfl, f2, hf2, rfl⟩ := q9
      exact ih (i + 1) f2 (by omega) (by rw [vTw_s _ g0]; exact hf2) (by omega)
  refine zEv_run gX4_countThrows 40 [7] rfl ?_
  refine zCl_i (obeg5) (by decide) ?_
  intro o9 h9 q9
  obtain ⟨rfl, f, hf, rfl⟩ := q9
  exact lp n.toNat 0 f (by omega) hf (by omega)
set_option maxHeartbeats 1000000 in
set_option maxRecDepth 100000 in
theorem oct6 (hv : vX S v) {x n : Int} (hx : 0 ≤ x ∧ x < v.1 1) (hn : 0 ≤ n ∧ n ≤ 8) : zEv X 3 mX4_countThrows [zR 10, zR 12, zI x, zI n] (cX S ++ t) (fun o9 h9 => o9 = .inl none ∧ ∃ f : Nat → Int, (∀ s : Int, 0 ≤ s → s < 31 → f s.toNat = vTw (v.2.1.1 x) n s) ∧ h9 = cX (sA S 6 f) ++ t) := by
  have h4 := hv.1.2.2.2.2.1
  have e4 : S.1 16 = v.1 4 := hv.2.2.2.2.2.1
  have h1 := hv.1.2.1
  have e1 : S.1 13 = v.1 1 := hv.2.2.1
  have h2 := hv.1.2.2.1
  have e2 : S.1 14 = v.1 2 := hv.2.2.2.1
  have lp : ∀ (k : Nat) (i : Int) (f : Nat → Int), 0 ≤ i → (∀ s : Int, 0 ≤ s → s < 31 → f s.toNat = vTw (v.2.1.1 x) i s) → i + k = n → zWP X mX4_countThrows 3 (fun o9 h9 => o9 = .inl none ∧ ∃ f : Nat → Int, (∀ s : Int, 0 ≤ s → s < 31 → f s.toNat = vTw (v.2.1.1 x) n s) ∧ h9 = cX (sA S 6 f) ++ t) 7 [some (zR 10), some (zR 12), some (zI x), some (zI n), some (zI i)] [] (cX (sA S 6 f) ++ t) 0 0 := by
    intro k
    induction k with
    | zero =>
      intro i f g0 hf hk
      refine zWP_run gX4_countThrows 80 [7] ?_
      refine zBrT (by simp only [rI]; omega) (by omega) ?_
      exact ⟨rfl, f, by rw [← show i = n by omega]; exact hf, rfl⟩
    | succ k ih =>
      intro i f g0 hf hk
      refine zWP_run gX4_countThrows 80 [7] ?_
      refine zBrF (by simp only [rI]; omega) (by omega) ?_
      have hv2 : vX (sA S 6 f) v := hv
      refine zCl_i (oadd6 (S := sA S 6 f) (t := t) hv2 hx hf) (by decide) ?_
      intro o9 h9 q9
      obtain ⟨rfl, f2, hf2, rfl⟩ := q9
      exact ih (i + 1) f2 (by omega) (by rw [vTw_s _ g0]; exact hf2) (by omega)
  refine zEv_run gX4_countThrows 40 [7] rfl ?_
  refine zCl_i (obeg6) (by decide) ?_
  intro o9 h9 q9
  obtain ⟨rfl, f, hf, rfl⟩ := q9
  exact lp n.toNat 0 f (by omega) hf (by omega)
end Odds
