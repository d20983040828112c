/-! the reference: rain, lots -/
theorem vR1_salt {n d : Int} {x : Int × vV} (h : x.2.2.1.2.1 d = 1) {i : Int} (h0 : 0 ≤ i) : vR1 n d i x = x :=
  zIt_i _ _ (fun _ y => y = x) rfl (fun f y _ hy => by
    subst hy
    rw [if_pos h, vWr, if_pos h, Int.add_zero]) h0
theorem vR1_1 (n d : Int) (x : Int × vV) {i : Int} (h0 : 0 ≤ i) : (vR1 n d i x).2.1 = x.2.1 ∧ (vR1 n d i x).2.2.1.2 = x.2.2.1.2 :=
  zIt_i _ _ (fun _ (y : Int × vV) => y.2.1 = x.2.1 ∧ y.2.2.1.2 = x.2.2.1.2) ⟨rfl, rfl⟩ (fun f y _ hy => by
    refine ⟨?_, ?_⟩
    · show (vWr y.2 d (f + 1) n).1 = _
      rw [vWr_num]; exact hy.1
    · show (vWr y.2 d (f + 1) n).2.1.2 = _
      rw [vWr_ht]; exact hy.2) h0
theorem vR0_1 (v : vV) (n : Int) {i : Int} (h0 : 0 ≤ i) : (vR0 v n i).2.1 = v.1 :=
  zIt_i _ _ (fun _ (y : Int × vV) => y.2.1 = v.1) rfl (fun d y _ hy => by rw [(vR1_1 n d y (by omega)).1]; exact hy) h0
section Mdl4
variable {X : mX} {S : sS} {K : kK} {t : zH} {v : vV}
set_option maxHeartbeats 1000000 in
set_option maxRecDepth 100000 in
theorem kRain (hk : kVn (K.2 0) v (v.1 4)) {n : Int} (hn : rI n) : zEv X 10 mX10_rain [zR 29, zI n] (cX S ++ (cM K ++ t)) (kTp S K t (kcd [0]) (pRain v n)) := by
  unfold pRain
  have b1 := hk.1.2.1
  have b2 := hk.1.2.2.1
  have b4 := hk.1.2.2.2.2.1
  have hn1 := hn.1
  have hn2 := hn.2
  by_cases c1 : 1 ≤ n ∧ n ≤ 20
  · rw [if_pos c1]
    have inner : ∀ (k : Nat) (d f : Int) (R : kK), 0 ≤ d ∧ d < v.1 1 → 0 ≤ f → f + k = 6 → ¬ (vR0 v n d).2.2.1.2.1 d = 1 → kF K R → R.1 0 = 0 → kV (R.2 0) (vR1 n d f (vR0 v n d)).2 → (0 ≤ (vR1 n d f (vR0 v n d)).1 ∧ (vR1 n d f (vR0 v n d)).1 ≤ 20 * (6 * d + f)) → (∀ R2 : kK, kF K R2 → R2.1 0 = 0 → kV (R2.2 0) (vR0 v n (d + 1)).2 → (0 ≤ (vR0 v n (d + 1)).1 ∧ (vR0 v n (d + 1)).1 ≤ 20 * (6 * (d + 1))) → zWP X mX10_rain 10 (kTp S K t (kcd [0]) (.inl ((vR0 v n (v.1 1)).1), (vR0 v n (v.1 1)).2)) 27 [some (zR 29), some (zI n), some (zI (vR0 v n (d + 1)).1), some (zI (d + 1)), none, none] [] (cX S ++ (cM R2 ++ t)) 0 0) → zWP X mX10_rain 10 (kTp S K t (kcd [0]) (.inl ((vR0 v n (v.1 1)).1), (vR0 v n (v.1 1)).2)) 38 [some (zR 29), some (zI n), some (zI (vR1 n d f (vR0 v n d)).1), some (zI d), some (zI f), none] [] (cX S ++ (cM R ++ t)) 0 0 := by
      intro k
      induction k with
      | zero =>
        intro d f R hd f0 hk0 hs hf h0 hr hb kk
        refine zWP_run gX10_rain 80 [27, 38] ?_
        refine zBrT (by first | (simp only [rI]; omega) | (simp only [rL]; omega)) (by omega) ?_
        have e : (vR1 n d f (vR0 v n d)) = vR0 v n (d + 1) := by rw [vR0_s v n hd.1, show f = 6 by omega]
        rw [e] at hr hb ⊢
        exact zWP_fg (kk R hf h0 hr (by omega)) (by repeat (first | exact trivial | refine ⟨rfl, ?_⟩))
      | succ k ih =>
        intro d f R hd f0 hk0 hs hf h0 hr hb kk
        have e1 := (vR1_1 n d (vR0 v n d) f0).1
        have e2 := (vR1_1 n d (vR0 v n d) f0).2
        have e3 := vR0_1 v n hd.1
        have hd2 : 0 ≤ d ∧ d < (vR1 n d f (vR0 v n d)).2.1 1 := by rw [e1, e3]; exact hd
        have hs2 : ¬ (vR1 n d f (vR0 v n d)).2.2.1.2.1 d = 1 := by rw [e2]; exact hs
        have hw := hr.1.2.2.2.2.2.1.1 d (f + 1)
        have ew := hr.2.2.1.1 d (f + 1) hd.1 (by omega) (by omega) (by omega)
        rw [Nat.zero_add, show (5 + 7 * d + (f + 1) - 1).toNat = (5 + 7 * d + f).toNat by omega] at ew
        have es := vR1_s n d (vR0 v n d) f0
        rw [if_neg hs2, vWr, if_neg hs2] at es
        refine zWP_run gX10_rain 80 [27, 38] ?_
        refine zBrF (by first | (simp only [rI]; omega) | (simp only [rL]; omega)) (by omega) ?_
        refine zCl_e (ksa hr hd2) (by decide) ?_
        refine zBb (P := (vR1 n d f (vR0 v n d)).2.2.1.2.1 d = 1) (fun c => ?_) (fun c => absurd c hs2)
        refine mVc_i (by omega) ?_
        refine mVc_i (by show rI n ∧ rI (R.2 0 (5 + 7 * d + f).toNat); simp only [rI]; omega) ?_
        refine mVc_i (by omega) ?_
        refine mVc_i (by omega) ?_
        have em : min n (R.2 0 (5 + 7 * d + f).toNat) = min ((vR1 n d f (vR0 v n d)).2.2.1.1 d (f + 1)) n := by rw [ew]; omega
        have hk9 := kV_w hr hd.1 (by omega) (f := f + 1) (by omega) (by omega) (z := (vR1 n d f (vR0 v n d)).2.2.1.1 d (f + 1) - min ((vR1 n d f (vR0 v n d)).2.2.1.1 d (f + 1)) n) (by omega)
        rw [show (5 + 7 * d + (f + 1) - 1).toNat = (5 + 7 * d + f).toNat by omega] at hk9
        have k9 := ih d (f + 1) (kA R 0 (va_up (R.2 0) (5 + 7 * d + f).toNat (R.2 0 (5 + 7 * d + f).toNat - min n (R.2 0 (5 + 7 * d + f).toNat)))) hd (by omega) (by omega) hs (kF_t hf (kF_A _ _ (by omega))) h0 (by rw [es, em, ew]; exact hk9) (by rw [es]; show 0 ≤ (vR1 n d f (vR0 v n d)).1 + min ((vR1 n d f (vR0 v n d)).2.2.1.1 d (f + 1)) n ∧ (vR1 n d f (vR0 v n d)).1 + min ((vR1 n d f (vR0 v n d)).2.2.1.1 d (f + 1)) n ≤ 20 * (6 * d + (f + 1)); omega) kk
        have e5 : (vR1 n d (f + 1) (vR0 v n d)).1 = (vR1 n d f (vR0 v n d)).1 + min n (R.2 0 (5 + 7 * d + f).toNat) := by rw [es, em]
        rw [e5] at k9
        exact zWP_fg k9 (by repeat (first | exact trivial | refine ⟨rfl, ?_⟩))
    have outer : ∀ (k : Nat) (d : Int) (R : kK), 0 ≤ d → d + k = v.1 1 → kF K R → R.1 0 = 0 → kV (R.2 0) (vR0 v n d).2 → (0 ≤ (vR0 v n d).1 ∧ (vR0 v n d).1 ≤ 20 * (6 * d)) → zWP X mX10_rain 10 (kTp S K t (kcd [0]) (.inl ((vR0 v n (v.1 1)).1), (vR0 v n (v.1 1)).2)) 27 [some (zR 29), some (zI n), some (zI (vR0 v n d).1), some (zI d), none, none] [] (cX S ++ (cM R ++ t)) 0 0 := by
      intro k
      induction k with
      | zero =>
        intro d R d0 hk0 hf h0 hr hb
        have e3 := vR0_1 v n d0
        have e4 : d = v.1 1 := by omega
        refine zWP_run gX10_rain 80 [27, 38] ?_
        refine zCl_e (kdi hr) (by decide) ?_
        rw [e3]
        refine zBrT (by first | (simp only [rI]; omega) | (simp only [rL]; omega)) (by omega) ?_
        refine ⟨_, R, rfl, rfl, hf, ?_, ?_, h0⟩
        · rw [← e4]; exact hr
        · rw [← e4]
      | succ k ih =>
        intro d R d0 hk0 hf h0 hr hb
        have e3 := vR0_1 v n d0
        refine zWP_run gX10_rain 80 [27, 38] ?_
        refine zCl_e (kdi hr) (by decide) ?_
        rw [e3]
        refine zBrF (by first | (simp only [rI]; omega) | (simp only [rL]; omega)) (by omega) ?_
        by_cases cs : (vR0 v n d).2.2.1.2.1 d = 1
        · have e5 : vR0 v n (d + 1) = vR0 v n d := by rw [vR0_s v n d0, vR1_salt cs (by omega)]
          refine zWP_run gX10_rain 80 [27] ?_
          refine zBrF (by first | (simp only [rI]; omega) | (simp only [rL]; omega)) (by omega) ?_
          refine zCl_e (ksa hr (by rw [e3]; omega)) (by decide) ?_
          refine zBb (P := (vR0 v n d).2.2.1.2.1 d = 1) (fun c => absurd cs c) (fun c => ?_)
          have k9 := ih (d + 1) R (by omega) (by omega) hf h0 (by rw [e5]; exact hr) (by rw [e5]; omega)
          rw [e5] at k9
          exact zWP_fg k9 (by repeat (first | exact trivial | refine ⟨rfl, ?_⟩))
        · exact inner 6 d 0 R ⟨d0, by omega⟩ (by omega) (by omega) cs hf h0 hr (by show 0 ≤ (vR0 v n d).1 ∧ (vR0 v n d).1 ≤ 20 * (6 * d + 0); omega) (fun R2 f2 h02 hr2 hb2 => ih (d + 1) R2 (by omega) (by omega) f2 h02 hr2 hb2)
    refine zEv_run gX10_rain 80 [27, 38] rfl ?_
    refine mVc_i (by first | omega | (simp only [rI]; omega) | (simp only [rL]; omega)) ?_
    refine zCl_e (kwi_t (by simp only [rL]; omega) (by simp only [rL]; omega) (by simp only [rL]; omega) (by omega)) (by decide) ?_
    refine zBrF (by first | (simp only [rI]; omega) | (simp only [rL]; omega)) (by omega) ?_
    exact outer (v.1 1).toNat 0 (kI K 0 0) (by omega) (by omega) (kF_t (kF_r K) (kF_I _ _ (by omega))) rfl hk (by show (0:Int) ≤ 0 ∧ (0:Int) ≤ 20 * (6 * 0); omega)
  · rw [if_neg c1]
    refine zEv_run gX10_rain 80 [27, 38] rfl ?_
    refine mVc_i (by first | omega | (simp only [rI]; omega) | (simp only [rL]; omega)) ?_
    refine zCl_e (kwi_f (by simp only [rL]; omega) (by simp only [rL]; omega) (by simp only [rL]; omega) (by omega)) (by decide) ?_
    refine zBrT (by first | (simp only [rI]; omega) | (simp only [rL]; omega)) (by omega) ?_
    refine zCl_e (kfa (K := kI K 0 0)) (by decide) ?_
    exact ⟨0, kI (kI K 0 0) 0 1, rfl, rfl, kF_t (kF_t (kF_r K) (kF_I _ _ (by omega))) (kF_I _ _ (by omega)), hk, rfl⟩
end Mdl4
/-- dice from d on, m of them, that nobody has taken -/
def fC (tk : Int) : Nat → Int → Int
  | 0, _ => 0
  | m + 1, d => (1 - tk / 2 ^ d.toNat % 2) + fC tk m (d + 1)
theorem lf_bit0 : ∀ n : Fin 6, ∀ tk : Fin 32, tk.val < 2 ^ n.val → ∀ d : Fin 5, d.val < n.val → ((2 : Int) ^ n.val - 1 - (tk.val : Int)) / 2 ^ d.val % 2 = 1 - (tk.val : Int) / 2 ^ d.val % 2 := by decide +kernel
theorem lf_and0 : ∀ l : Fin 32, ∀ d : Fin 5, (l.val : Int) / 2 ^ d.val % 2 = 1 → (Int32.ofInt (l.val : Int) &&& Int32.ofInt ((Int32.ofInt ((Int32.ofInt 1 <<< (Int32.ofInt (d.val : Int) &&& 31)).toInt) ^^^ Int32.ofInt (-1)).toInt)).toInt = (l.val : Int) - 2 ^ d.val := by decide +kernel
theorem lf_fC0 : ∀ n : Fin 6, ∀ tk : Fin 32, tk.val < 2 ^ n.val → (0 ≤ fC (tk.val : Int) n.val 0 ∧ ((2 : Int) ^ n.val - 1 - (tk.val : Int) = 0 ↔ fC (tk.val : Int) n.val 0 = 0) ∧ ∀ d : Fin 5, d.val < n.val → (tk.val : Int) / 2 ^ d.val % 2 = 0 → fC ((tk.val : Int) + 2 ^ d.val) n.val 0 = fC (tk.val : Int) n.val 0 - 1 ∧ tk.val + 2 ^ d.val < 2 ^ n.val) := by decide +kernel
theorem lf_bit {n tk d : Int} (hn : 0 ≤ n ∧ n ≤ 5) (ht : 0 ≤ tk ∧ tk < 2 ^ n.toNat) (ht2 : tk < 32) (hd : 0 ≤ d ∧ d < n) : ((2 : Int) ^ n.toNat - 1 - tk) / 2 ^ d.toNat % 2 = 1 - tk / 2 ^ d.toNat % 2 := by
  have h := lf_bit0 ⟨n.toNat, by omega⟩ ⟨tk.toNat, by omega⟩ (by
    have : ((tk.toNat : Nat) : Int) < ((2 ^ n.toNat : Nat) : Int) := by rw [Int.toNat_of_nonneg ht.1, Int.natCast_pow]; exact ht.2
    exact Int.ofNat_lt.mp this) ⟨d.toNat, by omega⟩ (by show d.toNat < n.toNat; omega)
  simp only [Int.toNat_of_nonneg ht.1] at h
  exact h
theorem lf_and {l d : Int} (hl : 0 ≤ l ∧ l < 32) (hd : 0 ≤ d ∧ d < 5) (h1 : l / 2 ^ d.toNat % 2 = 1) : (Int32.ofInt l &&& Int32.ofInt ((Int32.ofInt ((Int32.ofInt 1 <<< (Int32.ofInt d &&& 31)).toInt) ^^^ Int32.ofInt (-1)).toInt)).toInt = l - 2 ^ d.toNat := by
  have h := lf_and0 ⟨l.toNat, by omega⟩ ⟨d.toNat, by omega⟩
  simp only [Int.toNat_of_nonneg hl.1, Int.toNat_of_nonneg hd.1] at h
  exact h h1
theorem lf_fC {n tk : Int} (hn : 0 ≤ n ∧ n ≤ 5) (ht : 0 ≤ tk ∧ tk < 2 ^ n.toNat) (ht2 : tk < 32) : 0 ≤ fC tk n.toNat 0 ∧ ((2 : Int) ^ n.toNat - 1 - tk = 0 ↔ fC tk n.toNat 0 = 0) ∧ ∀ d : Int, 0 ≤ d → d < n → tk / 2 ^ d.toNat % 2 = 0 → fC (tk + 2 ^ d.toNat) n.toNat 0 = fC tk n.toNat 0 - 1 ∧ tk + 2 ^ d.toNat < 2 ^ n.toNat := by
  have h := lf_fC0 ⟨n.toNat, by omega⟩ ⟨tk.toNat, by omega⟩ (by
    have : ((tk.toNat : Nat) : Int) < ((2 ^ n.toNat : Nat) : Int) := by rw [Int.toNat_of_nonneg ht.1, Int.natCast_pow]; exact ht.2
    exact Int.ofNat_lt.mp this)
  simp only [Int.toNat_of_nonneg ht.1] at h
  refine ⟨h.1, h.2.1, fun d d0 d1 hb => ?_⟩
  have h3 := h.2.2 ⟨d.toNat, by omega⟩ (by show d.toNat < n.toNat; omega) hb
  refine ⟨h3.1, ?_⟩
  have h4 : ((tk.toNat + 2 ^ d.toNat : Nat) : Int) < ((2 ^ n.toNat : Nat) : Int) := Int.ofNat_lt.mpr h3.2
  rw [Int.natCast_add, Int.toNat_of_nonneg ht.1, Int.natCast_pow, Int.natCast_pow] at h4
  exact h4
theorem vDl_ne (tk : Int) : ∀ (m : Nat) (d k : Int), 0 ≤ d → 0 ≤ k → k < fC tk m d → vDl tk m d k ≠ -1
  | 0, d, k, d0, k0, h => by
    simp only [fC] at h
    omega
  | m + 1, d, k, d0, k0, h => by
    simp only [fC] at h
    simp only [vDl]
    split
    · rename_i c
      split
      · omega
      · exact vDl_ne tk m (d + 1) (k - 1) (by omega) (by omega) (by omega)
    · rename_i c
      exact vDl_ne tk m (d + 1) k (by omega) (by omega) (by omega)
def vLo (v : vV) (L : Int → Int) : vV := (v.1, (v.2.1.1, v.2.1.2.1, v.2.1.2.2.1, L), v.2.2)
theorem kV_lg {c : Nat → Int} {v : vV} {n : Int} {L M : Int → Int} (h : kVn c (vLo v L) n) (hb : ∀ q, -1 ≤ M q ∧ M q ≤ 4) (e : ∀ q, 0 ≤ q → q < v.1 2 → M q = L q) : kVn c (vLo v M) n := by
  obtain ⟨⟨b0, b1, b2, b3, b4, bs, bh⟩, h2, h3, h4⟩ := h
  exact ⟨⟨b0, b1, b2, b3, b4, ⟨bs.1, bs.2.1, bs.2.2.1, hb⟩, bh⟩, h2, ⟨h3.1, h3.2.1, h3.2.2.1, fun q q0 q1 => by rw [h3.2.2.2 q q0 q1]; exact (e q q0 q1).symm⟩, h4⟩
/-- what a lot leaves: lots alone -/
theorem vLs_lo (v : vV) (n s : Int) {q : Int} (h : 0 ≤ q) : (zIt (vLs n) (s, 0, 0, v) q).2.2.2 = vLo v (zIt (vLs n) (s, 0, 0, v) q).2.2.2.2.1.2.2.2 :=
  zIt_i _ _ (fun _ (x : Int × Int × Int × vV) => x.2.2.2 = vLo v x.2.2.2.2.1.2.2.2) rfl (fun q x _ hx => by
    simp only [vLs]
    have e : ∀ z, (vLt x.2.2.2 q z) = vLo v (vLt x.2.2.2 q z).2.1.2.2.2 := by
      intro z
      rw [hx]
      rfl
    split
    · split
      · exact e _
      · exact e _
    · exact e _) h
/-- nobody is left to be drawn -/
theorem vLs_end {n : Int} (a : Int × Int × Int × vV) {h : Int} (h0 : 0 ≤ h) (hg : ¬ 0 < n - (zIt (vLs n) a h).2.2.1) : ∀ k : Nat, (zIt (vLs n) a (h + k)).2.2.1 = (zIt (vLs n) a h).2.2.1 ∧ ∀ q, (zIt (vLs n) a (h + k)).2.2.2.2.1.2.2.2 q = if h ≤ q ∧ q < h + k then -1 else (zIt (vLs n) a h).2.2.2.2.1.2.2.2 q := by
  intro k
  induction k with
  | zero => 
    refine ⟨by simp only [Int.natCast_zero, Int.add_zero], fun q => ?_⟩
    rw [if_neg (by omega)]
    simp only [Int.natCast_zero, Int.add_zero]
  | succ k ih =>
    have e : h + ((k + 1 : Nat) : Int) = h + k + 1 := by omega
    have e2 : vLs n (h + k) (zIt (vLs n) a (h + k)) = ((zIt (vLs n) a (h + k)).1, (zIt (vLs n) a (h + k)).2.1, (zIt (vLs n) a (h + k)).2.2.1, vLt (zIt (vLs n) a (h + k)).2.2.2 (h + k) (-1)) := by
      rw [vLs, if_neg (by rw [ih.1]; exact hg)]
    rw [e, zIt_s _ _ (by omega), e2]
    refine ⟨ih.1, fun q => ?_⟩
    show (if q = h + k then -1 else (zIt (vLs n) a (h + k)).2.2.2.2.1.2.2.2 q) = _
    by_cases c : q = h + k
    · rw [if_pos c, if_pos (by omega)]
    · rw [if_neg c, ih.2 q]
      by_cases c2 : h ≤ q ∧ q < h + k
      · rw [if_pos c2, if_pos (by omega)]
      · rw [if_neg c2, if_neg (by omega)]
section Mdl5
variable {X : mX} {S : sS} {K : kK} {t : zH} {v : vV}
set_option maxHeartbeats 1000000 in
set_option maxRecDepth 100000 in
theorem kLot (hk : kVn (K.2 0) v (v.1 4)) {z : Int} (hz : rI z) : zEv X 10 mX10_lot [zR 29, zI z] (cX S ++ (cM K ++ t)) (kTp S K t (kcd []) (pLot v z)) := by
  have b1 := hk.1.2.1
  have b2 := hk.1.2.2.1
  have b4 := hk.1.2.2.2.2.1
  have hb : vVb v := hk.1
  have p2 : (2 : Int) ^ (v.1 1).toNat ≤ 32 ∧ 1 ≤ (2 : Int) ^ (v.1 1).toNat := by
    have h : v.1 1 = 0 ∨ v.1 1 = 1 ∨ v.1 1 = 2 ∨ v.1 1 = 3 ∨ v.1 1 = 4 ∨ v.1 1 = 5 := by omega
    rcases h with h | h | h | h | h | h <;> rw [h] <;> decide
  have inner : ∀ (m : Nat) (d y ld tk got h : Int) (R : kK), 0 ≤ d → d + m = v.1 1 → 0 ≤ y → y < fC tk m d → 0 ≤ tk ∧ tk < 2 ^ (v.1 1).toNat → ld = 2 ^ (v.1 1).toNat - 1 - tk → y < 100 → (zWP X mX10_lot 10 (kTp S K t (kcd []) (pLot v z)) 109 [some (zR 29), some (zI z), some (zI ld), some (zI got), some (zI h), none, some (zI (vDl tk m d y))] [] (cX S ++ (cM R ++ t)) 0 0) → zWP X mX10_lot 10 (kTp S K t (kcd []) (pLot v z)) 78 [some (zR 29), some (zI z), some (zI ld), some (zI got), some (zI h), some (zI y), some (zI d)] [] (cX S ++ (cM R ++ t)) 0 0 := by
    intro m
    induction m with
    | zero =>
      intro d y ld tk got h R d0 hk0 y0 y1
      simp only [fC] at y1
      omega
    | succ m ih =>
      intro d y ld tk got h R d0 hk0 y0 y1 ht hl y2 kk
      have e9 := bt_shr (c := ld) (k := d) (by omega) (by omega) d0 (by omega)
      have e8 := lf_bit (n := v.1 1) (tk := tk) (d := d) b1 ht (by omega) ⟨d0, by omega⟩
      rw [← hl] at e8
      simp only [fC] at y1
      have hb2 : 0 ≤ tk / 2 ^ d.toNat % 2 ∧ tk / 2 ^ d.toNat % 2 < 2 := by omega
      have next : ∀ y2 : Int, y2 = y - (1 - tk / 2 ^ d.toNat % 2) → vDl tk (m + 1) d y = vDl tk m (d + 1) y2 → 0 ≤ y2 → zWP X mX10_lot 10 (kTp S K t (kcd []) (pLot v z)) 92 [some (zR 29), some (zI z), some (zI ld), some (zI got), some (zI h), some (zI y), some (zI d)] [] (cX S ++ (cM R ++ t)) 0 0 := by
        intro y2 hy2 hv2 hy0
        refine zWP_run gX10_lot 80 [78] ?_
        have e7 : y - (Int32.ofInt ((Int32.ofInt ld >>> (Int32.ofInt d &&& 31)).toInt) &&& Int32.ofInt 1).toInt = y2 := by rw [e9, e8, hy2]
        rw [hv2] at kk
        have k9 := ih (d + 1) y2 ld tk got h R (by omega) (by omega) hy0 (by omega) ht hl (by omega) kk
        rw [← e7] at k9
        exact k9
      refine zWP_run gX10_lot 80 [92, 109] ?_
      refine zBr ?_ (fun c => ?_) (fun c => ?_)
      · show rI ((Int32.ofInt ((Int32.ofInt ld >>> (Int32.ofInt d &&& 31)).toInt) &&& Int32.ofInt 1).toInt)
        rw [e9, e8]
        simp only [rI]
        omega
      · have c2 : (Int32.ofInt ((Int32.ofInt ld >>> (Int32.ofInt d &&& 31)).toInt) &&& Int32.ofInt 1).toInt = 0 := c
        rw [e9, e8] at c2
        exact next y (by omega) (by simp only [vDl]; rw [if_neg (by omega)]) y0
      · have c2 : ¬ (Int32.ofInt ((Int32.ofInt ld >>> (Int32.ofInt d &&& 31)).toInt) &&& Int32.ofInt 1).toInt = 0 := c
        rw [e9, e8] at c2
        refine zBr (by simp only [rI]; omega) (fun c3 => ?_) (fun c3 => ?_)
        · have e6 : vDl tk (m + 1) d y = d := by
            simp only [vDl]
            rw [if_pos (by omega), if_pos (by omega)]
          rw [e6] at kk
          exact zWP_fg kk (by repeat (first | exact trivial | refine ⟨rfl, ?_⟩))
        · exact next (y - 1) (by omega) (by simp only [vDl]; rw [if_pos (by omega), if_neg (by omega)]) (by omega)
  have main : ∀ (k : Nat) (h : Int) (R : kK), 0 ≤ h → h + k = v.1 2 → kF K R → R.1 0 = 0 → R.1 11 = (zIt (vLs (v.1 1)) (z, 0, 0, v) h).1 → kV (R.2 0) (vLo v (fun q => if q < h then (zIt (vLs (v.1 1)) (z, 0, 0, v) h).2.2.2.2.1.2.2.2 q else -1)) → 0 ≤ (zIt (vLs (v.1 1)) (z, 0, 0, v) h).2.1 ∧ (zIt (vLs (v.1 1)) (z, 0, 0, v) h).2.1 < 2 ^ (v.1 1).toNat → fC (zIt (vLs (v.1 1)) (z, 0, 0, v) h).2.1 (v.1 1).toNat 0 = v.1 1 - (zIt (vLs (v.1 1)) (z, 0, 0, v) h).2.2.1 → 0 ≤ (zIt (vLs (v.1 1)) (z, 0, 0, v) h).2.2.1 → (∀ q, -1 ≤ (zIt (vLs (v.1 1)) (z, 0, 0, v) h).2.2.2.2.1.2.2.2 q ∧ (zIt (vLs (v.1 1)) (z, 0, 0, v) h).2.2.2.2.1.2.2.2 q ≤ 4) → zWP X mX10_lot 10 (kTp S K t (kcd []) (pLot v z)) 50 [some (zR 29), some (zI z), some (zI (2 ^ (v.1 1).toNat - 1 - (zIt (vLs (v.1 1)) (z, 0, 0, v) h).2.1)), some (zI (zIt (vLs (v.1 1)) (z, 0, 0, v) h).2.2.1), some (zI h), none, none] [] (cX S ++ (cM R ++ t)) 0 0 := by
    intro k
    induction k with
    | zero =>
      intro h R h0 hk0 hf r0 r11 hr ht hc hg hL
      have eh : h = v.1 2 := by omega
      refine zWP_run gX10_lot 80 [78] ?_
      refine zCl_e (kha hr) (by decide) ?_
      refine zBrT (by show rI h ∧ rI (v.1 2); simp only [rI]; omega) (by show v.1 2 ≤ h; omega) ?_
      refine ⟨_, R, rfl, rfl, hf, ?_, ?_, r0⟩
      · show kV (R.2 0) (zIt (vLs (v.1 1)) (z, 0, 0, v) (v.1 2)).2.2.2
        rw [← eh, vLs_lo v (v.1 1) z h0]
        exact kV_lg hr hL (fun q q0 q1 => by rw [if_pos (by omega)])
      · show _ = (zIt (vLs (v.1 1)) (z, 0, 0, v) (v.1 2)).2.2.1
        rw [← eh]
    | succ k ih =>
      intro h R h0 hk0 hf r0 r11 hr ht hc hg hL
      have hfc := lf_fC (n := v.1 1) (tk := (zIt (vLs (v.1 1)) (z, 0, 0, v) h).2.1) b1 ht (by omega)
      refine zWP_run gX10_lot 80 [78] ?_
      refine zCl_e (kha hr) (by decide) ?_
      refine zBrF (by show rI h ∧ rI (v.1 2); simp only [rI]; omega) (by show ¬ v.1 2 ≤ h; omega) ?_
      by_cases cl : (2 : Int) ^ (v.1 1).toNat - 1 - (zIt (vLs (v.1 1)) (z, 0, 0, v) h).2.1 = 0
      · refine zBrT (by simp only [rI]; omega) cl ?_
        have cz := hfc.2.1.mp cl
        have ee := vLs_end (n := v.1 1) (z, 0, 0, v) h0 (by omega) (k + 1)
        rw [show h + ((k + 1 : Nat) : Int) = v.1 2 by omega] at ee
        refine ⟨_, R, rfl, rfl, hf, ?_, ?_, r0⟩
        · show kV (R.2 0) (zIt (vLs (v.1 1)) (z, 0, 0, v) (v.1 2)).2.2.2
          rw [vLs_lo v (v.1 1) z b2.1]
          refine kV_lg hr (fun q => ?_) (fun q q0 q1 => ?_)
          · rw [ee.2 q]
            split
            · omega
            · exact hL q
          · rw [ee.2 q]
            by_cases c : q < h
            · rw [if_neg (by omega), if_pos c]
            · rw [if_pos (by omega), if_neg c]
        · show _ = (zIt (vLs (v.1 1)) (z, 0, 0, v) (v.1 2)).2.2.1
          rw [ee.1]
      · refine zBrF (by simp only [rI]; omega) cl ?_
        have hpos : 0 < v.1 1 - (zIt (vLs (v.1 1)) (z, 0, 0, v) h).2.2.1 := by
          have : ¬ fC (zIt (vLs (v.1 1)) (z, 0, 0, v) h).2.1 (v.1 1).toNat 0 = 0 := fun q => cl (hfc.2.1.mpr q)
          omega
        have hw := dW_b (dN (zIt (vLs (v.1 1)) (z, 0, 0, v) h).1)
        have m1 := Int.emod_nonneg (dW (dN (zIt (vLs (v.1 1)) (z, 0, 0, v) h).1)) (show v.1 1 - (zIt (vLs (v.1 1)) (z, 0, 0, v) h).2.2.1 ≠ 0 by omega)
        have m2 := Int.emod_lt_of_pos (dW (dN (zIt (vLs (v.1 1)) (z, 0, 0, v) h).1)) hpos
        have hne := vDl_ne (zIt (vLs (v.1 1)) (z, 0, 0, v) h).2.1 (v.1 1).toNat 0 (dW (dN (zIt (vLs (v.1 1)) (z, 0, 0, v) h).1) % (v.1 1 - (zIt (vLs (v.1 1)) (z, 0, 0, v) h).2.2.1)) (by omega) m1 (by omega)
        have hdl := (vDl_b (zIt (vLs (v.1 1)) (z, 0, 0, v) h).2.1 (v.1 1).toNat 0 (dW (dN (zIt (vLs (v.1 1)) (z, 0, 0, v) h).1) % (v.1 1 - (zIt (vLs (v.1 1)) (z, 0, 0, v) h).2.2.1))).resolve_left hne
        have hst : zIt (vLs (v.1 1)) (z, 0, 0, v) (h + 1) = (dN (zIt (vLs (v.1 1)) (z, 0, 0, v) h).1, (zIt (vLs (v.1 1)) (z, 0, 0, v) h).2.1 + 2 ^ (vDl (zIt (vLs (v.1 1)) (z, 0, 0, v) h).2.1 (v.1 1).toNat 0 (dW (dN (zIt (vLs (v.1 1)) (z, 0, 0, v) h).1) % (v.1 1 - (zIt (vLs (v.1 1)) (z, 0, 0, v) h).2.2.1))).toNat, (zIt (vLs (v.1 1)) (z, 0, 0, v) h).2.2.1 + 1, vLt (zIt (vLs (v.1 1)) (z, 0, 0, v) h).2.2.2 h (vDl (zIt (vLs (v.1 1)) (z, 0, 0, v) h).2.1 (v.1 1).toNat 0 (dW (dN (zIt (vLs (v.1 1)) (z, 0, 0, v) h).1) % (v.1 1 - (zIt (vLs (v.1 1)) (z, 0, 0, v) h).2.2.1)))) := by
          rw [zIt_s _ _ h0, vLs, if_pos hpos, if_neg hne]
        have hup := hfc.2.2 (vDl (zIt (vLs (v.1 1)) (z, 0, 0, v) h).2.1 (v.1 1).toNat 0 (dW (dN (zIt (vLs (v.1 1)) (z, 0, 0, v) h).1) % (v.1 1 - (zIt (vLs (v.1 1)) (z, 0, 0, v) h).2.2.1))) (by omega) (by omega) hdl.2.2
        have hpw := bt_shl (k := (vDl (zIt (vLs (v.1 1)) (z, 0, 0, v) h).2.1 (v.1 1).toNat 0 (dW (dN (zIt (vLs (v.1 1)) (z, 0, 0, v) h).1) % (v.1 1 - (zIt (vLs (v.1 1)) (z, 0, 0, v) h).2.2.1)))) (by omega) (by omega)
        refine zCl_e (kdi hr) (by decide) ?_
        refine zCl_e (kdr r11 (by show 0 < v.1 1 - (zIt (vLs (v.1 1)) (z, 0, 0, v) h).2.2.1 ∧ v.1 1 - (zIt (vLs (v.1 1)) (z, 0, 0, v) h).2.2.1 < 2147483648; omega)) (by decide) ?_
        refine inner (v.1 1).toNat 0 (dW (dN (zIt (vLs (v.1 1)) (z, 0, 0, v) h).1) % (v.1 1 - (zIt (vLs (v.1 1)) (z, 0, 0, v) h).2.2.1)) _ (zIt (vLs (v.1 1)) (z, 0, 0, v) h).2.1 _ _ (kI R 11 (dN (zIt (vLs (v.1 1)) (z, 0, 0, v) h).1)) (by omega) (by omega) m1 (by omega) ht rfl (by omega) ?_
        refine zWP_run gX10_lot 80 [50, 78] ?_
        refine mVc_i (by omega) ?_
        have el : (2 : Int) ^ (v.1 1).toNat - 1 - (zIt (vLs (v.1 1)) (z, 0, 0, v) h).2.1 - 2 ^ (vDl (zIt (vLs (v.1 1)) (z, 0, 0, v) h).2.1 (v.1 1).toNat 0 (dW (dN (zIt (vLs (v.1 1)) (z, 0, 0, v) h).1) % (v.1 1 - (zIt (vLs (v.1 1)) (z, 0, 0, v) h).2.2.1))).toNat = 2 ^ (v.1 1).toNat - 1 - ((zIt (vLs (v.1 1)) (z, 0, 0, v) h).2.1 + 2 ^ (vDl (zIt (vLs (v.1 1)) (z, 0, 0, v) h).2.1 (v.1 1).toNat 0 (dW (dN (zIt (vLs (v.1 1)) (z, 0, 0, v) h).1) % (v.1 1 - (zIt (vLs (v.1 1)) (z, 0, 0, v) h).2.2.1))).toNat) := by omega
        have eb := lf_bit (n := v.1 1) (tk := (zIt (vLs (v.1 1)) (z, 0, 0, v) h).2.1) (d := (vDl (zIt (vLs (v.1 1)) (z, 0, 0, v) h).2.1 (v.1 1).toNat 0 (dW (dN (zIt (vLs (v.1 1)) (z, 0, 0, v) h).1) % (v.1 1 - (zIt (vLs (v.1 1)) (z, 0, 0, v) h).2.2.1)))) b1 ht (by omega) (by omega)
        have ea := lf_and (l := 2 ^ (v.1 1).toNat - 1 - (zIt (vLs (v.1 1)) (z, 0, 0, v) h).2.1) (d := (vDl (zIt (vLs (v.1 1)) (z, 0, 0, v) h).2.1 (v.1 1).toNat 0 (dW (dN (zIt (vLs (v.1 1)) (z, 0, 0, v) h).1) % (v.1 1 - (zIt (vLs (v.1 1)) (z, 0, 0, v) h).2.2.1)))) (by omega) (by omega) (by rw [eb, hdl.2.2]; rfl)
        rw [ea, el]
        have hpp : 0 ≤ (2 : Int) ^ (vDl (zIt (vLs (v.1 1)) (z, 0, 0, v) h).2.1 (v.1 1).toNat 0 (dW (dN (zIt (vLs (v.1 1)) (z, 0, 0, v) h).1) % (v.1 1 - (zIt (vLs (v.1 1)) (z, 0, 0, v) h).2.2.1))).toNat := Int.le_of_lt (Int.pow_pos (by omega))
        have k9 := ih (h + 1) (kA (kI R 11 (dN (zIt (vLs (v.1 1)) (z, 0, 0, v) h).1)) 0 (va_up (R.2 0) (44 + h).toNat (vDl (zIt (vLs (v.1 1)) (z, 0, 0, v) h).2.1 (v.1 1).toNat 0 (dW (dN (zIt (vLs (v.1 1)) (z, 0, 0, v) h).1) % (v.1 1 - (zIt (vLs (v.1 1)) (z, 0, 0, v) h).2.2.1))))) (by omega) (by omega) (kF_t hf (kF_t (kF_I _ _ (by omega)) (kF_A _ _ (by omega)))) r0 (by rw [hst]; rfl) (by
          have k8 := kV_l hr h0 (by omega) (z := (vDl (zIt (vLs (v.1 1)) (z, 0, 0, v) h).2.1 (v.1 1).toNat 0 (dW (dN (zIt (vLs (v.1 1)) (z, 0, 0, v) h).1) % (v.1 1 - (zIt (vLs (v.1 1)) (z, 0, 0, v) h).2.2.1)))) (by omega)
          have e5 : vLt (vLo v (fun q => if q < h then (zIt (vLs (v.1 1)) (z, 0, 0, v) h).2.2.2.2.1.2.2.2 q else -1)) h (vDl (zIt (vLs (v.1 1)) (z, 0, 0, v) h).2.1 (v.1 1).toNat 0 (dW (dN (zIt (vLs (v.1 1)) (z, 0, 0, v) h).1) % (v.1 1 - (zIt (vLs (v.1 1)) (z, 0, 0, v) h).2.2.1))) = vLo v (fun q => if q < h + 1 then (zIt (vLs (v.1 1)) (z, 0, 0, v) (h + 1)).2.2.2.2.1.2.2.2 q else -1) := by
            have e6 : (fun k1 => if k1 = h then (vDl (zIt (vLs (v.1 1)) (z, 0, 0, v) h).2.1 (v.1 1).toNat 0 (dW (dN (zIt (vLs (v.1 1)) (z, 0, 0, v) h).1) % (v.1 1 - (zIt (vLs (v.1 1)) (z, 0, 0, v) h).2.2.1))) else if k1 < h then (zIt (vLs (v.1 1)) (z, 0, 0, v) h).2.2.2.2.1.2.2.2 k1 else -1) = fun q => if q < h + 1 then (zIt (vLs (v.1 1)) (z, 0, 0, v) (h + 1)).2.2.2.2.1.2.2.2 q else -1 := by
              funext q
              rw [hst]
              show _ = if q < h + 1 then (if q = h then (vDl (zIt (vLs (v.1 1)) (z, 0, 0, v) h).2.1 (v.1 1).toNat 0 (dW (dN (zIt (vLs (v.1 1)) (z, 0, 0, v) h).1) % (v.1 1 - (zIt (vLs (v.1 1)) (z, 0, 0, v) h).2.2.1))) else (zIt (vLs (v.1 1)) (z, 0, 0, v) h).2.2.2.2.1.2.2.2 q) else -1
              by_cases c1 : q = h
              · rw [if_pos c1, if_pos (by omega), if_pos c1]
              · rw [if_neg c1]
                by_cases c2 : q < h
                · rw [if_pos c2, if_pos (by omega), if_neg c1]
                · rw [if_neg c2, if_neg (by omega)]
            show vLo v (fun k1 => if k1 = h then (vDl (zIt (vLs (v.1 1)) (z, 0, 0, v) h).2.1 (v.1 1).toNat 0 (dW (dN (zIt (vLs (v.1 1)) (z, 0, 0, v) h).1) % (v.1 1 - (zIt (vLs (v.1 1)) (z, 0, 0, v) h).2.2.1))) else if k1 < h then (zIt (vLs (v.1 1)) (z, 0, 0, v) h).2.2.2.2.1.2.2.2 k1 else -1) = _
            rw [e6]
          rw [e5] at k8
          exact k8) (by rw [hst]; exact ⟨by show 0 ≤ (zIt (vLs (v.1 1)) (z, 0, 0, v) h).2.1 + 2 ^ (vDl (zIt (vLs (v.1 1)) (z, 0, 0, v) h).2.1 (v.1 1).toNat 0 (dW (dN (zIt (vLs (v.1 1)) (z, 0, 0, v) h).1) % (v.1 1 - (zIt (vLs (v.1 1)) (z, 0, 0, v) h).2.2.1))).toNat; omega, hup.2⟩) (by rw [hst]; show fC ((zIt (vLs (v.1 1)) (z, 0, 0, v) h).2.1 + 2 ^ (vDl (zIt (vLs (v.1 1)) (z, 0, 0, v) h).2.1 (v.1 1).toNat 0 (dW (dN (zIt (vLs (v.1 1)) (z, 0, 0, v) h).1) % (v.1 1 - (zIt (vLs (v.1 1)) (z, 0, 0, v) h).2.2.1))).toNat) (v.1 1).toNat 0 = v.1 1 - ((zIt (vLs (v.1 1)) (z, 0, 0, v) h).2.2.1 + 1); omega) (by rw [hst]; show 0 ≤ (zIt (vLs (v.1 1)) (z, 0, 0, v) h).2.2.1 + 1; omega) (by
          intro q
          rw [hst]
          show -1 ≤ (if q = h then (vDl (zIt (vLs (v.1 1)) (z, 0, 0, v) h).2.1 (v.1 1).toNat 0 (dW (dN (zIt (vLs (v.1 1)) (z, 0, 0, v) h).1) % (v.1 1 - (zIt (vLs (v.1 1)) (z, 0, 0, v) h).2.2.1))) else (zIt (vLs (v.1 1)) (z, 0, 0, v) h).2.2.2.2.1.2.2.2 q) ∧ (if q = h then (vDl (zIt (vLs (v.1 1)) (z, 0, 0, v) h).2.1 (v.1 1).toNat 0 (dW (dN (zIt (vLs (v.1 1)) (z, 0, 0, v) h).1) % (v.1 1 - (zIt (vLs (v.1 1)) (z, 0, 0, v) h).2.2.1))) else (zIt (vLs (v.1 1)) (z, 0, 0, v) h).2.2.2.2.1.2.2.2 q) ≤ 4
          split
          · omega
          · exact hL q)
        rw [hst] at k9
        exact zWP_fg k9 (by repeat (first | exact trivial | refine ⟨rfl, ?_⟩))
  have clear : ∀ (k : Nat) (i : Int) (c : Nat → Int), 0 ≤ i → i + k = 4 → kV c (vLo v (fun q => if 0 ≤ q ∧ q < i then -1 else v.2.1.2.2.2 q)) → zWP X mX10_lot 10 (kTp S K t (kcd []) (pLot v z)) 24 [some (zR 29), some (zI z), some (zI (2 ^ (v.1 1).toNat - 1)), some (zI 0), some (zI i), none, none] [] (cX S ++ (cM (kA (kI (kI K 0 0) 11 z) 0 c) ++ t)) 0 0 := by
    intro k
    induction k with
    | zero =>
      intro i c i0 hk0 hr
      refine zWP_run gX10_lot 80 [50] ?_
      refine zBrT (by first | (simp only [rI]; omega) | (simp only [rL]; omega)) (by omega) ?_
      have k9 := main (v.1 2).toNat 0 (kA (kI (kI K 0 0) 11 z) 0 c) (by omega) (by omega) (kF_t (kF_t (kF_t (kF_r K) (kF_I _ _ (by omega))) (kF_I _ _ (by omega))) (kF_A _ _ (by omega))) rfl rfl (by
        refine kV_lg hr (fun q => ?_) (fun q q0 q1 => ?_)
        · split
          · rename_i c9
            exact hb.2.2.2.2.2.1.2.2.2 q
          · omega
        · rw [if_neg (by omega), if_pos (by omega)]) (by show (0 : Int) ≤ 0 ∧ (0 : Int) < 2 ^ (v.1 1).toNat; omega) (by
        show fC 0 (v.1 1).toNat 0 = v.1 1 - 0
        have h : v.1 1 = 0 ∨ v.1 1 = 1 ∨ v.1 1 = 2 ∨ v.1 1 = 3 ∨ v.1 1 = 4 ∨ v.1 1 = 5 := by omega
        rcases h with h | h | h | h | h | h <;> rw [h] <;> decide) (by show (0 : Int) ≤ 0; omega) hb.2.2.2.2.2.1.2.2.2
      rw [show (2 : Int) ^ (v.1 1).toNat - 1 - (zIt (vLs (v.1 1)) (z, 0, 0, v) 0).2.1 = 2 ^ (v.1 1).toNat - 1 from Int.sub_zero _] at k9
      exact k9
    | succ k ih =>
      intro i c i0 hk0 hr
      refine zWP_run gX10_lot 80 [24] ?_
      refine zBrF (by first | (simp only [rI]; omega) | (simp only [rL]; omega)) (by omega) ?_
      refine mVc_i (by omega) ?_
      refine ih (i + 1) (va_up c (44 + i).toNat (-1)) (by omega) (by omega) ?_
      have k8 := kV_l hr i0 (by omega) (z := -1) (by omega)
      have e6 : (fun k1 => if k1 = i then -1 else if 0 ≤ k1 ∧ k1 < i then -1 else v.2.1.2.2.2 k1) = fun q => if 0 ≤ q ∧ q < i + 1 then -1 else v.2.1.2.2.2 q := by
        funext q
        by_cases c1 : q = i
        · rw [if_pos c1, if_pos (by omega)]
        · rw [if_neg c1]
          by_cases c2 : 0 ≤ q ∧ q < i
          · rw [if_pos c2, if_pos (by omega)]
          · rw [if_neg c2, if_neg (by omega)]
      rw [← e6]
      exact k8
  refine zEv_run gX10_lot 80 [24] rfl ?_
  refine zCl_e (kdi (K := kI (kI K 0 0) 11 z) hk) (by decide) ?_
  have e0 := bt_shl (k := v.1 1) b1.1 (by omega)
  have e1 : vLo v (fun q => if 0 ≤ q ∧ q < 0 then -1 else v.2.1.2.2.2 q) = v := by
    have : (fun q => if 0 ≤ q ∧ q < 0 then -1 else v.2.1.2.2.2 q) = v.2.1.2.2.2 := by
      funext q
      rw [if_neg (by omega)]
    rw [this]
    rfl
  have k9 := clear 4 0 (K.2 0) (by omega) (by omega) (by rw [e1]; exact hk)
  rw [← e0] at k9
  exact k9
end Mdl5
