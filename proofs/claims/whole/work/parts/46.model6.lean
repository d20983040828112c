/-! the reference: unlike faces, every face, best sets -/
theorem bt_clr0 : ∀ c : Fin 64, ∀ k : Fin 6, (c.val : Int) / 2 ^ k.val % 2 = 1 → (Int32.ofInt (c.val : Int) &&& Int32.ofInt ((Int32.ofInt ((Int32.ofInt 1 <<< (Int32.ofInt (k.val : Int) &&& 31)).toInt) ^^^ Int32.ofInt (-1)).toInt)).toInt = (c.val : Int) - 2 ^ k.val ∧ 0 ≤ (c.val : Int) - 2 ^ k.val := by decide +kernel
theorem bt_clr {c k : Int} (h0 : 0 ≤ c) (h1 : c < 64) (h2 : 0 ≤ k) (h3 : k < 6) (hb : bit c k = 1) : (Int32.ofInt c &&& Int32.ofInt ((Int32.ofInt ((Int32.ofInt 1 <<< (Int32.ofInt k &&& 31)).toInt) ^^^ Int32.ofInt (-1)).toInt)).toInt = c - 2 ^ k.toNat ∧ 0 ≤ c - 2 ^ k.toNat := by
  have h := bt_clr0 ⟨c.toNat, by omega⟩ ⟨k.toNat, by omega⟩
  simp only [Int.toNat_of_nonneg h0, Int.toNat_of_nonneg h2] at h
  exact h hb
theorem aF_0 (w r : Int → Int) (c : Int) : aF w 0 r c = zSum (fun i => if bit c i = 1 then r (c - 2 ^ i.toNat) * w (i + 1) else 0) 6 := by
  unfold aF
  refine zSum_cg fun i _ _ => ?_
  split
  · rw [if_neg (by omega), Int.add_zero, Int.mul_comm]
  · rfl
theorem aF_1 (w r : Int → Int) (c : Int) : aF w 1 r c = zSum (fun i => if bit c i = 1 then (r c + r (c - 2 ^ i.toNat)) * w (i + 1) else 0) 6 := by
  unfold aF
  refine zSum_cg fun i _ _ => ?_
  split
  · rw [if_pos rfl, Int.mul_comm, Int.add_comm]
  · rfl
/-- halved while it is even -/
def iR : Nat → Int → Int
  | 0, l => l
  | k + 1, l => if l = 0 then l else if l % 2 = 0 then iR k (l / 2) else l
theorem iR_ok0 : ∀ c : Fin 64, ((Int32.ofInt (iR 6 (c.val : Int)) &&& Int32.ofInt (iR 6 (c.val : Int) + 1)).toInt = 0) = (vGp (c.val : Int) = 0) := by decide +kernel
theorem sz_ok0 : ∀ l : Fin 32, ¬ (l.val : Int) = 0 → pcn ((Int32.ofInt (l.val : Int) &&& Int32.ofInt ((l.val : Int) - 1)).toInt) 5 = pcn (l.val : Int) 5 - 1 ∧ 0 ≤ (Int32.ofInt (l.val : Int) &&& Int32.ofInt ((l.val : Int) - 1)).toInt ∧ (Int32.ofInt (l.val : Int) &&& Int32.ofInt ((l.val : Int) - 1)).toInt < 32 ∧ 1 ≤ pcn (l.val : Int) 5 := by decide +kernel
section Mdl7
variable {X : mX} {S : sS} {K : kK} {t : zH} {v : vV}
set_option maxHeartbeats 1000000 in
set_option maxRecDepth 100000 in
theorem kul (hk : kVn (K.2 0) v (v.1 4)) {c : Int} (hc : 0 ≤ c ∧ c < 32) : zEv X 2 mX10_laysUnlike [zR 29, zI c] (cX S ++ (cM K ++ t)) (fun o9 h9 => o9 = .inl none ∧ ∃ f : Nat → Int, (∀ s : Int, 0 ≤ s → s < 64 → f s.toNat = vFc v c (v.1 1) s) ∧ h9 = cX S ++ (cM (kA K 8 f) ++ t)) := by
  have b1 := hk.1.2.1
  have b2 := hk.1.2.2.1
  have b4 := hk.1.2.2.2.2.1
  have l1 : ∀ (d : Int) (r : Int → Int), 0 ≤ d ∧ d < v.1 1 → (∀ f2 : Nat → Int, (∀ j : Int, 0 ≤ j → j < 64 → f2 j.toNat = aF (v.2.1.1 d) 0 r j) → zWP X mX10_laysUnlike 2 (fun o9 h9 => o9 = .inl none ∧ ∃ f : Nat → Int, (∀ s : Int, 0 ≤ s → s < 64 → f s.toNat = vFc v c (v.1 1) s) ∧ h9 = cX S ++ (cM (kA K 8 f) ++ t)) 31 [some (zR 29), some (zI c), some (zI (d + 1)), none, none, none, none] [] (cX S ++ (cM (kA K 8 f2) ++ t)) 0 0) → ∀ (k : Nat) (s : Int) (f : Nat → Int), s + 1 = k → s < 64 → (∀ j : Int, s < j → j < 64 → f j.toNat = aF (v.2.1.1 d) 0 r j) → (∀ j : Int, 0 ≤ j → j ≤ s → f j.toNat = r j) → zWP X mX10_laysUnlike 2 (fun o9 h9 => o9 = .inl none ∧ ∃ f : Nat → Int, (∀ s : Int, 0 ≤ s → s < 64 → f s.toNat = vFc v c (v.1 1) s) ∧ h9 = cX S ++ (cM (kA K 8 f) ++ t)) 53 [some (zR 29), some (zI c), some (zI d), some (zI s), none, none, none] [] (cX S ++ (cM (kA K 8 f) ++ t)) 0 0 := by
    intro d r hd kk k
    induction k with
    | zero =>
      intro s f hk0 s1 hf hr2
      refine zWP_run gX10_laysUnlike 80 [31, 53] ?_
      refine zBrT (by first | (simp only [rI]; omega) | (simp only [rL]; omega)) (by omega) ?_
      exact zWP_fg (kk f (fun j j0 j1 => hf j (by omega) j1)) (by repeat (first | exact trivial | refine ⟨rfl, ?_⟩))
    | succ k ih =>
      intro s f hk0 s1 hf hr2
      have l2 : ∀ (k : Nat) (i : Int), 0 ≤ i → i + k = 6 → zWP X mX10_laysUnlike 2 (fun o9 h9 => o9 = .inl none ∧ ∃ f : Nat → Int, (∀ s : Int, 0 ≤ s → s < 64 → f s.toNat = vFc v c (v.1 1) s) ∧ h9 = cX S ++ (cM (kA K 8 f) ++ t)) 63 [some (zR 29), some (zI c), some (zI d), some (zI s), some (zJ (zSum (fun i => if bit s i = 1 then r (s - 2 ^ i.toNat) * v.2.1.1 d (i + 1) else 0) i)), none, some (zI i)] [] (cX S ++ (cM (kA K 8 f) ++ t)) 0 0 := by
        intro k2
        induction k2 with
        | zero =>
          intro i i0 hk2
          have k3 := ih (s - 1) (va_up f s.toNat (aF (v.2.1.1 d) 0 r s)) (by omega) (by omega) (fun j j0 j1 => by
            by_cases e : j = s
            · rw [e, va_up_s]
            · rw [va_up_o _ _ (by omega)]; exact hf j (by omega) j1) (fun j j0 j1 => by
              rw [va_up_o _ _ (by omega)]; exact hr2 j j0 (by omega))
          rw [aF_0, ← show i = 6 by omega] at k3
          refine zWP_run gX10_laysUnlike 80 [53, 63] ?_
          refine zBrT (by first | (simp only [rI]; omega) | (simp only [rL]; omega)) (by omega) ?_
          refine mVc_i (by omega) ?_
          exact zWP_fg k3 (by repeat (first | exact trivial | refine ⟨rfl, ?_⟩))
        | succ k2 ih2 =>
          intro i i0 hk2
          have hw := hk.1.2.2.2.2.2.1.1 d (i + 1)
          have e9 := bt_in (c := s) (k := i) (by omega) (by omega) i0 (by omega)
          have hb := bit_01 s i
          have k3 := ih2 (i + 1) (by omega) (by omega)
          rw [zSum_s i0] at k3
          refine zWP_run gX10_laysUnlike 80 [53, 63] ?_
          refine zBrF (by first | (simp only [rI]; omega) | (simp only [rL]; omega)) (by omega) ?_
          refine zBr ⟨by show rI ((Int32.ofInt ((Int32.ofInt s >>> (Int32.ofInt i &&& 31)).toInt) &&& Int32.ofInt 1).toInt); rw [e9]; simp only [rI]; omega, by simp only [rI]; omega⟩ (fun q => ?_) (fun q => ?_)
          · have q2 : (Int32.ofInt ((Int32.ofInt s >>> (Int32.ofInt i &&& 31)).toInt) &&& Int32.ofInt 1).toInt = 1 := q
            rw [e9] at q2
            have e8 := bt_clr (c := s) (k := i) (by omega) (by omega) i0 (by omega) q2
            have hpp : 1 ≤ (2 : Int) ^ i.toNat := (pw_pos i0 (k := i) (by omega)).1
            rw [if_pos q2, ← hr2 (s - 2 ^ i.toNat) e8.2 (by omega), ← e8.1] at k3
            refine mVc_i (by rw [e8.1]; omega) ?_
            refine zCl_e (kw (K := kA K 8 f) hk hd (by omega)) (by decide) ?_
            refine mVc_i (by simp only [rI]; omega) ?_
            exact k3
          · have q2 : ¬ (Int32.ofInt ((Int32.ofInt s >>> (Int32.ofInt i &&& 31)).toInt) &&& Int32.ofInt 1).toInt = 1 := q
            rw [e9] at q2
            rw [if_neg q2, Int.add_zero] at k3
            exact k3
      refine zWP_run gX10_laysUnlike 80 [53, 63] ?_
      refine zBrF (by first | (simp only [rI]; omega) | (simp only [rL]; omega)) (by omega) ?_
      exact l2 6 0 (by omega) (by omega)
  have l0 : ∀ (k : Nat) (d : Int) (f : Nat → Int), 0 ≤ d → d + k = v.1 1 → (∀ s : Int, 0 ≤ s → s < 64 → f s.toNat = vFc v c d s) → zWP X mX10_laysUnlike 2 (fun o9 h9 => o9 = .inl none ∧ ∃ f : Nat → Int, (∀ s : Int, 0 ≤ s → s < 64 → f s.toNat = vFc v c (v.1 1) s) ∧ h9 = cX S ++ (cM (kA K 8 f) ++ t)) 31 [some (zR 29), some (zI c), some (zI d), none, none, none, none] [] (cX S ++ (cM (kA K 8 f) ++ t)) 0 0 := by
    intro k
    induction k with
    | zero =>
      intro d f d0 hk0 hf
      refine zWP_run gX10_laysUnlike 80 [31, 53] ?_
      refine zCl_e (kdi (K := kA K 8 f) hk) (by decide) ?_
      refine zBrT (by first | (simp only [rI]; omega) | (simp only [rL]; omega)) (by omega) ?_
      exact ⟨rfl, f, by rw [← show d = v.1 1 by omega]; exact hf, rfl⟩
    | succ k ih =>
      intro d f d0 hk0 hf
      have hb := bit_01 c d
      refine zWP_run gX10_laysUnlike 80 [31, 53] ?_
      refine zCl_e (kdi (K := kA K 8 f) hk) (by decide) ?_
      refine zBrF (by first | (simp only [rI]; omega) | (simp only [rL]; omega)) (by omega) ?_
      refine zCl_e (khs (by omega) (by omega)) (by decide) ?_
      refine zBr (by first | (simp only [rI]; omega) | (simp only [rL]; omega)) (fun q => ?_) (fun q => ?_)
      · exact ih (d + 1) f (by omega) (by omega) (by rw [vFc_s v c d0, if_neg (by omega)]; exact hf)
      · exact l1 d (vFc v c d) ⟨d0, by omega⟩ (fun f2 hf2 => ih (d + 1) f2 (by omega) (by omega) (by rw [vFc_s v c d0, if_pos (by omega)]; exact hf2)) 64 63 f (by omega) (by omega) (fun j j0 j1 => by omega) (fun j j0 j1 => hf j j0 (by omega))
  have li : ∀ (k : Nat) (i : Int) (f : Nat → Int), 0 ≤ i → i + k = 64 → (∀ s : Int, 0 ≤ s → s < i → f s.toNat = r0 s) → zWP X mX10_laysUnlike 2 (fun o9 h9 => o9 = .inl none ∧ ∃ f : Nat → Int, (∀ s : Int, 0 ≤ s → s < 64 → f s.toNat = vFc v c (v.1 1) s) ∧ h9 = cX S ++ (cM (kA K 8 f) ++ t)) 2 [some (zR 29), some (zI c), some (zI i), none, none, none, none] [] (cX S ++ (cM (kA K 8 f) ++ t)) 0 0 := by
    intro k
    induction k with
    | zero =>
      intro i f i0 hk0 hf
      refine zWP_run gX10_laysUnlike 80 [2, 31] ?_
      refine zBrT (by first | (simp only [rI]; omega) | (simp only [rL]; omega)) (by omega) ?_
      exact l0 (v.1 1).toNat 0 f (by omega) (by omega) (fun s s0 s1 => hf s s0 (by omega))
    | succ k ih =>
      intro i f i0 hk0 hf
      refine zWP_run gX10_laysUnlike 80 [2, 31] ?_
      refine zBrF (by first | (simp only [rI]; omega) | (simp only [rL]; omega)) (by omega) ?_
      refine zBr (by first | (simp only [rI]; omega) | (simp only [rL]; omega)) (fun q => ?_) (fun q => ?_)
      · refine mVc_i (by omega) ?_
        exact ih (i + 1) (va_up f i.toNat 1) (by omega) (by omega) (fun s s0 s1 => by
          by_cases e : s = i
          · rw [e, va_up_s, r0, if_pos q]
          · rw [va_up_o _ _ (by omega)]; exact hf s s0 (by omega))
      · refine mVc_i (by omega) ?_
        exact ih (i + 1) (va_up f i.toNat 0) (by omega) (by omega) (fun s s0 s1 => by
          by_cases e : s = i
          · rw [e, va_up_s, r0, if_neg q]
          · rw [va_up_o _ _ (by omega)]; exact hf s s0 (by omega))
  refine zEv_run gX10_laysUnlike 40 [2] rfl ?_
  have k9 := li 64 0 (K.2 8) (by omega) (by omega) (fun s s0 s1 => by omega)
  rw [kA_same] at k9
  exact k9
set_option maxHeartbeats 1000000 in
set_option maxRecDepth 100000 in
theorem kir {c : Int} (hc : 0 ≤ c ∧ c < 64) {h : zH} : zEv X 1 mX10_isRow [zI c] (h) (zIs (.inl (some (zI (if vGp c = 0 then 1 else 0)))) h) := by
  have fin : ∀ (l : Int), (¬ l = 0 → l % 2 = 1) → 0 ≤ l → l < 64 → zWP X mX10_isRow 1 (zIs (.inl (some (zI (if (Int32.ofInt l &&& Int32.ofInt (l + 1)).toInt = 0 then 1 else 0)))) h) 2 [some (zI c), some (zI l)] [] h 0 0 := by
    intro l hl l0 l1
    have last : zWP X mX10_isRow 1 (zIs (.inl (some (zI (if (Int32.ofInt l &&& Int32.ofInt (l + 1)).toInt = 0 then 1 else 0)))) h) 19 [some (zI c), some (zI l)] [] h 0 0 := by
      refine zWP_run gX10_isRow 60 [2] ?_
      refine zBr (rI_toInt _) (fun q => ?_) (fun q => ?_)
      · rw [if_pos q]
        exact mVc_i (Or.inr rfl) ⟨rfl, rfl⟩
      · rw [if_neg q]
        exact mVc_i (Or.inl rfl) ⟨rfl, rfl⟩
    refine zWP_run gX10_isRow 60 [2, 19] ?_
    by_cases e : l = 0
    · refine zBrT (by first | (simp only [rI]; omega) | (simp only [rL]; omega)) e ?_
      exact last
    · refine zBrF (by first | (simp only [rI]; omega) | (simp only [rL]; omega)) e ?_
      refine mVc_i (by simp only [rI]; omega) ?_
      have := hl e
      refine zBrF (by first | (simp only [rI]; omega) | (simp only [rL]; omega)) (by omega) ?_
      exact last
  have lp : ∀ (k : Nat) (l : Int), 0 ≤ l → l < 64 → l < 2 ^ k → zWP X mX10_isRow 1 (zIs (.inl (some (zI (if (Int32.ofInt (iR k l) &&& Int32.ofInt (iR k l + 1)).toInt = 0 then 1 else 0)))) h) 2 [some (zI c), some (zI l)] [] h 0 0 := by
    intro k
    induction k with
    | zero =>
      intro l l0 l6 l1
      have e : l = 0 := by have : (2 : Int) ^ 0 = 1 := rfl; omega
      exact fin l (fun q => absurd e q) l0 l6
    | succ k ih =>
      intro l l0 l6 l1
      by_cases e : l = 0
      · have e5 : iR (k + 1) l = l := by rw [iR, if_pos e]
        rw [e5]
        exact fin l (fun q => absurd e q) l0 l6
      · by_cases e2 : l % 2 = 0
        · have e5 : iR (k + 1) l = iR k (l / 2) := by rw [iR, if_neg e, if_pos e2]
          rw [e5]
          have h2 : (2 : Int) ^ (k + 1) = 2 ^ k * 2 := Int.pow_succ 2 k
          refine zWP_run gX10_isRow 60 [2] ?_
          refine zBrF (by first | (simp only [rI]; omega) | (simp only [rL]; omega)) e ?_
          refine mVc_i (by simp only [rI]; omega) ?_
          refine zBrT (by first | (simp only [rI]; omega) | (simp only [rL]; omega)) e2 ?_
          refine mVc_i (by simp only [rI]; omega) ?_
          exact ih (l / 2) (by omega) (by omega) (by omega)
        · have e5 : iR (k + 1) l = l := by rw [iR, if_neg e, if_neg e2]
          rw [e5]
          exact fin l (fun _ => by omega) l0 l6
  have e9 := iR_ok0 ⟨c.toNat, by omega⟩
  simp only [Int.toNat_of_nonneg hc.1] at e9
  have k9 := lp 6 c hc.1 hc.2 (by have : (2 : Int) ^ 6 = 64 := rfl; omega)
  have e10 : (if (Int32.ofInt (iR 6 c) &&& Int32.ofInt (iR 6 c + 1)).toInt = 0 then (1 : Int) else 0) = if vGp c = 0 then 1 else 0 := by
    by_cases e : vGp c = 0
    · rw [if_pos e, if_pos (by rw [e9]; exact e)]
    · rw [if_neg e, if_neg (fun z => e (by rw [← e9]; exact z))]
  rw [e10] at k9
  refine zEv_run gX10_isRow 60 [2] rfl ?_
  exact k9
set_option maxHeartbeats 1000000 in
set_option maxRecDepth 100000 in
theorem kuo (hk : kVn (K.2 0) v (v.1 4)) {c : Int} (hc : 0 ≤ c ∧ c < 32) {wg : Int} (hw : wg = 0 ∨ wg = 1) : zEv X 3 mX10_unlikeOf [zR 29, zI c, zI wg] (cX S ++ (cM K ++ t)) (fun o9 h9 => o9 = .inl (some (zJ (vUl (vFc v c (v.1 1)) wg 64))) ∧ ∃ f : Nat → Int, h9 = cX S ++ (cM (kA K 8 f) ++ t)) := by
  have lp : ∀ (f : Nat → Int), (∀ s : Int, 0 ≤ s → s < 64 → f s.toNat = vFc v c (v.1 1) s) → ∀ (k : Nat) (i : Int), 0 ≤ i → i + k = 64 → zWP X mX10_unlikeOf 3 (fun o9 h9 => o9 = .inl (some (zJ (vUl (vFc v c (v.1 1)) wg 64))) ∧ ∃ f : Nat → Int, h9 = cX S ++ (cM (kA K 8 f) ++ t)) 10 [some (zR 29), some (zI c), some (zI wg), some (zJ (vUl (vFc v c (v.1 1)) wg i)), none, some (zI i)] [] (cX S ++ (cM (kA K 8 f) ++ t)) 0 0 := by
    intro f hf k
    induction k with
    | zero =>
      intro i i0 hk0
      refine zWP_run gX10_unlikeOf 60 [10] ?_
      refine zBrT (by first | (simp only [rI]; omega) | (simp only [rL]; omega)) (by omega) ?_
      rw [show i = 64 by omega]
      exact ⟨rfl, f, rfl⟩
    | succ k ih =>
      intro i i0 hk0
      have k3 := ih (i + 1) (by omega) (by omega)
      rw [vUl_s _ _ i0] at k3
      refine zWP_run gX10_unlikeOf 60 [10] ?_
      refine zBrF (by first | (simp only [rI]; omega) | (simp only [rL]; omega)) (by omega) ?_
      by_cases e : wg = 0
      · refine zBrT (by first | (simp only [rI]; omega) | (simp only [rL]; omega)) e ?_
        refine mVc_i (by omega) ?_
        rw [if_pos (Or.inl e), ← hf i i0 (by omega)] at k3
        exact k3
      · refine zBrF (by first | (simp only [rI]; omega) | (simp only [rL]; omega)) e ?_
        refine zCl_e (kir ⟨i0, by omega⟩) (by decide) ?_
        refine zBb (P := vGp i = 0) (fun q => ?_) (fun q => ?_)
        · rw [if_neg (fun z => by rcases z with z | z; exact e z; exact q z)] at k3
          exact k3
        · refine mVc_i (by omega) ?_
          rw [if_pos (Or.inr q), ← hf i i0 (by omega)] at k3
          exact k3
  refine zEv_run gX10_unlikeOf 60 [10] rfl ?_
  refine zCl_w (kul hk hc) (by decide) ?_
  intro f hf
  exact lp f hf 64 0 (by omega) (by omega)
set_option maxHeartbeats 1000000 in
set_option maxRecDepth 100000 in
theorem kUnlike (hk : kVn (K.2 0) v (v.1 4)) {x : Int} (hx : rI x) : zEv X 10 mX10_unlike [zR 29, zI x] (cX S ++ (cM K ++ t)) (kTq S K t (kcd [0, 2]) (pUnlike v x)) := by
  unfold pUnlike
  have b1 := hk.1.2.1
  have b2 := hk.1.2.2.1
  have b4 := hk.1.2.2.2.2.1
  have hx1 := hx.1
  have hx2 := hx.2
  have p2 : (2 : Int) ^ (v.1 1).toNat ≤ 32 ∧ 1 ≤ (2 : Int) ^ (v.1 1).toNat := by
    have h : v.1 1 = 0 ∨ v.1 1 = 1 ∨ v.1 1 = 2 ∨ v.1 1 = 3 ∨ v.1 1 = 4 ∨ v.1 1 = 5 := by omega
    rcases h with h | h | h | h | h | h <;> rw [h] <;> decide
  have h32 : 0 ≤ x ∧ x < 2 ^ (v.1 1).toNat → 0 ≤ x ∧ x < 32 := fun q => by omega
  by_cases c1 : 0 ≤ x ∧ x < 2 ^ (v.1 1).toNat
  · rw [if_pos c1]
    by_cases c2 : ¬ vWh v x (v.1 1) = 0
    · rw [if_pos c2]
      refine zEv_run gX10_unlike 60 [] rfl ?_
      refine zCl_e (ksf_t hk hx c1 c2) (by decide) ?_
      refine zBrT (by first | (simp only [rI]; omega) | (simp only [rL]; omega)) (by omega) ?_
      refine zCl_i (kuo (K := kI K 0 0) hk (h32 c1) (Or.inl rfl)) (by decide) ?_
      rintro o9 h9 ⟨rfl, f, rfl⟩
      exact ⟨_, kA (kI K 0 0) 8 f, rfl, rfl, kF_t (kF_t (kF_r K) (kF_I _ _ (by omega))) (kF_A _ _ (by omega)), hk, rfl, rfl⟩
    · rw [if_neg c2]
      refine zEv_run gX10_unlike 60 [] rfl ?_
      refine zCl_e (ksf_2 hk hx c1 (Decidable.not_not.mp c2)) (by decide) ?_
      refine zBrF (by first | (simp only [rI]; omega) | (simp only [rL]; omega)) (by omega) ?_
      exact ⟨0, kI K 0 2, rfl, rfl, kF_t (kF_r K) (kF_I _ _ (by omega)), hk, rfl⟩
  · rw [if_neg c1]
    refine zEv_run gX10_unlike 60 [] rfl ?_
    refine zCl_e (ksf_1 hk hx c1) (by decide) ?_
    refine zBrF (by first | (simp only [rI]; omega) | (simp only [rL]; omega)) (by omega) ?_
    exact ⟨0, kI K 0 1, rfl, rfl, kF_t (kF_r K) (kF_I _ _ (by omega)), hk, rfl⟩
set_option maxHeartbeats 1000000 in
set_option maxRecDepth 100000 in
theorem kRun (hk : kVn (K.2 0) v (v.1 4)) {x : Int} (hx : rI x) : zEv X 10 mX10_run [zR 29, zI x] (cX S ++ (cM K ++ t)) (kTq S K t (kcd [0, 2]) (pRun v x)) := by
  unfold pRun
  have b1 := hk.1.2.1
  have b2 := hk.1.2.2.1
  have b4 := hk.1.2.2.2.2.1
  have hx1 := hx.1
  have hx2 := hx.2
  have p2 : (2 : Int) ^ (v.1 1).toNat ≤ 32 ∧ 1 ≤ (2 : Int) ^ (v.1 1).toNat := by
    have h : v.1 1 = 0 ∨ v.1 1 = 1 ∨ v.1 1 = 2 ∨ v.1 1 = 3 ∨ v.1 1 = 4 ∨ v.1 1 = 5 := by omega
    rcases h with h | h | h | h | h | h <;> rw [h] <;> decide
  have h32 : 0 ≤ x ∧ x < 2 ^ (v.1 1).toNat → 0 ≤ x ∧ x < 32 := fun q => by omega
  by_cases c1 : 0 ≤ x ∧ x < 2 ^ (v.1 1).toNat
  · rw [if_pos c1]
    by_cases c2 : ¬ vWh v x (v.1 1) = 0
    · rw [if_pos c2]
      refine zEv_run gX10_run 60 [] rfl ?_
      refine zCl_e (ksf_t hk hx c1 c2) (by decide) ?_
      refine zBrT (by first | (simp only [rI]; omega) | (simp only [rL]; omega)) (by omega) ?_
      refine zCl_i (kuo (K := kI K 0 0) hk (h32 c1) (Or.inr rfl)) (by decide) ?_
      rintro o9 h9 ⟨rfl, f, rfl⟩
      exact ⟨_, kA (kI K 0 0) 8 f, rfl, rfl, kF_t (kF_t (kF_r K) (kF_I _ _ (by omega))) (kF_A _ _ (by omega)), hk, rfl, rfl⟩
    · rw [if_neg c2]
      refine zEv_run gX10_run 60 [] rfl ?_
      refine zCl_e (ksf_2 hk hx c1 (Decidable.not_not.mp c2)) (by decide) ?_
      refine zBrF (by first | (simp only [rI]; omega) | (simp only [rL]; omega)) (by omega) ?_
      exact ⟨0, kI K 0 2, rfl, rfl, kF_t (kF_r K) (kF_I _ _ (by omega)), hk, rfl⟩
  · rw [if_neg c1]
    refine zEv_run gX10_run 60 [] rfl ?_
    refine zCl_e (ksf_1 hk hx c1) (by decide) ?_
    refine zBrF (by first | (simp only [rI]; omega) | (simp only [rL]; omega)) (by omega) ?_
    exact ⟨0, kI K 0 1, rfl, rfl, kF_t (kF_r K) (kF_I _ _ (by omega)), hk, rfl⟩
set_option maxHeartbeats 1000000 in
set_option maxRecDepth 100000 in
theorem kCannot (hk : kVn (K.2 0) v (v.1 4)) {f : Int} (hf : rI f) : zEv X 10 mX10_cannot [zR 29, zI f] (cX S ++ (cM K ++ t)) (kTp S K t (kcd [0]) (pCannot v f)) := by
  unfold pCannot
  have b1 := hk.1.2.1
  have b2 := hk.1.2.2.1
  have b4 := hk.1.2.2.2.2.1
  have hf1 := hf.1
  have hf2 := hf.2
  by_cases c1 : 1 ≤ f ∧ f ≤ 6
  · rw [if_pos c1]
    have lp : ∀ (k : Nat) (i : Int), 0 ≤ i → i + k = v.1 1 → zWP X mX10_cannot 10 (kTp S K t (kcd [0]) (.inl (vCn v f (v.1 1)), v)) 23 [some (zR 29), some (zI f), some (zI (vCn v f i)), some (zI i)] [] (cX S ++ (cM (kI K 0 0) ++ t)) 0 0 := by
      intro k
      induction k with
      | zero =>
        intro i i0 hk0
        refine zWP_run gX10_cannot 60 [23] ?_
        refine zCl_e (kdi (K := kI K 0 0) hk) (by decide) ?_
        refine zBrT (by first | (simp only [rI]; omega) | (simp only [rL]; omega)) (by omega) ?_
        rw [← show i = v.1 1 by omega]
        exact ⟨_, kI K 0 0, rfl, rfl, kF_t (kF_r K) (kF_I _ _ (by omega)), hk, rfl, rfl⟩
      | succ k ih =>
        intro i i0 hk0
        have hw := hk.1.2.2.2.2.2.1.1 i f
        have hb2 : 0 ≤ vCn v f i ∧ vCn v f i < 2 ^ i.toNat := vAl_b (fun j => if v.2.1.1 (j - 1) f = 0 then 1 else 0) i0
        have hp := pw_pos i0 (k := i) (by omega)
        have k3 := ih (i + 1) (by omega) (by omega)
        rw [vCn_s v f i0] at k3
        refine zWP_run gX10_cannot 60 [23] ?_
        refine zCl_e (kdi (K := kI K 0 0) hk) (by decide) ?_
        refine zBrF (by first | (simp only [rI]; omega) | (simp only [rL]; omega)) (by omega) ?_
        refine zCl_e (kw (K := kI K 0 0) hk ⟨i0, by omega⟩ c1) (by decide) ?_
        refine zBr (by first | (simp only [rI]; omega) | (simp only [rL]; omega)) (fun q => ?_) (fun q => ?_)
        · rw [if_pos q] at k3
          have es : (Int32.ofInt 1 <<< (Int32.ofInt i &&& 31)).toInt = 2 ^ i.toNat := bt_shl i0 (by omega)
          have eo := bt_or hb2.1 (k := i) (by omega) i0 (by omega)
          rw [if_neg (by rw [Int.ediv_eq_zero_of_lt hb2.1 hb2.2]; decide)] at eo
          rw [← eo, ← es] at k3
          exact k3
        · rw [if_neg q, Int.add_zero, ← or_0 (b := vCn v f i) (by simp only [rI]; omega)] at k3
          exact k3
    refine zEv_run gX10_cannot 60 [23] rfl ?_
    refine mVc_i (by first | omega | (simp only [rI]; omega) | (simp only [rL]; omega)) ?_
    refine zCl_e (kfc_t (by simp only [rL]; omega) c1) (by decide) ?_
    refine zBrF (by first | (simp only [rI]; omega) | (simp only [rL]; omega)) (by omega) ?_
    exact lp (v.1 1).toNat 0 (by omega) (by omega)
  · rw [if_neg c1]
    refine zEv_run gX10_cannot 60 [23] rfl ?_
    refine mVc_i (by first | omega | (simp only [rI]; omega) | (simp only [rL]; omega)) ?_
    refine zCl_e (kfc_f (by simp only [rL]; omega) c1) (by decide) ?_
    refine zBrT (by first | (simp only [rI]; omega) | (simp only [rL]; omega)) (by omega) ?_
    refine zCl_e (kfa (K := kI K 0 0)) (by decide) ?_
    exact ⟨0, kI (kI K 0 0) 0 1, rfl, rfl, kF_t (kF_t (kF_r K) (kF_I _ _ (by omega))) (kF_I _ _ (by omega)), hk, rfl⟩
set_option maxHeartbeats 1000000 in
set_option maxRecDepth 100000 in
theorem kpw {x n : Int} (hn : 0 ≤ n ∧ n ≤ 8) {h : zH} : zEv X 1 mX10_power [zJ x, zI n] (h) (zIs (.inl (some (zJ (x ^ n.toNat)))) h) := by
  have lp : ∀ (k : Nat) (i : Int), 0 ≤ i → i + k = n → zWP X mX10_power 1 (zIs (.inl (some (zJ (x ^ n.toNat)))) h) 5 [some (zJ x), none, some (zI n), some (zJ (x ^ i.toNat)), none, some (zI i)] [] h 0 0 := by
    intro k
    induction k with
    | zero =>
      intro i i0 hk0
      refine zWP_run gX10_power 60 [5] ?_
      refine zBrT (by first | (simp only [rI]; omega) | (simp only [rL]; omega)) (by omega) ?_
      rw [show i = n by omega]
      exact ⟨rfl, rfl⟩
    | succ k ih =>
      intro i i0 hk0
      have k3 := ih (i + 1) (by omega) (by omega)
      rw [show (i + 1).toNat = i.toNat + 1 by omega, Int.pow_succ] at k3
      refine zWP_run gX10_power 60 [5] ?_
      refine zBrF (by first | (simp only [rI]; omega) | (simp only [rL]; omega)) (by omega) ?_
      exact k3
  refine zEv_run gX10_power 60 [5] rfl ?_
  have k9 := lp n.toNat 0 (by omega) (by omega)
  rw [show x ^ (0 : Int).toNat = 1 from Int.pow_zero x] at k9
  exact k9
set_option maxHeartbeats 1000000 in
set_option maxRecDepth 100000 in
theorem kOnce (hk : kVn (K.2 0) v (v.1 4)) {d f n : Int} (hd : rI d) (hf : rI f) (hn : rI n) : zEv X 10 mX10_once [zR 29, zI d, zI f, zI n] (cX S ++ (cM K ++ t)) (kTq S K t (kcd [1, 0, 2]) (pOnce v d f n)) := by
  unfold pOnce
  have b1 := hk.1.2.1
  have b2 := hk.1.2.2.1
  have b4 := hk.1.2.2.2.2.1
  have hd1 := hd.1
  have hd2 := hd.2
  have hf1 := hf.1
  have hf2 := hf.2
  have hn1 := hn.1
  have hn2 := hn.2
  by_cases c1 : 0 ≤ d ∧ d < v.1 1
  · rw [if_pos c1]
    by_cases c2 : 1 ≤ f ∧ f ≤ 6
    · rw [if_pos c2]
      by_cases c3 : 1 ≤ n ∧ n ≤ 8
      · rw [if_pos c3]
        by_cases c4 : ¬ vTot v.2.1 d = 0
        · rw [if_pos c4]
          have hb := vTot_b hk.1.2.2.2.2.2.1 d
          have hw := hk.1.2.2.2.2.2.1.1 d f
          refine zEv_run gX10_once 80 [] rfl ?_
          refine mVc_i (by first | omega | (simp only [rI]; omega) | (simp only [rL]; omega)) ?_
          refine zCl_e (kdie_t (K := K) hk (by simp only [rL]; omega) c1) (by decide) ?_
          refine zBrF (by first | (simp only [rI]; omega) | (simp only [rL]; omega)) (by omega) ?_
          refine mVc_i (by first | omega | (simp only [rI]; omega) | (simp only [rL]; omega)) ?_
          refine zCl_e (kfc_t (by simp only [rL]; omega) c2) (by decide) ?_
          refine zBrF (by first | (simp only [rI]; omega) | (simp only [rL]; omega)) (by omega) ?_
          refine mVc_i (by first | omega | (simp only [rI]; omega) | (simp only [rL]; omega)) ?_
          refine zCl_e (kwi_t (by simp only [rL]; omega) (by simp only [rL]; omega) (by simp only [rL]; omega) (by omega)) (by decide) ?_
          refine zBrF (by first | (simp only [rI]; omega) | (simp only [rL]; omega)) (by omega) ?_
          refine zCl_e (kgo hk c1) (by decide) ?_
          refine zBb (fun c => ?_) (fun c => absurd c c4)
          refine zBrT (by first | (simp only [rI]; omega) | (simp only [rL]; omega)) (by omega) ?_
          refine zCl_e (kto (K := kI K 0 0) hk c1) (by decide) ?_
          refine mVc_i (by first | omega | (simp only [rI]; omega) | (simp only [rL]; omega)) ?_
          refine zCl_e (kpw (by omega)) (by decide) ?_
          refine zCl_e (kto (K := kI K 0 0) hk c1) (by decide) ?_
          refine zCl_e (kw (K := kI K 0 0) hk c1 c2) (by decide) ?_
          refine mVc_i (by first | omega | (simp only [rI]; omega) | (simp only [rL]; omega)) ?_
          refine zCl_e (kpw (by omega)) (by decide) ?_
          exact ⟨_, kI K 0 0, rfl, rfl, kF_t (kF_r K) (kF_I _ _ (by omega)), hk, rfl, rfl⟩
        · rw [if_neg c4]
          refine zEv_run gX10_once 80 [] rfl ?_
          refine mVc_i (by first | omega | (simp only [rI]; omega) | (simp only [rL]; omega)) ?_
          refine zCl_e (kdie_t (K := K) hk (by simp only [rL]; omega) c1) (by decide) ?_
          refine zBrF (by first | (simp only [rI]; omega) | (simp only [rL]; omega)) (by omega) ?_
          refine mVc_i (by first | omega | (simp only [rI]; omega) | (simp only [rL]; omega)) ?_
          refine zCl_e (kfc_t (by simp only [rL]; omega) c2) (by decide) ?_
          refine zBrF (by first | (simp only [rI]; omega) | (simp only [rL]; omega)) (by omega) ?_
          refine mVc_i (by first | omega | (simp only [rI]; omega) | (simp only [rL]; omega)) ?_
          refine zCl_e (kwi_t (by simp only [rL]; omega) (by simp only [rL]; omega) (by simp only [rL]; omega) (by omega)) (by decide) ?_
          refine zBrF (by first | (simp only [rI]; omega) | (simp only [rL]; omega)) (by omega) ?_
          refine zCl_e (kgo hk c1) (by decide) ?_
          refine zBb (fun c => absurd c c4) (fun c => ?_)
          refine zBrF (by first | (simp only [rI]; omega) | (simp only [rL]; omega)) (by omega) ?_
          exact ⟨0, kI K 0 3, rfl, rfl, kF_t (kF_r K) (kF_I _ _ (by omega)), hk, rfl⟩
      · rw [if_neg c3]
        refine zEv_run gX10_once 80 [] rfl ?_
        refine mVc_i (by first | omega | (simp only [rI]; omega) | (simp only [rL]; omega)) ?_
        refine zCl_e (kdie_t (K := K) hk (by simp only [rL]; omega) c1) (by decide) ?_
        refine zBrF (by first | (simp only [rI]; omega) | (simp only [rL]; omega)) (by omega) ?_
        refine mVc_i (by first | omega | (simp only [rI]; omega) | (simp only [rL]; omega)) ?_
        refine zCl_e (kfc_t (by simp only [rL]; omega) c2) (by decide) ?_
        refine zBrF (by first | (simp only [rI]; omega) | (simp only [rL]; omega)) (by omega) ?_
        refine mVc_i (by first | omega | (simp only [rI]; omega) | (simp only [rL]; omega)) ?_
        refine zCl_e (kwi_f (by simp only [rL]; omega) (by simp only [rL]; omega) (by simp only [rL]; omega) (by omega)) (by decide) ?_
        refine zBrT (by first | (simp only [rI]; omega) | (simp only [rL]; omega)) (by omega) ?_
        refine zBrF (by first | (simp only [rI]; omega) | (simp only [rL]; omega)) (by omega) ?_
        exact ⟨0, kI K 0 2, rfl, rfl, kF_t (kF_r K) (kF_I _ _ (by omega)), hk, rfl⟩
    · rw [if_neg c2]
      refine zEv_run gX10_once 80 [] rfl ?_
      refine mVc_i (by first | omega | (simp only [rI]; omega) | (simp only [rL]; omega)) ?_
      refine zCl_e (kdie_t (K := K) hk (by simp only [rL]; omega) c1) (by decide) ?_
      refine zBrF (by first | (simp only [rI]; omega) | (simp only [rL]; omega)) (by omega) ?_
      refine mVc_i (by first | omega | (simp only [rI]; omega) | (simp only [rL]; omega)) ?_
      refine zCl_e (kfc_f (by simp only [rL]; omega) c2) (by decide) ?_
      refine zBrT (by first | (simp only [rI]; omega) | (simp only [rL]; omega)) (by omega) ?_
      refine zBrF (by first | (simp only [rI]; omega) | (simp only [rL]; omega)) (by omega) ?_
      exact ⟨0, kI K 0 2, rfl, rfl, kF_t (kF_r K) (kF_I _ _ (by omega)), hk, rfl⟩
  · rw [if_neg c1]
    refine zEv_run gX10_once 80 [] rfl ?_
    refine mVc_i (by first | omega | (simp only [rI]; omega) | (simp only [rL]; omega)) ?_
    refine zCl_e (kdie_f (K := K) hk (by simp only [rL]; omega) c1) (by decide) ?_
    refine zBrT (by first | (simp only [rI]; omega) | (simp only [rL]; omega)) (by omega) ?_
    refine zBrF (by first | (simp only [rI]; omega) | (simp only [rL]; omega)) (by omega) ?_
    exact ⟨0, kI K 0 1, rfl, rfl, kF_t (kF_r K) (kF_I _ _ (by omega)), hk, rfl⟩
set_option maxHeartbeats 1000000 in
set_option maxRecDepth 100000 in
theorem kAllFaces (hk : kVn (K.2 0) v (v.1 4)) {d n : Int} (hd : rI d) (hn : rI n) : zEv X 10 mX10_allFaces [zR 29, zI d, zI n] (cX S ++ (cM K ++ t)) (kTq S K t (kcd [1, 0, 2]) (pAllFaces v d n)) := by
  unfold pAllFaces
  have b1 := hk.1.2.1
  have b2 := hk.1.2.2.1
  have b4 := hk.1.2.2.2.2.1
  have hd1 := hd.1
  have hd2 := hd.2
  have hn1 := hn.1
  have hn2 := hn.2
  by_cases c1 : 0 ≤ d ∧ d < v.1 1
  · rw [if_pos c1]
    by_cases c2 : 1 ≤ n ∧ n ≤ 8
    · rw [if_pos c2]
      by_cases c3 : ¬ vTot v.2.1 d = 0
      · rw [if_pos c3]
        have hal := vAl_b (v.2.1.1 d) (i := 6) (by omega)
        have h64 : (2 : Int) ^ (6 : Int).toNat = 64 := rfl
        have l1 : ∀ (j : Int) (r : Int → Int), 0 ≤ j ∧ j < n → (∀ f2 : Nat → Int, (∀ y : Int, 0 ≤ y → y < 64 → f2 y.toNat = aF (v.2.1.1 d) 1 r y) → zWP X mX10_allFaces 10 (kTq S K t (kcd [1, 0, 2]) (.inl (vEv (v.2.1.1 d) n (vAl (v.2.1.1 d) 6)), v)) 132 [some (zR 29), some (zI d), some (zI n), some (zI (vAl (v.2.1.1 d) 6)), some (zI (j + 1)), none, none, none, none] [] (cX S ++ (cM (kA (kI K 0 0) 8 f2) ++ t)) 0 0) → ∀ (k : Nat) (s : Int) (f : Nat → Int), s + 1 = k → s < 64 → (∀ y : Int, s < y → y < 64 → f y.toNat = aF (v.2.1.1 d) 1 r y) → (∀ y : Int, 0 ≤ y → y ≤ s → f y.toNat = r y) → zWP X mX10_allFaces 10 (kTq S K t (kcd [1, 0, 2]) (.inl (vEv (v.2.1.1 d) n (vAl (v.2.1.1 d) 6)), v)) 142 [some (zR 29), some (zI d), some (zI n), some (zI (vAl (v.2.1.1 d) 6)), some (zI j), some (zI s), none, none, none] [] (cX S ++ (cM (kA (kI K 0 0) 8 f) ++ t)) 0 0 := by
          intro j r hj kk k
          induction k with
          | zero =>
            intro s f hk0 s1 hf hr2
            refine zWP_run gX10_allFaces 80 [132, 142] ?_
            refine zBrT (by first | (simp only [rI]; omega) | (simp only [rL]; omega)) (by omega) ?_
            exact zWP_fg (kk f (fun j j0 j1 => hf j (by omega) j1)) (by repeat (first | exact trivial | refine ⟨rfl, ?_⟩))
          | succ k ih =>
            intro s f hk0 s1 hf hr2
            have l2 : ∀ (k : Nat) (i : Int), 0 ≤ i → i + k = 6 → zWP X mX10_allFaces 10 (kTq S K t (kcd [1, 0, 2]) (.inl (vEv (v.2.1.1 d) n (vAl (v.2.1.1 d) 6)), v)) 153 [some (zR 29), some (zI d), some (zI n), some (zI (vAl (v.2.1.1 d) 6)), some (zI j), some (zI s), some (zJ (zSum (fun i => if bit s i = 1 then (r s + r (s - 2 ^ i.toNat)) * v.2.1.1 d (i + 1) else 0) i)), none, some (zI i)] [] (cX S ++ (cM (kA (kI K 0 0) 8 f) ++ t)) 0 0 := by
              intro k2
              induction k2 with
              | zero =>
                intro i i0 hk2
                have k3 := ih (s - 1) (va_up f s.toNat (aF (v.2.1.1 d) 1 r s)) (by omega) (by omega) (fun j j0 j1 => by
                  by_cases e : j = s
                  · rw [e, va_up_s]
                  · rw [va_up_o _ _ (by omega)]; exact hf j (by omega) j1) (fun j j0 j1 => by
                    rw [va_up_o _ _ (by omega)]; exact hr2 j j0 (by omega))
                rw [aF_1, ← show i = 6 by omega] at k3
                refine zWP_run gX10_allFaces 80 [142, 153] ?_
                refine zBrT (by first | (simp only [rI]; omega) | (simp only [rL]; omega)) (by omega) ?_
                refine mVc_i (by omega) ?_
                rw [show i = 6 by omega] at k3 ⊢
                exact zWP_fg k3 (by repeat (first | exact trivial | refine ⟨rfl, ?_⟩))
              | succ k2 ih2 =>
                intro i i0 hk2
                have hw := hk.1.2.2.2.2.2.1.1 d (i + 1)
                have e9 := bt_in (c := s) (k := i) (by omega) (by omega) i0 (by omega)
                have hb := bit_01 s i
                have k3 := ih2 (i + 1) (by omega) (by omega)
                rw [zSum_s i0] at k3
                refine zWP_run gX10_allFaces 80 [142, 153] ?_
                refine zBrF (by first | (simp only [rI]; omega) | (simp only [rL]; omega)) (by omega) ?_
                refine zBr ⟨by show rI ((Int32.ofInt ((Int32.ofInt s >>> (Int32.ofInt i &&& 31)).toInt) &&& Int32.ofInt 1).toInt); rw [e9]; simp only [rI]; omega, by simp only [rI]; omega⟩ (fun q => ?_) (fun q => ?_)
                · have q2 : (Int32.ofInt ((Int32.ofInt s >>> (Int32.ofInt i &&& 31)).toInt) &&& Int32.ofInt 1).toInt = 1 := q
                  rw [e9] at q2
                  have e8 := bt_clr (c := s) (k := i) (by omega) (by omega) i0 (by omega) q2
                  have hpp : 1 ≤ (2 : Int) ^ i.toNat := (pw_pos i0 (k := i) (by omega)).1
                  have e7 := hr2 (s - 2 ^ i.toNat) e8.2 (by omega)
                  have e6 := hr2 s (by omega) (by omega)
                  have e5 : (f s.toNat + f ((Int32.ofInt s &&& Int32.ofInt ((Int32.ofInt ((Int32.ofInt 1 <<< (Int32.ofInt i &&& 31)).toInt) ^^^ Int32.ofInt (-1)).toInt)).toInt).toNat) * v.2.1.1 d (i + 1) = (r s + r (s - 2 ^ i.toNat)) * v.2.1.1 d (i + 1) := by rw [e8.1, e7, e6]
                  rw [if_pos q2, ← e5] at k3
                  refine mVc_i (by omega) ?_
                  refine mVc_i (by rw [e8.1]; omega) ?_
                  refine zCl_e (kw (K := kA (kI K 0 0) 8 f) hk c1 (by omega)) (by decide) ?_
                  refine mVc_i (by simp only [rI]; omega) ?_
                  exact k3
                · have q2 : ¬ (Int32.ofInt ((Int32.ofInt s >>> (Int32.ofInt i &&& 31)).toInt) &&& Int32.ofInt 1).toInt = 1 := q
                  rw [e9] at q2
                  rw [if_neg q2, Int.add_zero] at k3
                  exact k3
            refine zWP_run gX10_allFaces 80 [142, 153] ?_
            refine zBrF (by first | (simp only [rI]; omega) | (simp only [rL]; omega)) (by omega) ?_
            exact l2 6 0 (by omega) (by omega)
        have l0 : ∀ (k : Nat) (j : Int) (f : Nat → Int), 0 ≤ j → j + k = n → (∀ s : Int, 0 ≤ s → s < 64 → f s.toNat = vEv (v.2.1.1 d) j s) → zWP X mX10_allFaces 10 (kTq S K t (kcd [1, 0, 2]) (.inl (vEv (v.2.1.1 d) n (vAl (v.2.1.1 d) 6)), v)) 132 [some (zR 29), some (zI d), some (zI n), some (zI (vAl (v.2.1.1 d) 6)), some (zI j), none, none, none, none] [] (cX S ++ (cM (kA (kI K 0 0) 8 f) ++ t)) 0 0 := by
          intro k
          induction k with
          | zero =>
            intro j f j0 hk0 hf
            refine zWP_run gX10_allFaces 80 [132, 142] ?_
            refine zBrT (by first | (simp only [rI]; omega) | (simp only [rL]; omega)) (by omega) ?_
            refine mVc_i (by omega) ?_
            rw [← show j = n by omega, ← hf (vAl (v.2.1.1 d) 6) (by omega) (by omega)]
            exact ⟨_, kA (kI K 0 0) 8 f, rfl, rfl, kF_t (kF_t (kF_r K) (kF_I _ _ (by omega))) (kF_A _ _ (by omega)), hk, rfl, rfl⟩
          | succ k ih =>
            intro j f j0 hk0 hf
            refine zWP_run gX10_allFaces 80 [132, 142] ?_
            refine zBrF (by first | (simp only [rI]; omega) | (simp only [rL]; omega)) (by omega) ?_
            exact l1 j (vEv (v.2.1.1 d) j) ⟨j0, by omega⟩ (fun f2 hf2 => ih (j + 1) f2 (by omega) (by omega) (by rw [vEv_s _ j0]; exact hf2)) 64 63 f (by omega) (by omega) (fun j j0 j1 => by omega) (fun j j0 j1 => hf j j0 (by omega))
        have li : ∀ (k : Nat) (i : Int) (f : Nat → Int), 0 ≤ i → i + k = 64 → (∀ s : Int, 0 ≤ s → s < i → f s.toNat = r0 s) → zWP X mX10_allFaces 10 (kTq S K t (kcd [1, 0, 2]) (.inl (vEv (v.2.1.1 d) n (vAl (v.2.1.1 d) 6)), v)) 99 [some (zR 29), some (zI d), some (zI n), some (zI (vAl (v.2.1.1 d) 6)), some (zI i), none, none, none, none] [] (cX S ++ (cM (kA (kI K 0 0) 8 f) ++ t)) 0 0 := by
          intro k
          induction k with
          | zero =>
            intro i f i0 hk0 hf
            refine zWP_run gX10_allFaces 80 [99, 132] ?_
            refine zBrT (by first | (simp only [rI]; omega) | (simp only [rL]; omega)) (by omega) ?_
            exact l0 n.toNat 0 f (by omega) (by omega) (fun s s0 s1 => hf s s0 (by omega))
          | succ k ih =>
            intro i f i0 hk0 hf
            refine zWP_run gX10_allFaces 80 [99, 132] ?_
            refine zBrF (by first | (simp only [rI]; omega) | (simp only [rL]; omega)) (by omega) ?_
            refine zBr (by first | (simp only [rI]; omega) | (simp only [rL]; omega)) (fun q => ?_) (fun q => ?_)
            · refine mVc_i (by omega) ?_
              exact ih (i + 1) (va_up f i.toNat 1) (by omega) (by omega) (fun s s0 s1 => by
                by_cases e : s = i
                · rw [e, va_up_s, r0, if_pos q]
                · rw [va_up_o _ _ (by omega)]; exact hf s s0 (by omega))
            · refine mVc_i (by omega) ?_
              exact ih (i + 1) (va_up f i.toNat 0) (by omega) (by omega) (fun s s0 s1 => by
                by_cases e : s = i
                · rw [e, va_up_s, r0, if_neg q]
                · rw [va_up_o _ _ (by omega)]; exact hf s s0 (by omega))
        have lb : ∀ (k : Nat) (i : Int), 0 ≤ i → i + k = 6 → zWP X mX10_allFaces 10 (kTq S K t (kcd [1, 0, 2]) (.inl (vEv (v.2.1.1 d) n (vAl (v.2.1.1 d) 6)), v)) 60 [some (zR 29), some (zI d), some (zI n), some (zI (vAl (v.2.1.1 d) i)), some (zI i), none, none, none, none] [] (cX S ++ (cM (kI K 0 0) ++ t)) 0 0 := by
          intro k
          induction k with
          | zero =>
            intro i i0 hk0
            refine zWP_run gX10_allFaces 80 [60, 99] ?_
            refine zBrT (by first | (simp only [rI]; omega) | (simp only [rL]; omega)) (by omega) ?_
            rw [show i = 6 by omega]
            have k9 := li 64 0 (K.2 8) (by omega) (by omega) (fun s s0 s1 => by omega)
            rw [show kA (kI K 0 0) 8 (K.2 8) = kI K 0 0 from kA_same (kI K 0 0) 8] at k9
            exact k9
          | succ k ih =>
            intro i i0 hk0
            have hw := hk.1.2.2.2.2.2.1.1 d (i + 1)
            have hb := vAl_b (v.2.1.1 d) i0
            have hp := pw_pos i0 (k := i) (by omega)
            have k3 := ih (i + 1) (by omega) (by omega)
            rw [vAl_s _ i0] at k3
            refine zWP_run gX10_allFaces 80 [60, 99] ?_
            refine zBrF (by first | (simp only [rI]; omega) | (simp only [rL]; omega)) (by omega) ?_
            refine zCl_e (kw (K := kI K 0 0) hk c1 (by omega)) (by decide) ?_
            refine zBr (by first | (simp only [rI]; omega) | (simp only [rL]; omega)) (fun q => ?_) (fun q => ?_)
            · rw [if_neg (by omega), Int.add_zero, ← or_0 (b := vAl (v.2.1.1 d) i) (by simp only [rI]; omega)] at k3
              exact k3
            · rw [if_pos (by omega)] at k3
              have es : (Int32.ofInt 1 <<< (Int32.ofInt i &&& 31)).toInt = 2 ^ i.toNat := bt_shl i0 (by omega)
              have eo := bt_or hb.1 (k := i) (by omega) i0 (by omega)
              rw [if_neg (by rw [Int.ediv_eq_zero_of_lt hb.1 hb.2]; decide)] at eo
              rw [← eo, ← es] at k3
              exact k3
        refine zEv_run gX10_allFaces 80 [60] rfl ?_
        refine mVc_i (by first | omega | (simp only [rI]; omega) | (simp only [rL]; omega)) ?_
        refine zCl_e (kdie_t (K := K) hk (by simp only [rL]; omega) c1) (by decide) ?_
        refine zBrF (by first | (simp only [rI]; omega) | (simp only [rL]; omega)) (by omega) ?_
        refine mVc_i (by first | omega | (simp only [rI]; omega) | (simp only [rL]; omega)) ?_
        refine zCl_e (kwi_t (by simp only [rL]; omega) (by simp only [rL]; omega) (by simp only [rL]; omega) (by omega)) (by decide) ?_
        refine zBrF (by first | (simp only [rI]; omega) | (simp only [rL]; omega)) (by omega) ?_
        refine zCl_e (kgo hk c1) (by decide) ?_
        refine zBb (fun c => ?_) (fun c => absurd c c3)
        refine zBrT (by first | (simp only [rI]; omega) | (simp only [rL]; omega)) (by omega) ?_
        exact lb 6 0 (by omega) (by omega)
      · rw [if_neg c3]
        refine zEv_run gX10_allFaces 80 [60] rfl ?_
        refine mVc_i (by first | omega | (simp only [rI]; omega) | (simp only [rL]; omega)) ?_
        refine zCl_e (kdie_t (K := K) hk (by simp only [rL]; omega) c1) (by decide) ?_
        refine zBrF (by first | (simp only [rI]; omega) | (simp only [rL]; omega)) (by omega) ?_
        refine mVc_i (by first | omega | (simp only [rI]; omega) | (simp only [rL]; omega)) ?_
        refine zCl_e (kwi_t (by simp only [rL]; omega) (by simp only [rL]; omega) (by simp only [rL]; omega) (by omega)) (by decide) ?_
        refine zBrF (by first | (simp only [rI]; omega) | (simp only [rL]; omega)) (by omega) ?_
        refine zCl_e (kgo hk c1) (by decide) ?_
        refine zBb (fun c => absurd c c3) (fun c => ?_)
        refine zBrF (by first | (simp only [rI]; omega) | (simp only [rL]; omega)) (by omega) ?_
        exact ⟨0, kI K 0 3, rfl, rfl, kF_t (kF_r K) (kF_I _ _ (by omega)), hk, rfl⟩
    · rw [if_neg c2]
      refine zEv_run gX10_allFaces 80 [60] rfl ?_
      refine mVc_i (by first | omega | (simp only [rI]; omega) | (simp only [rL]; omega)) ?_
      refine zCl_e (kdie_t (K := K) hk (by simp only [rL]; omega) c1) (by decide) ?_
      refine zBrF (by first | (simp only [rI]; omega) | (simp only [rL]; omega)) (by omega) ?_
      refine mVc_i (by first | omega | (simp only [rI]; omega) | (simp only [rL]; omega)) ?_
      refine zCl_e (kwi_f (by simp only [rL]; omega) (by simp only [rL]; omega) (by simp only [rL]; omega) (by omega)) (by decide) ?_
      refine zBrT (by first | (simp only [rI]; omega) | (simp only [rL]; omega)) (by omega) ?_
      refine zBrF (by first | (simp only [rI]; omega) | (simp only [rL]; omega)) (by omega) ?_
      exact ⟨0, kI K 0 2, rfl, rfl, kF_t (kF_r K) (kF_I _ _ (by omega)), hk, rfl⟩
  · rw [if_neg c1]
    refine zEv_run gX10_allFaces 80 [60] rfl ?_
    refine mVc_i (by first | omega | (simp only [rI]; omega) | (simp only [rL]; omega)) ?_
    refine zCl_e (kdie_f (K := K) hk (by simp only [rL]; omega) c1) (by decide) ?_
    refine zBrT (by first | (simp only [rI]; omega) | (simp only [rL]; omega)) (by omega) ?_
    refine zBrF (by first | (simp only [rI]; omega) | (simp only [rL]; omega)) (by omega) ?_
    exact ⟨0, kI K 0 1, rfl, rfl, kF_t (kF_r K) (kF_I _ _ (by omega)), hk, rfl⟩
end Mdl7
