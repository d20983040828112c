/-! the reference: sums of throws against each other, stopping, what was thrown -/
theorem zSum_add (f g : Int → Int) (n : Int) : zSum (fun i => f i + g i) n = zSum f n + zSum g n := by
  have hk : ∀ k : Nat, vSum (fun i => f i + g i) k = vSum f k + vSum g k := by
    intro k
    induction k with
    | zero => rfl
    | succ k ih => simp only [vSum]; rw [ih]; omega
  exact hk n.toNat
theorem zSum_lmul (f : Int → Int) (c n : Int) : zSum (fun i => c * f i) n = c * zSum f n := by
  rw [Int.mul_comm, ← zSum_mul]
  exact zSum_cg fun i _ _ => Int.mul_comm _ _
theorem zSum_z (n : Int) : zSum (fun _ => 0) n = 0 := by
  have := zSum_mul (fun _ => 0) 0 n
  simp only [Int.mul_zero] at this
  exact this
theorem zSum_sw (g : Int → Int → Int) (n m : Int) : zSum (fun s => zSum (fun i => g s i) m) n = zSum (fun i => zSum (fun s => g s i) n) m := by
  have hk : ∀ k : Nat, vSum (fun s => zSum (fun i => g s i) m) k = zSum (fun i => vSum (fun s => g s i) k) m := by
    intro k
    induction k with
    | zero => exact (zSum_z m).symm
    | succ k ih =>
      simp only [vSum]
      rw [ih, ← zSum_add]
  exact hk n.toNat
/-- the sum of r weighed by F -/
def eX (r F : Int → Int) : Int := zSum (fun s => r s * F s) 31
theorem eX_r0 (F : Int → Int) : eX r0 F = F 0 := by
  unfold eX
  rw [zSum_up (f := fun s => r0 s * F s) (g := fun s => if s = 0 then 0 else r0 s * F s) (j := 0) (fun i hi => by rw [if_neg hi]) (by omega) (by omega), zSum_cg (f := fun s => if s = 0 then 0 else r0 s * F s) (g := fun _ => 0) (fun i i0 i1 => by
    split
    · rfl
    · rename_i q
      rw [r0, if_neg q, Int.zero_mul]), zSum_z]
  simp only [r0, if_true, Int.one_mul]
  omega
theorem eX_cg {r F G : Int → Int} (h : ∀ s, 0 ≤ s → s < 31 → F s = G s) : eX r F = eX r G := zSum_cg fun s s0 s1 => by rw [h s s0 s1]
theorem eX_sum (r : Int → Int) (w : Int → Int) (G : Int → Int → Int) (m : Int) : eX r (fun s => zSum (fun j => w j * G j s) m) = zSum (fun j => w j * eX r (G j)) m := by
  unfold eX
  rw [zSum_cg (g := fun s => zSum (fun j => w j * (r s * G j s)) m) (fun s _ _ => by
    rw [← zSum_lmul]
    exact zSum_cg fun j _ _ => by rw [← Int.mul_assoc, ← Int.mul_assoc, Int.mul_comm (r s)]), zSum_sw]
  exact zSum_cg fun j _ _ => zSum_lmul _ _ _
theorem zSum_sh {f : Int → Int} {c n : Int} (hc : 0 ≤ c) (hn : 0 ≤ n) (hf : ∀ s, 0 ≤ s → s < c → f s = 0) : zSum f (c + n) = zSum (fun t => f (t + c)) n := by
  have hk : ∀ k : Nat, zSum f (c + k) = vSum (fun t => f (t + c)) k := by
    intro k
    induction k with
    | zero =>
      simp only [Int.natCast_zero, Int.add_zero, vSum]
      rw [zSum_cg hf, zSum_z]
    | succ k ih =>
      rw [show c + ((k + 1 : Nat) : Int) = c + k + 1 by omega, zSum_s (by omega), ih, vSum, Int.add_comm c]
  have := hk n.toNat
  rw [show ((n.toNat : Nat) : Int) = n by omega] at this
  exact this
theorem zSum_ext {f : Int → Int} {a b : Int} (h0 : 0 ≤ a) (h1 : a ≤ b) (hf : ∀ s, a ≤ s → s < b → f s = 0) : zSum f b = zSum f a := by
  have hk : ∀ k : Nat, a + k ≤ b → zSum f (a + k) = zSum f a := by
    intro k
    induction k with
    | zero => intro _; simp only [Int.natCast_zero, Int.add_zero]
    | succ k ih =>
      intro hk
      rw [show a + ((k + 1 : Nat) : Int) = a + k + 1 by omega, zSum_s (by omega), ih (by omega), hf _ (by omega) (by omega)]
      omega
  have := hk (b - a).toNat (by omega)
  rw [show a + ((b - a).toNat : Int) = b by omega] at this
  exact this
/-- one more throw -/
theorem eX_aS {w r : Int → Int} (hr : ∀ s, 24 < s → r s = 0) (F : Int → Int) : eX (aS w r) F = zSum (fun i => w (i + 1) * eX r (fun s => F (s + (i + 1)))) 6 := by
  have e1 : ∀ s, 0 ≤ s → aS w r s = zSum (fun i => w (i + 1) * (if i + 1 ≤ s then r (s - (i + 1)) else 0)) 6 := by
    intro s s0
    unfold aS
    rw [zSum_ext (a := min 6 s) (b := 6) (by omega) (by omega) (fun i i0 i1 => by rw [if_neg (by omega), Int.mul_zero])]
    exact zSum_cg fun i i0 i1 => by rw [if_pos (by omega)]
  have e2 : eX (aS w r) F = zSum (fun s => zSum (fun i => w (i + 1) * ((if i + 1 ≤ s then r (s - (i + 1)) else 0) * F s)) 6) 31 := by
    unfold eX
    refine zSum_cg fun s s0 _ => ?_
    rw [e1 s s0, ← zSum_mul]
    exact zSum_cg fun i _ _ => Int.mul_assoc _ _ _
  rw [e2, zSum_sw]
  refine zSum_cg fun i i0 i1 => ?_
  rw [zSum_lmul]
  congr 1
  have e3 := zSum_sh (f := fun s => (if i + 1 ≤ s then r (s - (i + 1)) else 0) * F s) (c := i + 1) (n := 30 - i) (by omega) (by omega) (fun s s0 s1 => by rw [if_neg (by omega), Int.zero_mul])
  rw [show i + 1 + (30 - i) = 31 by omega] at e3
  rw [e3]
  unfold eX
  rw [zSum_ext (a := 30 - i) (b := 31) (by omega) (by omega) (fun s s0 s1 => by rw [hr s (by omega), Int.zero_mul])]
  exact zSum_cg fun s s0 s1 => by rw [if_pos (by omega), show s + (i + 1) - (i + 1) = s by omega]
theorem aS_sup {w r : Int → Int} {m : Int} (hr : ∀ s, m < s → r s = 0) {s : Int} (hs : m + 6 < s) : aS w r s = 0 := by
  unfold aS
  rw [zSum_cg (g := fun _ => 0) (fun i i0 i1 => by rw [hr _ (by omega), Int.mul_zero]), zSum_z]
theorem vTw_sup (w : Int → Int) : ∀ (k : Nat) (s : Int), 6 * (k : Int) < s → vTw w k s = 0 := by
  intro k
  induction k with
  | zero =>
    intro s hs
    show r0 s = 0
    rw [r0, if_neg (by omega)]
  | succ k ih =>
    intro s hs
    rw [show ((k + 1 : Nat) : Int) = (k : Int) + 1 by omega, vTw_s w (by omega)]
    exact aS_sup (m := 6 * (k : Int)) ih (by omega)
/-- ways by which a has more than b, who is behind by a's lead -/
def vMr (p q : Int → Int) : Nat → Int → Int
  | 0, a => if 0 < a then 1 else 0
  | k + 1, a => zSum (fun i => zSum (fun j => p (i + 1) * q (j + 1) * vMr p q k (a + (i + 1) - (j + 1))) 6) 6
theorem vMr_e (p q : Int → Int) : ∀ (k : Nat) (a : Int), k ≤ 4 → vMr p q k a = eX (vTw p k) (fun s => eX (vTw q k) (fun u => if 0 < a + s - u then 1 else 0)) := by
  intro k
  induction k with
  | zero =>
    intro a _
    show _ = eX r0 (fun s => eX r0 _)
    rw [eX_r0, eX_r0, vMr, show a + 0 - 0 = a by omega]
  | succ k ih =>
    intro a hk
    have e1 : vTw p ((k + 1 : Nat) : Int) = aS p (vTw p k) := by rw [show ((k + 1 : Nat) : Int) = (k : Int) + 1 by omega, vTw_s p (by omega)]
    have e2 : vTw q ((k + 1 : Nat) : Int) = aS q (vTw q k) := by rw [show ((k + 1 : Nat) : Int) = (k : Int) + 1 by omega, vTw_s q (by omega)]
    have s1 : ∀ s, 24 < s → vTw p k s = 0 := fun s hs => vTw_sup p k s (by omega)
    have s2 : ∀ s, 24 < s → vTw q k s = 0 := fun s hs => vTw_sup q k s (by omega)
    rw [e1, e2, eX_aS s1, vMr]
    refine zSum_cg fun i i0 i1 => ?_
    rw [eX_cg (G := fun s => zSum (fun j => q (j + 1) * eX (vTw q k) (fun u => if 0 < a + (i + 1) - (j + 1) + s - u then 1 else 0)) 6) (fun s _ _ => by
      rw [eX_aS s2]
      refine zSum_cg fun j _ _ => ?_
      congr 1
      refine eX_cg fun u _ _ => ?_
      by_cases c : 0 < a + (s + (i + 1)) - (u + (j + 1))
      · rw [if_pos c, if_pos (by omega)]
      · rw [if_neg c, if_neg (by omega)]), eX_sum, ← zSum_lmul]
    refine zSum_cg fun j j0 j1 => ?_
    rw [ih _ (by omega), Int.mul_assoc]
theorem vMw_2 (p q : Int → Int) {i : Int} (h : 0 ≤ i) : vMw p q i = (zSum (fun s => p s * zSum q s) i, zSum q i) :=
  zIt_i _ _ (fun i (x : Int × Int) => x = (zSum (fun s => p s * zSum q s) i, zSum q i)) rfl (fun i x i0 hx => by
    subst hx
    simp only
    rw [zSum_s i0, zSum_s i0]) h
theorem vMr_w (p q : Int → Int) {n : Int} (h0 : 0 ≤ n) (h1 : n ≤ 3) : vMr p q n.toNat 0 = (vMw (vTw p n) (vTw q n) 31).1 := by
  rw [vMr_e p q n.toNat 0 (by omega), show ((n.toNat : Nat) : Int) = n by omega, vMw_2 _ _ (by omega)]
  refine zSum_cg fun s s0 s1 => ?_
  congr 1
  show zSum (fun u => vTw q n u * (if 0 < 0 + s - u then 1 else 0)) 31 = _
  rw [zSum_ext (f := fun u => vTw q n u * (if 0 < 0 + s - u then 1 else 0)) (a := s) (b := 31) s0 (by omega) (fun u u0 u1 => by rw [if_neg (by omega), Int.mul_zero])]
  exact zSum_cg fun u u0 u1 => by rw [if_pos (by omega), Int.mul_one]
section Mdlb
variable {X : mX} {S : sS} {K : kK} {t : zH} {v : vV}
set_option maxHeartbeats 1000000 in
set_option maxRecDepth 100000 in
theorem kmo (hk : kVn (K.2 0) v (v.1 4)) {a b : Int} (ha : 0 ≤ a ∧ a < v.1 1) (hb : 0 ≤ b ∧ b < v.1 1) : ∀ (n : Nat) (h : Int), n ≤ 3 → -100 ≤ h - 6 * n ∧ h + 6 * n ≤ 100 → zEv X (2 + n) mX10_moreOf [zR 29, zI a, zI b, zI n, zI h] (cX S ++ (cM K ++ t)) (zIs (.inl (some (zJ (vMr (v.2.1.1 a) (v.2.1.1 b) n h)))) (cX S ++ (cM K ++ t))) := by
  intro n
  induction n with
  | zero =>
    intro h n3 hh
    refine zEv_run gX10_moreOf 80 [] rfl ?_
    refine zBrT (by simp only [rI]; omega) (by omega) ?_
    simp only [vMr]
    refine zBr (by simp only [rI]; omega) (fun c => ?_) (fun c => ?_)
    · rw [if_neg (by omega)]
      exact ⟨rfl, rfl⟩
    · rw [if_pos (by omega)]
      exact ⟨rfl, rfl⟩
  | succ n ihn =>
    intro h n3 hh
    have ek : ((n + 1 : Nat) : Int) - 1 = (n : Int) := by omega
    have l2 : ∀ (i : Int), 0 ≤ i → i < 6 → (zWP X mX10_moreOf (2 + (n + 1)) (zIs (.inl (some (zJ (vMr (v.2.1.1 a) (v.2.1.1 b) (n + 1) h)))) (cX S ++ (cM K ++ t))) 21 [some (zR 29), some (zI a), some (zI b), some (zI ((n + 1 : Nat) : Int)), some (zI h), some (zJ (zSum (fun i => zSum (fun j => v.2.1.1 a (i + 1) * v.2.1.1 b (j + 1) * vMr (v.2.1.1 a) (v.2.1.1 b) n (h + (i + 1) - (j + 1))) 6) (i + 1))), none, some (zI (i + 1 + 1)), none] [] (cX S ++ (cM K ++ t)) 0 0) → ∀ (k : Nat) (j : Int), 0 ≤ j → j + k = 6 → zWP X mX10_moreOf (2 + (n + 1)) (zIs (.inl (some (zJ (vMr (v.2.1.1 a) (v.2.1.1 b) (n + 1) h)))) (cX S ++ (cM K ++ t))) 31 [some (zR 29), some (zI a), some (zI b), some (zI ((n + 1 : Nat) : Int)), some (zI h), some (zJ (zSum (fun i => zSum (fun j => v.2.1.1 a (i + 1) * v.2.1.1 b (j + 1) * vMr (v.2.1.1 a) (v.2.1.1 b) n (h + (i + 1) - (j + 1))) 6) i + zSum (fun j => v.2.1.1 a (i + 1) * v.2.1.1 b (j + 1) * vMr (v.2.1.1 a) (v.2.1.1 b) n (h + (i + 1) - (j + 1))) j)), none, some (zI (i + 1)), some (zI (j + 1))] [] (cX S ++ (cM K ++ t)) 0 0 := by
      intro i i0 i1 kk k
      induction k with
      | zero =>
        intro j j0 hk0
        refine zWP_run gX10_moreOf 80 [21, 31] ?_
        refine zBrT (by first | (simp only [rI]; omega) | (simp only [rL]; omega)) (by omega) ?_
        rw [zSum_s i0] at kk
        rw [show j = 6 by omega]
        exact zWP_fg kk (by repeat (first | exact trivial | refine ⟨rfl, ?_⟩))
      | succ k ih =>
        intro j j0 hk0
        have wa := hk.1.2.2.2.2.2.1.1 a (i + 1)
        have wb := hk.1.2.2.2.2.2.1.1 b (j + 1)
        have k3 := ih (j + 1) (by omega) (by omega)
        rw [zSum_s j0, ← Int.add_assoc] at k3
        have k4 : v.2.1.1 a (i + 1) * v.2.1.1 b (j + 1) * vMr (v.2.1.1 a) (v.2.1.1 b) n (h + (i + 1) - (j + 1)) = 0 → zWP X mX10_moreOf (2 + (n + 1)) (zIs (.inl (some (zJ (vMr (v.2.1.1 a) (v.2.1.1 b) (n + 1) h)))) (cX S ++ (cM K ++ t))) 31 [some (zR 29), some (zI a), some (zI b), some (zI ((n + 1 : Nat) : Int)), some (zI h), some (zJ (zSum (fun i => zSum (fun j => v.2.1.1 a (i + 1) * v.2.1.1 b (j + 1) * vMr (v.2.1.1 a) (v.2.1.1 b) n (h + (i + 1) - (j + 1))) 6) i + zSum (fun j => v.2.1.1 a (i + 1) * v.2.1.1 b (j + 1) * vMr (v.2.1.1 a) (v.2.1.1 b) n (h + (i + 1) - (j + 1))) j)), none, some (zI (i + 1)), some (zI (j + 1 + 1))] [] (cX S ++ (cM K ++ t)) 0 0 := by
          intro e
          rw [e, Int.add_zero] at k3
          exact k3
        refine zWP_run gX10_moreOf 80 [21, 31] ?_
        refine zBrF (by first | (simp only [rI]; omega) | (simp only [rL]; omega)) (by omega) ?_
        refine zCl_e (kw hk ha (by omega)) (by omega) ?_
        refine zBr (by first | (simp only [rI]; omega) | (simp only [rL]; omega)) (fun c => ?_) (fun c => ?_)
        · exact k4 (by rw [show v.2.1.1 a (i + 1) = 0 by omega, Int.zero_mul, Int.zero_mul])
        · refine zCl_e (kw hk hb (by omega)) (by omega) ?_
          refine zBr (by first | (simp only [rI]; omega) | (simp only [rL]; omega)) (fun c2 => ?_) (fun c2 => ?_)
          · exact k4 (by rw [show v.2.1.1 b (j + 1) = 0 by omega, Int.mul_zero, Int.zero_mul])
          · refine zCl_e (kw hk ha (by omega)) (by omega) ?_
            refine mVc_i (by simp only [rI]; omega) ?_
            refine zCl_e (kw hk hb (by omega)) (by omega) ?_
            refine mVc_i (by simp only [rI]; omega) ?_
            have c9 := ihn (h + (i + 1) - (j + 1)) (by omega) (by omega)
            rw [← ek] at c9
            refine zCl_e c9 (by omega) ?_
            exact k3
    have l1 : ∀ (k : Nat) (i : Int), 0 ≤ i → i + k = 6 → zWP X mX10_moreOf (2 + (n + 1)) (zIs (.inl (some (zJ (vMr (v.2.1.1 a) (v.2.1.1 b) (n + 1) h)))) (cX S ++ (cM K ++ t))) 21 [some (zR 29), some (zI a), some (zI b), some (zI ((n + 1 : Nat) : Int)), some (zI h), some (zJ (zSum (fun i => zSum (fun j => v.2.1.1 a (i + 1) * v.2.1.1 b (j + 1) * vMr (v.2.1.1 a) (v.2.1.1 b) n (h + (i + 1) - (j + 1))) 6) i)), none, some (zI (i + 1)), none] [] (cX S ++ (cM K ++ t)) 0 0 := by
      intro k
      induction k with
      | zero =>
        intro i i0 hk0
        refine zWP_run gX10_moreOf 80 [21, 31] ?_
        refine zBrT (by first | (simp only [rI]; omega) | (simp only [rL]; omega)) (by omega) ?_
        rw [show i = 6 by omega]
        exact ⟨rfl, rfl⟩
      | succ k ih =>
        intro i i0 hk0
        have k3 := l2 i i0 (by omega) (ih (i + 1) (by omega) (by omega)) 6 0 (by omega) (by omega)
        rw [zSum_0, Int.add_zero] at k3
        refine zWP_run gX10_moreOf 80 [21, 31] ?_
        refine zBrF (by first | (simp only [rI]; omega) | (simp only [rL]; omega)) (by omega) ?_
        exact zWP_fg k3 (by repeat (first | exact trivial | refine ⟨rfl, ?_⟩))
    refine zEv_run gX10_moreOf 80 [21] rfl ?_
    refine zBrF (by simp only [rI]; omega) (by omega) ?_
    exact l1 6 0 (by omega) (by omega)
set_option maxHeartbeats 1000000 in
set_option maxRecDepth 100000 in
theorem kMore (hk : kVn (K.2 0) v (v.1 4)) {a b n : Int} (ha : rI a) (hb : rI b) (hn : rI n) : zEv X 10 mX10_more [zR 29, zI a, zI b, zI n] (cX S ++ (cM K ++ t)) (kTq S K t (kcd [1, 2, 0]) (pMore v a b n)) := by
  unfold pMore
  have b1 := hk.1.2.1
  have b2 := hk.1.2.2.1
  have b4 := hk.1.2.2.2.2.1
  have ha1 := ha.1
  have ha2 := ha.2
  have hb1 := hb.1
  have hb2 := hb.2
  have hn1 := hn.1
  have hn2 := hn.2
  by_cases c1 : (0 ≤ a ∧ a < v.1 1) ∧ 0 ≤ b ∧ b < v.1 1
  · rw [if_pos c1]
    by_cases c2 : ¬ (vTot v.2.1 a = 0 ∨ vTot v.2.1 b = 0)
    · rw [if_pos c2]
      by_cases c3 : 1 ≤ n ∧ n ≤ 3
      · rw [if_pos c3]
        have k9 := kmo (X := X) (S := S) (K := kI K 0 0) (t := t) hk c1.1 c1.2 n.toNat 0 (by omega) (by omega)
        rw [show ((n.toNat : Nat) : Int) = n by omega, vMr_w _ _ (by omega) (by omega)] at k9
        refine zEv_run gX10_more 80 [] rfl ?_
        refine zCl_e (ktf_t hk ha hb c1 c2) (by decide) ?_
        refine zBrT (by first | (simp only [rI]; omega) | (simp only [rL]; omega)) (by omega) ?_
        refine mVc_i (by first | omega | (simp only [rI]; omega) | (simp only [rL]; omega)) ?_
        refine zCl_e (kwi_t (by simp only [rL]; omega) (by simp only [rL]; omega) (by simp only [rL]; omega) (by omega)) (by decide) ?_
        refine zBrF (by first | (simp only [rI]; omega) | (simp only [rL]; omega)) (by omega) ?_
        refine zBrT (by first | (simp only [rI]; omega) | (simp only [rL]; omega)) (by omega) ?_
        refine zCl_e k9 (by omega) ?_
        exact ⟨_, kI K 0 0, rfl, rfl, kF_t (kF_r K) (kF_I _ _ (by omega)), hk, rfl, rfl⟩
      · rw [if_neg c3]
        refine zEv_run gX10_more 80 [] rfl ?_
        refine zCl_e (ktf_t hk ha hb c1 c2) (by decide) ?_
        refine zBrT (by first | (simp only [rI]; omega) | (simp only [rL]; omega)) (by omega) ?_
        refine mVc_i (by first | omega | (simp only [rI]; omega) | (simp only [rL]; omega)) ?_
        refine zCl_e (kwi_f (by simp only [rL]; omega) (by simp only [rL]; omega) (by simp only [rL]; omega) (by omega)) (by decide) ?_
        refine zBrT (by first | (simp only [rI]; omega) | (simp only [rL]; omega)) (by omega) ?_
        refine zBrF (by first | (simp only [rI]; omega) | (simp only [rL]; omega)) (by omega) ?_
        exact ⟨0, kI (kI K 0 0) 0 3, rfl, rfl, kF_t (kF_t (kF_r K) (kF_I _ _ (by omega))) (kF_I _ _ (by omega)), hk, rfl⟩
    · rw [if_neg c2]
      refine zEv_run gX10_more 80 [] rfl ?_
      refine zCl_e (ktf_2 hk ha hb c1 (Decidable.not_not.mp c2)) (by decide) ?_
      refine zBrF (by first | (simp only [rI]; omega) | (simp only [rL]; omega)) (by omega) ?_
      refine zBrF (by first | (simp only [rI]; omega) | (simp only [rL]; omega)) (by omega) ?_
      exact ⟨0, kI K 0 2, rfl, rfl, kF_t (kF_r K) (kF_I _ _ (by omega)), hk, rfl⟩
  · rw [if_neg c1]
    refine zEv_run gX10_more 80 [] rfl ?_
    refine zCl_e (ktf_1 hk ha hb c1) (by decide) ?_
    refine zBrF (by first | (simp only [rI]; omega) | (simp only [rL]; omega)) (by omega) ?_
    refine zBrF (by first | (simp only [rI]; omega) | (simp only [rL]; omega)) (by omega) ?_
    exact ⟨0, kI K 0 1, rfl, rfl, kF_t (kF_r K) (kF_I _ _ (by omega)), hk, rfl⟩
end Mdlb
/-- the least face, from f on, by which it is as well to stop -/
def dF (wh go : Int) : Nat → Int → Int
  | 0, _ => 7
  | k + 1, f => if go ≤ f * wh then f else dF wh go k (f + 1)
theorem dF_fl (wh go : Int) : ∀ (k : Nat) (f : Int), go ≤ (f + k) * wh → dF wh go (k + 1) f = vFl wh go k f := by
  intro k
  induction k with
  | zero =>
    intro f h
    rw [dF, if_pos (by rw [show f + ((0 : Nat) : Int) = f by omega] at h; exact h), vFl]
  | succ k ih =>
    intro f h
    rw [dF, vFl]
    by_cases c : go ≤ f * wh
    · rw [if_pos c, if_neg (by omega)]
    · rw [if_neg c, if_pos (by omega), ih (f + 1) (by rw [show f + 1 + (k : Int) = f + ((k + 1 : Nat) : Int) by omega]; exact h)]
section Mdlc
variable {X : mX} {S : sS} {K : kK} {t : zH} {v : vV}
set_option maxHeartbeats 1000000 in
set_option maxRecDepth 100000 in
theorem kStopping (hk : kVn (K.2 0) v (v.1 4)) {d n w : Int} (hd : rI d) (hn : rI n) (hw : rI w) : zEv X 10 mX10_stopping [zR 29, zI d, zI n, zI w] (cX S ++ (cM K ++ t)) (kTq S K t (kcd [1, 2, 0]) (pStopping v d n w)) := by
  unfold pStopping
  have b1 := hk.1.2.1
  have b2 := hk.1.2.2.1
  have b4 := hk.1.2.2.2.2.1
  have hd1 := hd.1
  have hd2 := hd.2
  have hn1 := hn.1
  have hn2 := hn.2
  have hw1 := hw.1
  have hw2 := hw.2
  by_cases c1 : 0 ≤ d ∧ d < v.1 1
  · rw [if_pos c1]
    by_cases c2 : ¬ vTot v.2.1 d = 0
    · rw [if_pos c2]
      by_cases c3 : 1 ≤ n ∧ n ≤ 5
      · rw [if_pos c3]
        by_cases c4 : 0 ≤ w ∧ w ≤ 2
        · rw [if_pos c4]
          have ht := vTot_b hk.1.2.2.2.2.2.1 d
          have l2 : ∀ (j : Int), 0 ≤ j → j < n → (∀ fc : Int, fc = dF (vSt (v.2.1.1 d) (vTot v.2.1 d) j).2 (vSt (v.2.1.1 d) (vTot v.2.1 d) j).1 6 1 → zWP X mX10_stopping 10 (kTq S K t (kcd [1, 2, 0]) (.inl (if w = 2 then vFl ((vTot v.2.1 d) ^ (n - 1).toNat) (vSt (v.2.1.1 d) (vTot v.2.1 d) (n - 1)).1 5 1 else if w = 0 then (vSt (v.2.1.1 d) (vTot v.2.1 d) n).1 / (vTot v.2.1 d) ^ n.toNat else (vSt (v.2.1.1 d) (vTot v.2.1 d) n).1 % (vTot v.2.1 d) ^ n.toNat), v)) 79 [some (zR 29), some (zI d), some (zI n), some (zI w), some (zJ (vSt (v.2.1.1 d) (vTot v.2.1 d) (j + 1)).1), none, some (zJ (vSt (v.2.1.1 d) (vTot v.2.1 d) (j + 1)).2), none, some (zI fc), some (zI (j + 1 + 1)), none, none, none, none, none] [] (cX S ++ (cM (kI K 0 0) ++ t)) 0 0) → ∀ (k : Nat) (i fc : Int), i = k → i ≤ 6 → fc = dF (vSt (v.2.1.1 d) (vTot v.2.1 d) j).2 (vSt (v.2.1.1 d) (vTot v.2.1 d) j).1 (6 - k) (i + 1) → 1 ≤ fc ∧ fc ≤ 7 → zWP X mX10_stopping 10 (kTq S K t (kcd [1, 2, 0]) (.inl (if w = 2 then vFl ((vTot v.2.1 d) ^ (n - 1).toNat) (vSt (v.2.1.1 d) (vTot v.2.1 d) (n - 1)).1 5 1 else if w = 0 then (vSt (v.2.1.1 d) (vTot v.2.1 d) n).1 / (vTot v.2.1 d) ^ n.toNat else (vSt (v.2.1.1 d) (vTot v.2.1 d) n).1 % (vTot v.2.1 d) ^ n.toNat), v)) 96 [some (zR 29), some (zI d), some (zI n), some (zI w), some (zJ (vSt (v.2.1.1 d) (vTot v.2.1 d) j).1), none, some (zJ (vSt (v.2.1.1 d) (vTot v.2.1 d) j).2), none, some (zI fc), some (zI (j + 1)), some (zJ (zSum (fun i => (v.2.1.1 d) (i + 1) * max ((i + 1) * (vSt (v.2.1.1 d) (vTot v.2.1 d) j).2) (vSt (v.2.1.1 d) (vTot v.2.1 d) j).1) 6 - zSum (fun i => (v.2.1.1 d) (i + 1) * max ((i + 1) * (vSt (v.2.1.1 d) (vTot v.2.1 d) j).2) (vSt (v.2.1.1 d) (vTot v.2.1 d) j).1) i)), none, some (zI i), none, none] [] (cX S ++ (cM (kI K 0 0) ++ t)) 0 0 := by
            intro j j0 j1 kk k
            have hb := vSt_b hk.1 d j0
            have hb2 := ipow_5 ht j0 (by omega)
            induction k with
            | zero =>
              intro i fc hi i6 hfc bf
              refine zWP_run gX10_stopping 80 [79, 96] ?_
              refine zBrT (by first | (simp only [rI]; omega) | (simp only [rL]; omega)) (by omega) ?_
              refine zCl_e (kto (K := kI K 0 0) hk c1) (by decide) ?_
              refine mVc_i (by simp only [rI]; omega) ?_
              have k3 := kk fc (by rw [hfc, show i = 0 by omega]; rfl)
              rw [vSt_s _ _ j0, vS1] at k3
              rw [show i = 0 by omega, zSum_0, Int.sub_zero]
              exact zWP_fg k3 (by repeat (first | exact trivial | refine ⟨rfl, ?_⟩))
            | succ k ih =>
              intro i fc hi i6 hfc bf
              have hw := hk.1.2.2.2.2.2.1.1 d i
              have hm := mul_b (a := i) (m := 6) ⟨by omega, by omega⟩ ⟨hb.2.2.1, Int.le_refl _⟩
              have ei : zSum (fun i => (v.2.1.1 d) (i + 1) * max ((i + 1) * (vSt (v.2.1.1 d) (vTot v.2.1 d) j).2) (vSt (v.2.1.1 d) (vTot v.2.1 d) j).1) i = zSum (fun i => (v.2.1.1 d) (i + 1) * max ((i + 1) * (vSt (v.2.1.1 d) (vTot v.2.1 d) j).2) (vSt (v.2.1.1 d) (vTot v.2.1 d) j).1) (i - 1) + (v.2.1.1 d) i * max (i * (vSt (v.2.1.1 d) (vTot v.2.1 d) j).2) (vSt (v.2.1.1 d) (vTot v.2.1 d) j).1 := by
                have e := zSum_s (f := (fun i => (v.2.1.1 d) (i + 1) * max ((i + 1) * (vSt (v.2.1.1 d) (vTot v.2.1 d) j).2) (vSt (v.2.1.1 d) (vTot v.2.1 d) j).1)) (i := i - 1) (by omega)
                rw [show i - 1 + 1 = i by omega] at e
                exact e
              have ed : dF (vSt (v.2.1.1 d) (vTot v.2.1 d) j).2 (vSt (v.2.1.1 d) (vTot v.2.1 d) j).1 (6 - k) (i - 1 + 1) = if (vSt (v.2.1.1 d) (vTot v.2.1 d) j).1 ≤ i * (vSt (v.2.1.1 d) (vTot v.2.1 d) j).2 then i else fc := by
                rw [show 6 - k = 6 - (k + 1) + 1 by omega, dF, show i - 1 + 1 = i by omega, hfc]
              have ea : zSum (fun i => (v.2.1.1 d) (i + 1) * max ((i + 1) * (vSt (v.2.1.1 d) (vTot v.2.1 d) j).2) (vSt (v.2.1.1 d) (vTot v.2.1 d) j).1) 6 - zSum (fun i => (v.2.1.1 d) (i + 1) * max ((i + 1) * (vSt (v.2.1.1 d) (vTot v.2.1 d) j).2) (vSt (v.2.1.1 d) (vTot v.2.1 d) j).1) i + (v.2.1.1 d) i * max (i * (vSt (v.2.1.1 d) (vTot v.2.1 d) j).2) (vSt (v.2.1.1 d) (vTot v.2.1 d) j).1 = zSum (fun i => (v.2.1.1 d) (i + 1) * max ((i + 1) * (vSt (v.2.1.1 d) (vTot v.2.1 d) j).2) (vSt (v.2.1.1 d) (vTot v.2.1 d) j).1) 6 - zSum (fun i => (v.2.1.1 d) (i + 1) * max ((i + 1) * (vSt (v.2.1.1 d) (vTot v.2.1 d) j).2) (vSt (v.2.1.1 d) (vTot v.2.1 d) j).1) (i - 1) := by rw [ei]; omega
              have rest : ∀ fc2 : Int, fc2 = (if (vSt (v.2.1.1 d) (vTot v.2.1 d) j).1 ≤ i * (vSt (v.2.1.1 d) (vTot v.2.1 d) j).2 then i else fc) → 1 ≤ fc2 ∧ fc2 ≤ 7 → zWP X mX10_stopping 10 (kTq S K t (kcd [1, 2, 0]) (.inl (if w = 2 then vFl ((vTot v.2.1 d) ^ (n - 1).toNat) (vSt (v.2.1.1 d) (vTot v.2.1 d) (n - 1)).1 5 1 else if w = 0 then (vSt (v.2.1.1 d) (vTot v.2.1 d) n).1 / (vTot v.2.1 d) ^ n.toNat else (vSt (v.2.1.1 d) (vTot v.2.1 d) n).1 % (vTot v.2.1 d) ^ n.toNat), v)) 122 [some (zR 29), some (zI d), some (zI n), some (zI w), some (zJ (vSt (v.2.1.1 d) (vTot v.2.1 d) j).1), none, some (zJ (vSt (v.2.1.1 d) (vTot v.2.1 d) j).2), none, some (zI fc2), some (zI (j + 1)), some (zJ (zSum (fun i => (v.2.1.1 d) (i + 1) * max ((i + 1) * (vSt (v.2.1.1 d) (vTot v.2.1 d) j).2) (vSt (v.2.1.1 d) (vTot v.2.1 d) j).1) 6 - zSum (fun i => (v.2.1.1 d) (i + 1) * max ((i + 1) * (vSt (v.2.1.1 d) (vTot v.2.1 d) j).2) (vSt (v.2.1.1 d) (vTot v.2.1 d) j).1) i)), none, some (zI i), some (zJ (i * (vSt (v.2.1.1 d) (vTot v.2.1 d) j).2)), none] [] (cX S ++ (cM (kI K 0 0) ++ t)) 0 0 := by
                intro fc2 h2 b2
                have k3 := ih (i - 1) fc2 (by omega) (by omega) (by rw [ed]; exact h2) b2
                rw [← ea] at k3
                refine zWP_run gX10_stopping 80 [79, 96] ?_
                refine zCl_e (kw (K := kI K 0 0) hk c1 (by omega)) (by decide) ?_
                refine mVc_i (by simp only [rI]; omega) ?_
                refine mVc_i (by simp only [rL]; omega) ?_
                exact zWP_fg k3 (by repeat (first | exact trivial | refine ⟨rfl, ?_⟩))
              refine zWP_run gX10_stopping 80 [79, 96, 122] ?_
              refine zBrF (by first | (simp only [rI]; omega) | (simp only [rL]; omega)) (by omega) ?_
              refine mVc_i (by simp only [rI]; omega) ?_
              refine zBr (by simp only [rL]; omega) (fun q => ?_) (fun q => ?_)
              · exact rest fc (by rw [if_neg (by omega)]) bf
              · exact rest i (by rw [if_pos (by omega)]) (by omega)
          have l1 : ∀ (k : Nat) (j fc : Int), 0 ≤ j → j + k = n → (j = n → fc = dF (vSt (v.2.1.1 d) (vTot v.2.1 d) (n - 1)).2 (vSt (v.2.1.1 d) (vTot v.2.1 d) (n - 1)).1 6 1) → 1 ≤ fc ∧ fc ≤ 7 → zWP X mX10_stopping 10 (kTq S K t (kcd [1, 2, 0]) (.inl (if w = 2 then vFl ((vTot v.2.1 d) ^ (n - 1).toNat) (vSt (v.2.1.1 d) (vTot v.2.1 d) (n - 1)).1 5 1 else if w = 0 then (vSt (v.2.1.1 d) (vTot v.2.1 d) n).1 / (vTot v.2.1 d) ^ n.toNat else (vSt (v.2.1.1 d) (vTot v.2.1 d) n).1 % (vTot v.2.1 d) ^ n.toNat), v)) 79 [some (zR 29), some (zI d), some (zI n), some (zI w), some (zJ (vSt (v.2.1.1 d) (vTot v.2.1 d) j).1), none, some (zJ (vSt (v.2.1.1 d) (vTot v.2.1 d) j).2), none, some (zI fc), some (zI (j + 1)), none, none, none, none, none] [] (cX S ++ (cM (kI K 0 0) ++ t)) 0 0 := by
            intro k
            induction k with
            | zero =>
              intro j fc j0 hk0 hfc bf
              have e : j = n := by omega
              subst e
              have hb := vSt_b hk.1 d j0
              have hb2 := ipow_5 ht j0 (by omega)
              have hp : 0 < (vTot v.2.1 d) ^ j.toNat := Int.pow_pos (by omega)
              have hb3 := vSt_b hk.1 d (i := j - 1) (by omega)
              refine zWP_run gX10_stopping 80 [79, 96] ?_
              refine zBrT (by first | (simp only [rI]; omega) | (simp only [rL]; omega)) (by omega) ?_
              by_cases e0 : w = 0
              · refine zBrT (by first | (simp only [rI]; omega) | (simp only [rL]; omega)) e0 ?_
                refine mVc_i (by simp only [rL]; omega) ?_
                rw [if_neg (by omega), if_pos e0, ← hb.2.2.2]
                exact ⟨_, kI K 0 0, rfl, rfl, kF_t (kF_r K) (kF_I _ _ (by omega)), hk, rfl, rfl⟩
              · refine zBrF (by first | (simp only [rI]; omega) | (simp only [rL]; omega)) e0 ?_
                by_cases e1 : w = 1
                · refine zBrT (by first | (simp only [rI]; omega) | (simp only [rL]; omega)) e1 ?_
                  refine mVc_i (by simp only [rL]; omega) ?_
                  rw [if_neg (by omega), if_neg e0, ← hb.2.2.2]
                  exact ⟨_, kI K 0 0, rfl, rfl, kF_t (kF_r K) (kF_I _ _ (by omega)), hk, rfl, rfl⟩
                · refine zBrF (by first | (simp only [rI]; omega) | (simp only [rL]; omega)) e1 ?_
                  refine mVc_i (by simp only [rI]; omega) ?_
                  rw [if_pos (by omega)]
                  refine ⟨_, kI K 0 0, rfl, rfl, kF_t (kF_r K) (kF_I _ _ (by omega)), hk, ?_, rfl⟩
                  rw [hfc rfl, dF_fl _ _ 5 1 (by have := hb3.2.1; show _ ≤ (1 + 5) * _; omega), hb3.2.2.2]
            | succ k ih =>
              intro j fc j0 hk0 hfc bf
              refine zWP_run gX10_stopping 80 [79, 96] ?_
              refine zBrF (by first | (simp only [rI]; omega) | (simp only [rL]; omega)) (by omega) ?_
              have k3 := l2 j j0 (by omega) (fun fc2 h2 => ih (j + 1) fc2 (by omega) (by omega) (fun e => by rw [h2, show n - 1 = j by omega]) (by
                rw [h2]
                have : ∀ (k : Nat) (f : Int), 1 ≤ f → f + k = 7 → 1 ≤ dF (vSt (v.2.1.1 d) (vTot v.2.1 d) j).2 (vSt (v.2.1.1 d) (vTot v.2.1 d) j).1 k f ∧ dF (vSt (v.2.1.1 d) (vTot v.2.1 d) j).2 (vSt (v.2.1.1 d) (vTot v.2.1 d) j).1 k f ≤ 7 := by
                  intro k
                  induction k with
                  | zero => intro f _ _; simp only [dF]; omega
                  | succ k ih =>
                    intro f f0 f1
                    simp only [dF]
                    split
                    · omega
                    · exact ih (f + 1) (by omega) (by omega)
                exact this 6 1 (by omega) (by omega))) 6 6 7 rfl (by omega) rfl (by omega)
              rw [Int.sub_self] at k3
              exact zWP_fg k3 (by repeat (first | exact trivial | refine ⟨rfl, ?_⟩))
          refine zEv_run gX10_stopping 80 [79] rfl ?_
          refine mVc_i (by first | omega | (simp only [rI]; omega) | (simp only [rL]; omega)) ?_
          refine zCl_e (kdie_t (K := K) hk (by simp only [rL]; omega) c1) (by decide) ?_
          refine zBrF (by first | (simp only [rI]; omega) | (simp only [rL]; omega)) (by omega) ?_
          refine zCl_e (kgo hk c1) (by decide) ?_
          refine zBb (fun z => ?_) (fun z => absurd z c2)
          refine mVc_i (by first | omega | (simp only [rI]; omega) | (simp only [rL]; omega)) ?_
          refine zCl_e (kwi_t (by simp only [rL]; omega) (by simp only [rL]; omega) (by simp only [rL]; omega) (by omega)) (by decide) ?_
          refine zBrF (by first | (simp only [rI]; omega) | (simp only [rL]; omega)) (by omega) ?_
          refine mVc_i (by first | omega | (simp only [rI]; omega) | (simp only [rL]; omega)) ?_
          refine zCl_e (kwi_t (by simp only [rL]; omega) (by simp only [rL]; omega) (by simp only [rL]; omega) (by omega)) (by decide) ?_
          refine zBrF (by first | (simp only [rI]; omega) | (simp only [rL]; omega)) (by omega) ?_
          refine zBrT (by first | (simp only [rI]; omega) | (simp only [rL]; omega)) (by omega) ?_
          exact l1 n.toNat 0 1 (by omega) (by omega) (fun e => by omega) (by omega)
        · rw [if_neg c4]
          refine zEv_run gX10_stopping 80 [79] rfl ?_
          refine mVc_i (by first | omega | (simp only [rI]; omega) | (simp only [rL]; omega)) ?_
          refine zCl_e (kdie_t (K := K) hk (by simp only [rL]; omega) c1) (by decide) ?_
          refine zBrF (by first | (simp only [rI]; omega) | (simp only [rL]; omega)) (by omega) ?_
          refine zCl_e (kgo hk c1) (by decide) ?_
          refine zBb (fun z => ?_) (fun z => absurd z c2)
          refine mVc_i (by first | omega | (simp only [rI]; omega) | (simp only [rL]; omega)) ?_
          refine zCl_e (kwi_t (by simp only [rL]; omega) (by simp only [rL]; omega) (by simp only [rL]; omega) (by omega)) (by decide) ?_
          refine zBrF (by first | (simp only [rI]; omega) | (simp only [rL]; omega)) (by omega) ?_
          refine mVc_i (by first | omega | (simp only [rI]; omega) | (simp only [rL]; omega)) ?_
          refine zCl_e (kwi_f (by simp only [rL]; omega) (by simp only [rL]; omega) (by simp only [rL]; omega) (by omega)) (by decide) ?_
          refine zBrT (by first | (simp only [rI]; omega) | (simp only [rL]; omega)) (by omega) ?_
          refine zBrF (by first | (simp only [rI]; omega) | (simp only [rL]; omega)) (by omega) ?_
          exact ⟨0, kI K 0 3, rfl, rfl, kF_t (kF_r K) (kF_I _ _ (by omega)), hk, rfl⟩
      · rw [if_neg c3]
        refine zEv_run gX10_stopping 80 [79] rfl ?_
        refine mVc_i (by first | omega | (simp only [rI]; omega) | (simp only [rL]; omega)) ?_
        refine zCl_e (kdie_t (K := K) hk (by simp only [rL]; omega) c1) (by decide) ?_
        refine zBrF (by first | (simp only [rI]; omega) | (simp only [rL]; omega)) (by omega) ?_
        refine zCl_e (kgo hk c1) (by decide) ?_
        refine zBb (fun z => ?_) (fun z => absurd z c2)
        refine mVc_i (by first | omega | (simp only [rI]; omega) | (simp only [rL]; omega)) ?_
        refine zCl_e (kwi_f (by simp only [rL]; omega) (by simp only [rL]; omega) (by simp only [rL]; omega) (by omega)) (by decide) ?_
        refine zBrT (by first | (simp only [rI]; omega) | (simp only [rL]; omega)) (by omega) ?_
        refine zBrF (by first | (simp only [rI]; omega) | (simp only [rL]; omega)) (by omega) ?_
        exact ⟨0, kI K 0 3, rfl, rfl, kF_t (kF_r K) (kF_I _ _ (by omega)), hk, rfl⟩
    · rw [if_neg c2]
      refine zEv_run gX10_stopping 80 [79] rfl ?_
      refine mVc_i (by first | omega | (simp only [rI]; omega) | (simp only [rL]; omega)) ?_
      refine zCl_e (kdie_t (K := K) hk (by simp only [rL]; omega) c1) (by decide) ?_
      refine zBrF (by first | (simp only [rI]; omega) | (simp only [rL]; omega)) (by omega) ?_
      refine zCl_e (kgo hk c1) (by decide) ?_
      refine zBb (fun z => absurd z c2) (fun z => ?_)
      refine zBrF (by first | (simp only [rI]; omega) | (simp only [rL]; omega)) (by omega) ?_
      exact ⟨0, kI K 0 2, rfl, rfl, kF_t (kF_r K) (kF_I _ _ (by omega)), hk, rfl⟩
  · rw [if_neg c1]
    refine zEv_run gX10_stopping 80 [79] rfl ?_
    refine mVc_i (by first | omega | (simp only [rI]; omega) | (simp only [rL]; omega)) ?_
    refine zCl_e (kdie_f (K := K) hk (by simp only [rL]; omega) c1) (by decide) ?_
    refine zBrT (by first | (simp only [rI]; omega) | (simp only [rL]; omega)) (by omega) ?_
    refine zBrF (by first | (simp only [rI]; omega) | (simp only [rL]; omega)) (by omega) ?_
    exact ⟨0, kI K 0 1, rfl, rfl, kF_t (kF_r K) (kF_I _ _ (by omega)), hk, rfl⟩
set_option maxHeartbeats 1000000 in
set_option maxRecDepth 100000 in
theorem kTally (hk : kVn (K.2 0) v (v.1 4)) {d f : Int} (hd : rI d) (hf : rI f) : zEv X 10 mX10_tally [zR 29, zI d, zI f] (cX S ++ (cM K ++ t)) (kTp S K t (kcd [1, 0]) (pTally v d f)) := by
  unfold pTally
  have b1 := hk.1.2.1
  have b2 := hk.1.2.2.1
  have b4 := hk.1.2.2.2.2.1
  have hd1 := hd.1
  have hd2 := hd.2
  have hf1 := hf.1
  have hf2 := hf.2
  by_cases c1 : 0 ≤ d ∧ d < v.1 1
  · rw [if_pos c1]
    by_cases c2 : 1 ≤ f ∧ f ≤ 6
    · rw [if_pos c2]
      refine zEv_run gX10_tally 80 [] rfl ?_
      refine mVc_i (by first | omega | (simp only [rI]; omega) | (simp only [rL]; omega)) ?_
      refine zCl_e (kdie_t (K := K) hk (by simp only [rL]; omega) c1) (by decide) ?_
      refine zBrF (by first | (simp only [rI]; omega) | (simp only [rL]; omega)) (by omega) ?_
      refine mVc_i (by first | omega | (simp only [rI]; omega) | (simp only [rL]; omega)) ?_
      refine zCl_e (kfc_t (by simp only [rL]; omega) c2) (by decide) ?_
      refine zBrF (by first | (simp only [rI]; omega) | (simp only [rL]; omega)) (by omega) ?_
      refine zBrT (by first | (simp only [rI]; omega) | (simp only [rL]; omega)) (by omega) ?_
      refine zCl_e (kti2 (K := kI K 0 0) hk hd c2) (by decide) ?_
      exact ⟨_, kI K 0 0, rfl, rfl, kF_t (kF_r K) (kF_I _ _ (by omega)), hk, rfl, rfl⟩
    · rw [if_neg c2]
      refine zEv_run gX10_tally 80 [] rfl ?_
      refine mVc_i (by first | omega | (simp only [rI]; omega) | (simp only [rL]; omega)) ?_
      refine zCl_e (kdie_t (K := K) hk (by simp only [rL]; omega) c1) (by decide) ?_
      refine zBrF (by first | (simp only [rI]; omega) | (simp only [rL]; omega)) (by omega) ?_
      refine mVc_i (by first | omega | (simp only [rI]; omega) | (simp only [rL]; omega)) ?_
      refine zCl_e (kfc_f (by simp only [rL]; omega) c2) (by decide) ?_
      refine zBrT (by first | (simp only [rI]; omega) | (simp only [rL]; omega)) (by omega) ?_
      refine zBrF (by first | (simp only [rI]; omega) | (simp only [rL]; omega)) (by omega) ?_
      exact ⟨0, kI K 0 2, rfl, rfl, kF_t (kF_r K) (kF_I _ _ (by omega)), hk, rfl⟩
  · rw [if_neg c1]
    refine zEv_run gX10_tally 80 [] rfl ?_
    refine mVc_i (by first | omega | (simp only [rI]; omega) | (simp only [rL]; omega)) ?_
    refine zCl_e (kdie_f (K := K) hk (by simp only [rL]; omega) c1) (by decide) ?_
    refine zBrT (by first | (simp only [rI]; omega) | (simp only [rL]; omega)) (by omega) ?_
    refine zBrF (by first | (simp only [rI]; omega) | (simp only [rL]; omega)) (by omega) ?_
    exact ⟨0, kI K 0 1, rfl, rfl, kF_t (kF_r K) (kF_I _ _ (by omega)), hk, rfl⟩
set_option maxHeartbeats 1000000 in
set_option maxRecDepth 100000 in
theorem kStreak (hk : kVn (K.2 0) v (v.1 4)) {f : Int} (hf : rI f) : zEv X 10 mX10_streak [zR 29, zI f] (cX S ++ (cM K ++ t)) (kTp S K t (kcd [0]) (pStreak v f)) := by
  unfold pStreak
  have b1 := hk.1.2.1
  have b2 := hk.1.2.2.1
  have b4 := hk.1.2.2.2.2.1
  have hf1 := hf.1
  have hf2 := hf.2
  by_cases c1 : 1 ≤ f ∧ f ≤ 6
  · rw [if_pos c1]
    have lp : ∀ (k : Nat) (i a b : Int), 0 ≤ i → (a, b) = zIt (fun k x => (max x.1 (if v.2.2.2.2.1 k = f then x.2 + 1 else 0), if v.2.2.2.2.1 k = f then x.2 + 1 else 0)) (0, 0) i → 0 ≤ a ∧ a ≤ i → 0 ≤ b ∧ b ≤ i → i + k = v.1 4 → zWP X mX10_streak 10 (kTp S K t (kcd [0]) (.inl ((vRw v f).1), v)) 26 [some (zR 29), some (zI f), some (zI a), some (zI b), some (zI i)] [] (cX S ++ (cM (kI K 0 0) ++ t)) 0 0 := by
      intro k
      induction k with
      | zero =>
        intro i a b g0 hn ha hb0 hk0
        refine zWP_run gX10_streak 80 [26] ?_
        refine zCl_e (kth (K := kI K 0 0) hk) (by decide) ?_
        refine zBrT (by first | (simp only [rI]; omega) | (simp only [rL]; omega)) (by omega) ?_
        refine ⟨a, kI K 0 0, rfl, rfl, kF_t (kF_r K) (kF_I _ _ (by omega)), hk, ?_, rfl⟩
        rw [vRw, ← show i = v.1 4 by omega, ← hn]
      | succ k ih =>
        intro i a b g0 hn ha hb0 hk0
        have hb := hk.1.2.2.2.2.2.2 i g0 (by omega)
        refine zWP_run gX10_streak 80 [26] ?_
        refine zCl_e (kth (K := kI K 0 0) hk) (by decide) ?_
        refine zBrF (by first | (simp only [rI]; omega) | (simp only [rL]; omega)) (by omega) ?_
        refine zCl_e (kp2 (K := kI K 0 0) hk ⟨g0, by omega⟩) (by decide) ?_
        refine zBr (by first | (simp only [rI]; omega) | (simp only [rL]; omega)) (fun c => ?_) (fun c => ?_)
        · refine mVc_i (by simp only [rI]; omega) ?_
          exact ih (i + 1) _ _ (by omega) (by rw [zIt_s _ _ g0, ← hn, if_pos c]) (by omega) (by omega) (by omega)
        · refine mVc_i (by simp only [rI]; omega) ?_
          exact ih (i + 1) _ _ (by omega) (by rw [zIt_s _ _ g0, ← hn, if_neg c]) (by omega) (by omega) (by omega)
    refine zEv_run gX10_streak 80 [26] rfl ?_
    refine mVc_i (by first | omega | (simp only [rI]; omega) | (simp only [rL]; omega)) ?_
    refine zCl_e (kfc_t (by simp only [rL]; omega) c1) (by decide) ?_
    refine zBrF (by first | (simp only [rI]; omega) | (simp only [rL]; omega)) (by omega) ?_
    exact lp (v.1 4).toNat 0 0 0 (by omega) rfl (by omega) (by omega) (by omega)
  · rw [if_neg c1]
    refine zEv_run gX10_streak 80 [26] rfl ?_
    refine mVc_i (by first | omega | (simp only [rI]; omega) | (simp only [rL]; omega)) ?_
    refine zCl_e (kfc_f (by simp only [rL]; omega) c1) (by decide) ?_
    refine zBrT (by first | (simp only [rI]; omega) | (simp only [rL]; omega)) (by omega) ?_
    refine zCl_e (kfa (K := kI K 0 0)) (by decide) ?_
    exact ⟨0, kI (kI K 0 0) 0 1, rfl, rfl, kF_t (kF_t (kF_r K) (kF_I _ _ (by omega))) (kF_I _ _ (by omega)), hk, rfl⟩
set_option maxHeartbeats 1000000 in
set_option maxRecDepth 100000 in
theorem kof (hk : kVn (K.2 0) v (v.1 4)) {x : Int} (hx : rI x) : zEv X 3 mX10_offOf [zR 29, zI x] (cX S ++ (cM K ++ t)) (zIs (.inl (some (zI (vOff v x)))) (cX S ++ (cM K ++ t))) := by
  have hd := vTd_b hk.1 x
  have lp : ∀ (k : Nat) (i n : Int), 0 ≤ i → n = zSum (fun i => vAb (6 * vTf v x (i + 1) - vTd v x)) i → i + k = 6 → zWP X mX10_offOf 3 (zIs (.inl (some (zI (vOff v x)))) (cX S ++ (cM K ++ t))) 4 [some (zR 29), some (zI x), some (zI n), some (zI (i + 1))] [] (cX S ++ (cM K ++ t)) 0 0 := by
    intro k
    induction k with
    | zero =>
      intro i n i0 hn hk0
      refine zWP_run gX10_offOf 80 [4] ?_
      refine zBrT (by first | (simp only [rI]; omega) | (simp only [rL]; omega)) (by omega) ?_
      rw [hn, show i = 6 by omega]
      exact ⟨rfl, rfl⟩
    | succ k ih =>
      intro i n i0 hn hk0
      have hb := vTf_b hk.1 x (i + 1)
      refine zWP_run gX10_offOf 80 [4] ?_
      refine zBrF (by first | (simp only [rI]; omega) | (simp only [rL]; omega)) (by omega) ?_
      refine zCl_e (kti2 hk hx (by omega)) (by decide) ?_
      refine zCl_e (kti1 hk hx) (by decide) ?_
      refine mVc_i (by simp only [rI]; omega) ?_
      exact ih (i + 1) _ (by omega) (by rw [zSum_s i0, ← hn]; rfl) (by omega)
  refine zEv_run gX10_offOf 80 [4] rfl ?_
  exact lp 6 0 0 (by omega) rfl (by omega)
set_option maxHeartbeats 1000000 in
set_option maxRecDepth 100000 in
theorem kOff (hk : kVn (K.2 0) v (v.1 4)) {d : Int} (hd : rI d) : zEv X 10 mX10_off [zR 29, zI d] (cX S ++ (cM K ++ t)) (kTp S K t (kcd [1]) (pOff v d)) := by
  unfold pOff
  have b1 := hk.1.2.1
  have b2 := hk.1.2.2.1
  have b4 := hk.1.2.2.2.2.1
  have hd1 := hd.1
  have hd2 := hd.2
  by_cases c1 : 0 ≤ d ∧ d < v.1 1
  · rw [if_pos c1]
    refine zEv_run gX10_off 80 [] rfl ?_
    refine mVc_i (by first | omega | (simp only [rI]; omega) | (simp only [rL]; omega)) ?_
    refine zCl_e (kdie_t (K := kI K 0 0) hk (by simp only [rL]; omega) c1) (by decide) ?_
    refine zBrF (by first | (simp only [rI]; omega) | (simp only [rL]; omega)) (by omega) ?_
    refine zCl_e (kof (K := kI K 0 0) hk hd) (by decide) ?_
    exact ⟨_, kI K 0 0, rfl, rfl, kF_t (kF_r K) (kF_I _ _ (by omega)), hk, rfl, rfl⟩
  · rw [if_neg c1]
    refine zEv_run gX10_off 80 [] rfl ?_
    refine mVc_i (by first | omega | (simp only [rI]; omega) | (simp only [rL]; omega)) ?_
    refine zCl_e (kdie_f (K := kI K 0 0) hk (by simp only [rL]; omega) c1) (by decide) ?_
    refine zBrT (by first | (simp only [rI]; omega) | (simp only [rL]; omega)) (by omega) ?_
    refine zCl_e (kfa (K := kI K 0 0)) (by decide) ?_
    exact ⟨0, kI (kI K 0 0) 0 1, rfl, rfl, kF_t (kF_t (kF_r K) (kF_I _ _ (by omega))) (kF_I _ _ (by omega)), hk, rfl⟩
set_option maxHeartbeats 1000000 in
set_option maxRecDepth 100000 in
theorem kLoaded (hk : kVn (K.2 0) v (v.1 4)) : zEv X 10 mX10_loaded [zR 29] (cX S ++ (cM K ++ t)) (kTp S K t (kcd []) (pLoaded v)) := by
  have b1 := hk.1.2.1
  have b2 := hk.1.2.2.1
  have b4 := hk.1.2.2.2.2.1
  have lp : ∀ (k : Nat) (i a b : Int), 0 ≤ i → (a, b) = zIt (fun d x => if x.2 < vOff v d then (d, vOff v d) else x) (-1, 0) i → 0 ≤ b ∧ b ≤ 2160 → i + k = v.1 1 → zWP X mX10_loaded 10 (kTp S K t (kcd []) (pLoaded v)) 11 [some (zR 29), some (zI a), some (zI b), some (zI i)] [] (cX S ++ (cM (kI K 0 0) ++ t)) 0 0 := by
    intro k
    induction k with
    | zero =>
      intro i a b g0 hn hb0 hk0
      refine zWP_run gX10_loaded 80 [11] ?_
      refine zCl_e (kdi (K := kI K 0 0) hk) (by decide) ?_
      refine zBrT (by first | (simp only [rI]; omega) | (simp only [rL]; omega)) (by omega) ?_
      refine ⟨a, kI K 0 0, rfl, rfl, kF_t (kF_r K) (kF_I _ _ (by omega)), hk, ?_, rfl⟩
      rw [vLd, ← show i = v.1 1 by omega, ← hn]
    | succ k ih =>
      intro i a b g0 hn hb0 hk0
      have hb := vOff_b hk.1 i
      refine zWP_run gX10_loaded 80 [11] ?_
      refine zCl_e (kdi (K := kI K 0 0) hk) (by decide) ?_
      refine zBrF (by first | (simp only [rI]; omega) | (simp only [rL]; omega)) (by omega) ?_
      refine zCl_e (kof (K := kI K 0 0) hk (by simp only [rI]; omega)) (by decide) ?_
      refine zBr (by first | (simp only [rI]; omega) | (simp only [rL]; omega)) (fun c => ?_) (fun c => ?_)
      · refine zCl_e (kof (K := kI K 0 0) hk (by simp only [rI]; omega)) (by decide) ?_
        exact ih (i + 1) _ _ (by omega) (by rw [zIt_s _ _ g0, ← hn, if_pos (by show b < _; omega)]) (by omega) (by omega)
      · exact ih (i + 1) _ _ (by omega) (by rw [zIt_s _ _ g0, ← hn, if_neg (by show ¬ b < _; omega)]) (by omega) (by omega)
  refine zEv_run gX10_loaded 80 [11] rfl ?_
  exact lp (v.1 1).toNat 0 (-1) 0 (by omega) rfl (by omega) (by omega)
set_option maxHeartbeats 1000000 in
set_option maxRecDepth 100000 in
theorem ktl (hk : kVn (K.2 0) v (v.1 4)) : zEv X 3 mX10_totals [zR 29] (cX S ++ (cM K ++ t)) (zIs (.inl (some (zI (zSum (vTot v.2.1) (v.1 1))))) (cX S ++ (cM K ++ t))) := by
  have b1 := hk.1.2.1
  have b2 := hk.1.2.2.1
  have b4 := hk.1.2.2.2.2.1
  have lp : ∀ (k : Nat) (i n : Int), 0 ≤ i → n = zSum (vTot v.2.1) i → i + k = v.1 1 → zWP X mX10_totals 3 (zIs (.inl (some (zI (zSum (vTot v.2.1) (v.1 1))))) (cX S ++ (cM K ++ t))) 4 [some (zR 29), some (zI n), some (zI i)] [] (cX S ++ (cM K ++ t)) 0 0 := by
    intro k
    induction k with
    | zero =>
      intro i n i0 hn hk0
      refine zWP_run gX10_totals 80 [4] ?_
      refine zCl_e (kdi hk) (by decide) ?_
      refine zBrT (by first | (simp only [rI]; omega) | (simp only [rL]; omega)) (by omega) ?_
      rw [hn, show i = v.1 1 by omega]
      exact ⟨rfl, rfl⟩
    | succ k ih =>
      intro i n i0 hn hk0
      refine zWP_run gX10_totals 80 [4] ?_
      refine zCl_e (kdi hk) (by decide) ?_
      refine zBrF (by first | (simp only [rI]; omega) | (simp only [rL]; omega)) (by omega) ?_
      refine zCl_e (kto hk ⟨i0, by omega⟩) (by decide) ?_
      exact ih (i + 1) _ (by omega) (by rw [zSum_s i0, ← hn]) (by omega)
  refine zEv_run gX10_totals 80 [4] rfl ?_
  exact lp (v.1 1).toNat 0 0 (by omega) rfl (by omega)
end Mdlc
