/-! the reference: best sets, coins -/
theorem sz_ok {l : Int} (h0 : 0 ≤ l) (h1 : l < 32) (hn : ¬ l = 0) : pcn ((Int32.ofInt l &&& Int32.ofInt (l - 1)).toInt) 5 = pcn l 5 - 1 ∧ 0 ≤ (Int32.ofInt l &&& Int32.ofInt (l - 1)).toInt ∧ (Int32.ofInt l &&& Int32.ofInt (l - 1)).toInt < 32 ∧ 1 ≤ pcn l 5 := by
  have h := sz_ok0 ⟨l.toNat, by omega⟩
  simp only [Int.toNat_of_nonneg h0] at h
  exact h hn
theorem vBs_no {v : vV} {n s j : Int} (h0 : 0 ≤ j) (h : ¬ (pcn (j + 1) 5 = n ∧ ¬ vWh v (j + 1) (v.1 1) = 0 ∧ ((vBs v n s j).1 = -1 ∨ (vBs v n s j).2.1 * vWh v (j + 1) (v.1 1) < vGe (vSm v (j + 1) (v.1 1)) (max s 0) * (vBs v n s j).2.2))) : vBs v n s (j + 1) = vBs v n s j := by rw [vBs_s v n s h0, vB1, if_neg h]
theorem vBs_yes {v : vV} {n s j : Int} (h0 : 0 ≤ j) (h : pcn (j + 1) 5 = n ∧ ¬ vWh v (j + 1) (v.1 1) = 0 ∧ ((vBs v n s j).1 = -1 ∨ (vBs v n s j).2.1 * vWh v (j + 1) (v.1 1) < vGe (vSm v (j + 1) (v.1 1)) (max s 0) * (vBs v n s j).2.2)) : vBs v n s (j + 1) = (j + 1, vGe (vSm v (j + 1) (v.1 1)) (max s 0), vWh v (j + 1) (v.1 1)) := by rw [vBs_s v n s h0, vB1, if_pos h]
section Mdl8
variable {X : mX} {S : sS} {K : kK} {t : zH} {v : vV}
set_option maxHeartbeats 1000000 in
set_option maxRecDepth 100000 in
theorem ksz {c : Int} (hc : 0 ≤ c ∧ c < 32) {h : zH} : zEv X 1 mX10_size [zI c] (h) (zIs (.inl (some (zI (pcn c 5)))) h) := by
  have lp : ∀ (k : Nat) (l n : Int), 0 ≤ l → l < 32 → pcn l 5 = k → n + k = pcn c 5 → 0 ≤ n ∧ n ≤ 5 → zWP X mX10_size 1 (zIs (.inl (some (zI (pcn c 5)))) h) 4 [some (zI c), some (zI n), some (zI l)] [] h 0 0 := by
    intro k
    induction k with
    | zero =>
      intro l n l0 l1 hp hn hb
      refine zWP_run gX10_size 60 [4] ?_
      have e : l = 0 := Classical.byContradiction fun e => by
        have := (sz_ok l0 l1 e).2.2.2
        omega
      refine zBrT (by first | (simp only [rI]; omega) | (simp only [rL]; omega)) e ?_
      rw [show n = pcn c 5 by omega]
      exact ⟨rfl, rfl⟩
    | succ k ih =>
      intro l n l0 l1 hp hn hb
      have hb5 := pcn_b c (i := 5) (by omega)
      have e : ¬ l = 0 := fun e => by
        rw [e] at hp
        have : pcn 0 5 = 0 := by decide
        omega
      have h3 := sz_ok l0 l1 e
      refine zWP_run gX10_size 60 [4] ?_
      refine zBrF (by first | (simp only [rI]; omega) | (simp only [rL]; omega)) e ?_
      exact ih _ (n + 1) h3.2.1 h3.2.2.1 (by rw [h3.1]; omega) (by omega) (by omega)
  have hb5 := pcn_b c (i := 5) (by omega)
  refine zEv_run gX10_size 60 [4] rfl ?_
  exact lp (pcn c 5).toNat c 0 hc.1 hc.2 (by omega) (by omega) (by omega)
set_option maxHeartbeats 1000000 in
set_option maxRecDepth 100000 in
theorem kBestSet (hk : kVn (K.2 0) v (v.1 4)) {n s : Int} (hn : rI n) (hs : rI s) : zEv X 10 mX10_bestSet [zR 29, zI n, zI s] (cX S ++ (cM K ++ t)) (kTp S K t (kcd [0]) (pBestSet v n s)) := by
  unfold pBestSet
  have b1 := hk.1.2.1
  have b2 := hk.1.2.2.1
  have b4 := hk.1.2.2.2.2.1
  have hn1 := hn.1
  have hn2 := hn.2
  have hs1 := hs.1
  have hs2 := hs.2
  have p2 : (2 : Int) ^ (v.1 1).toNat ≤ 32 ∧ 1 ≤ (2 : Int) ^ (v.1 1).toNat := by
    have h : v.1 1 = 0 ∨ v.1 1 = 1 ∨ v.1 1 = 2 ∨ v.1 1 = 3 ∨ v.1 1 = 4 ∨ v.1 1 = 5 := by omega
    rcases h with h | h | h | h | h | h <;> rw [h] <;> decide
  by_cases c1 : 1 ≤ n ∧ n ≤ 3
  · rw [if_pos c1]
    have e0 := bt_shl (k := v.1 1) b1.1 (by omega)
    have l1 : ∀ (k : Nat) (j : Int) (R : kK), 0 ≤ j → j + 1 + k = 2 ^ (v.1 1).toNat → -1 ≤ (vBs v n s j).1 ∧ (vBs v n s j).1 ≤ 31 → 0 ≤ (vBs v n s j).2.1 ∧ (vBs v n s j).2.1 ≤ 53568000 → 0 ≤ (vBs v n s j).2.2 ∧ (vBs v n s j).2.2 ≤ 1728000 → kF K R → R.1 0 = 0 → kV (R.2 0) v → zWP X mX10_bestSet 10 (kTp S K t (kcd [0]) (.inl ((vBs v n s (2 ^ (v.1 1).toNat - 1)).1), v)) 34 [some (zR 29), some (zI n), some (zI s), some (zI (vBs v n s j).1), some (zJ (vBs v n s j).2.1), none, some (zJ (vBs v n s j).2.2), none, some (zI (j + 1)), none, none] [] (cX S ++ (cM R ++ t)) 0 0 := by
      intro k
      induction k with
      | zero =>
        intro j R j0 hk0 bx by0 bz hf r0 hr
        refine zWP_run gX10_bestSet 80 [34] ?_
        refine zCl_e (kdi hr) (by decide) ?_
        refine zBrT ⟨by simp only [rI]; omega, rI_toInt _⟩ (by show (Int32.ofInt 1 <<< (Int32.ofInt (v.1 1) &&& 31)).toInt ≤ j + 1; rw [e0]; omega) ?_
        rw [← show j = 2 ^ (v.1 1).toNat - 1 by omega]
        exact ⟨_, R, rfl, rfl, hf, hr, rfl, r0⟩
      | succ k ih =>
        intro j R j0 hk0 bx by0 bz hf r0 hr
        have hw := vWh_b hk.1 (j + 1) b1.1
        have hp := pcn_b (j + 1) b1.1
        have hp5 := pcn_b (j + 1) (i := 5) (by omega)
        have hpm := pcn_m (j + 1) b1.1 b1.2
        have hp9 := p120 hp.1 (by omega)
        have st0 : ¬ (pcn (j + 1) 5 = n ∧ ¬ vWh v (j + 1) (v.1 1) = 0 ∧ ((vBs v n s j).1 = -1 ∨ (vBs v n s j).2.1 * vWh v (j + 1) (v.1 1) < vGe (vSm v (j + 1) (v.1 1)) (max s 0) * (vBs v n s j).2.2)) → ∀ R, kF K R → R.1 0 = 0 → kV (R.2 0) v → zWP X mX10_bestSet 10 (kTp S K t (kcd [0]) (.inl ((vBs v n s (2 ^ (v.1 1).toNat - 1)).1), v)) 34 [some (zR 29), some (zI n), some (zI s), some (zI (vBs v n s j).1), some (zJ (vBs v n s j).2.1), none, some (zJ (vBs v n s j).2.2), none, some (zI (j + 1 + 1)), none, none] [] (cX S ++ (cM R ++ t)) 0 0 := by
          intro q R hf r0 hr
          have e := vBs_no j0 q
          have k3 := ih (j + 1) R (by omega) (by omega) (by rw [e]; exact bx) (by rw [e]; exact by0) (by rw [e]; exact bz) hf r0 hr
          rw [e] at k3
          exact k3
        refine zWP_run gX10_bestSet 80 [34] ?_
        refine zCl_e (kdi hr) (by decide) ?_
        refine zBrF ⟨by simp only [rI]; omega, rI_toInt _⟩ (by show ¬ (Int32.ofInt 1 <<< (Int32.ofInt (v.1 1) &&& 31)).toInt ≤ j + 1; rw [e0]; omega) ?_
        refine zCl_e (ksz ⟨by omega, by omega⟩) (by decide) ?_
        refine zBr (by simp only [rI]; omega) (fun q1 => ?_) (fun q1 => ?_)
        · have hp3 := p120_3 hp.1 (by omega)
          by_cases q2 : vWh v (j + 1) (v.1 1) = 0
          · refine zCl_e (ksf_2 hr (by simp only [rI]; omega) ⟨by omega, by omega⟩ q2) (by decide) ?_
            refine zBrF (by first | (simp only [rI]; omega) | (simp only [rL]; omega)) (by omega) ?_
            exact zWP_fg (st0 (fun q => q.2.1 q2) R hf r0 hr) (by repeat (first | exact trivial | refine ⟨rfl, ?_⟩))
          · refine zCl_e (ksf_t hr (by simp only [rI]; omega) ⟨by omega, by omega⟩ q2) (by decide) ?_
            refine zBrT (by first | (simp only [rI]; omega) | (simp only [rL]; omega)) (by omega) ?_
            refine zCl_i (kge hr ⟨by omega, by omega⟩ hs) (by decide) ?_
            rintro o9 h9 ⟨rfl, f, rfl⟩
            have hsm := vSm_b hk.1 (j + 1) b1.1
            have hge : 0 ≤ vGe (vSm v (j + 1) (v.1 1)) (max s 0) ∧ vGe (vSm v (j + 1) (v.1 1)) (max s 0) ≤ 53568000 := by
              by_cases c9 : max s 0 ≤ 31
              · have := vGe_b (r := vSm v (j + 1) (v.1 1)) (B := 1728000) (s := max s 0) (i := 31 - max s 0) (by omega) (fun q => ⟨(hsm q).1, Int.le_trans (hsm q).2 hp3⟩) (by omega) (by omega)
                simp only [vGe]
                omega
              · have e8 : (31 - max s 0).toNat = 0 := by omega
                simp only [vGe, zSum, e8, vSum]
                omega
            have hwh : 0 ≤ vWh v (j + 1) (v.1 1) ∧ vWh v (j + 1) (v.1 1) ≤ 1728000 := by omega
            have m1 := mul_b by0 hwh
            have m2 := mul_b hge bz
            have hf2 : kF K (kA R 7 f) := kF_t hf (kF_A _ _ (by omega))
            have st1 : ((vBs v n s j).1 = -1 ∨ (vBs v n s j).2.1 * vWh v (j + 1) (v.1 1) < vGe (vSm v (j + 1) (v.1 1)) (max s 0) * (vBs v n s j).2.2) → zWP X mX10_bestSet 10 (kTp S K t (kcd [0]) (.inl ((vBs v n s (2 ^ (v.1 1).toNat - 1)).1), v)) 34 [some (zR 29), some (zI n), some (zI s), some (zI (j + 1)), some (zJ (vGe (vSm v (j + 1) (v.1 1)) (max s 0))), none, some (zJ (vWh v (j + 1) (v.1 1))), none, some (zI (j + 1 + 1)), none, none] [] (cX S ++ (cM (kA R 7 f) ++ t)) 0 0 := by
              intro q
              have e := vBs_yes j0 ⟨q1, q2, q⟩
              have k3 := ih (j + 1) (kA R 7 f) (by omega) (by omega) (by rw [e]; show -1 ≤ j + 1 ∧ j + 1 ≤ 31; omega) (by rw [e]; exact hge) (by rw [e]; exact hwh) hf2 r0 hr
              rw [e] at k3
              exact k3
            refine zBr (by simp only [rI]; omega) (fun q3 => ?_) (fun q3 => ?_)
            · refine zCl_e (kall (K := kA R 7 f) hr ⟨by omega, by omega⟩) (by decide) ?_
              exact zWP_fg (st1 (Or.inl q3)) (by repeat (first | exact trivial | refine ⟨rfl, ?_⟩))
            · refine zCl_e (kall (K := kA R 7 f) hr ⟨by omega, by omega⟩) (by decide) ?_
              refine zBr ?_ (fun q4 => ?_) (fun q4 => ?_)
              · show rL (vGe (vSm v (j + 1) (v.1 1)) (max s 0) * (vBs v n s j).2.2) ∧ rL ((vBs v n s j).2.1 * vWh v (j + 1) (v.1 1))
                simp only [rL]
                omega
              · refine zCl_e (kall (K := kA R 7 f) hr ⟨by omega, by omega⟩) (by decide) ?_
                exact zWP_fg (st1 (Or.inr q4)) (by repeat (first | exact trivial | refine ⟨rfl, ?_⟩))
              · exact zWP_fg (st0 (fun q => by rcases q.2.2 with q | q; exact q3 q; exact q4 q) (kA R 7 f) hf2 r0 hr) (by repeat (first | exact trivial | refine ⟨rfl, ?_⟩))
        · exact zWP_fg (st0 (fun q => q1 q.1) R hf r0 hr) (by repeat (first | exact trivial | refine ⟨rfl, ?_⟩))
    have h9 : ((2 ^ (v.1 1).toNat : Nat) : Int) = (2 : Int) ^ (v.1 1).toNat := by simp
    have k9 := l1 (2 ^ (v.1 1).toNat - 1) 0 (kI K 0 0) (by omega) (by omega) (by show -1 ≤ (-1 : Int) ∧ (-1 : Int) ≤ 31; omega) (by show (0 : Int) ≤ 0 ∧ (0 : Int) ≤ 53568000; omega) (by show (0 : Int) ≤ 1 ∧ (1 : Int) ≤ 1728000; omega) (kF_t (kF_r K) (kF_I _ _ (by omega))) rfl hk
    have k8 : zWP X mX10_bestSet 10 (kTp S K t (kcd [0]) (.inl ((vBs v n s (2 ^ (v.1 1).toNat - 1)).1), v)) 34 [some (zR 29), some (zI n), some (zI s), some (zI (-1)), some (zJ 0), none, some (zJ 1), none, some (zI (0)), none, none] [] (cX S ++ (cM (kI K 0 0) ++ t)) 0 0 := by
      refine zWP_run gX10_bestSet 80 [34] ?_
      refine zCl_e (kdi (K := kI K 0 0) hk) (by decide) ?_
      refine zBrF ⟨by simp only [rI]; omega, rI_toInt _⟩ (by show ¬ (Int32.ofInt 1 <<< (Int32.ofInt (v.1 1) &&& 31)).toInt ≤ 0; rw [e0]; omega) ?_
      refine zCl_e (ksz ⟨by omega, by omega⟩) (by decide) ?_
      have e5 : pcn 0 5 = 0 := by decide
      rw [e5]
      refine zBrF (by first | (simp only [rI]; omega) | (simp only [rL]; omega)) (by omega) ?_
      exact zWP_fg k9 (by repeat (first | exact trivial | refine ⟨rfl, ?_⟩))
    refine zEv_run gX10_bestSet 80 [34] rfl ?_
    refine mVc_i (by first | omega | (simp only [rI]; omega) | (simp only [rL]; omega)) ?_
    refine zCl_e (kwi_t (by simp only [rL]; omega) (by simp only [rL]; omega) (by simp only [rL]; omega) (by omega)) (by decide) ?_
    refine zBrF (by first | (simp only [rI]; omega) | (simp only [rL]; omega)) (by omega) ?_
    exact zWP_fg k8 (by repeat (first | exact trivial | refine ⟨rfl, ?_⟩))
  · rw [if_neg c1]
    refine zEv_run gX10_bestSet 80 [34] rfl ?_
    refine mVc_i (by first | omega | (simp only [rI]; omega) | (simp only [rL]; omega)) ?_
    refine zCl_e (kwi_f (by simp only [rL]; omega) (by simp only [rL]; omega) (by simp only [rL]; omega) (by omega)) (by decide) ?_
    refine zBrT (by first | (simp only [rI]; omega) | (simp only [rL]; omega)) (by omega) ?_
    refine zCl_e (kfa (K := kI K 0 0)) (by decide) ?_
    exact ⟨0, kI (kI K 0 0) 0 1, rfl, rfl, kF_t (kF_t (kF_r K) (kF_I _ _ (by omega))) (kF_I _ _ (by omega)), hk, rfl⟩
end Mdl8
/-- what the coins' row is worth when k throws are left -/
def cPh (x : Nat → Int) (V : Int → Int) (g : Int) : Int := zSum (fun c => x c.toNat * V c) (g + 1)
theorem cPh_up {x : Nat → Int} {V : Int → Int} {g j a : Int} (h0 : 0 ≤ j) (h1 : j ≤ g) : cPh (va_up x j.toNat (x j.toNat + a)) V g = cPh x V g + a * V j := by
  have e : (va_up x j.toNat (x j.toNat + a) j.toNat) * V j - x j.toNat * V j = a * V j := by
    rw [va_up_s, Int.add_mul]
    omega
  unfold cPh
  by_cases hz : ∀ i : Int, i ≠ j → i.toNat ≠ j.toNat
  · rw [zSum_up (f := fun c => va_up x j.toNat (x j.toNat + a) c.toNat * V c) (g := fun c => x c.toNat * V c) (j := j) (fun i hi => by rw [va_up_o _ _ (hz i hi)]) h0 (by omega), e]
  · rw [zSum_cg (f := fun c => va_up x j.toNat (x j.toNat + a) c.toNat * V c) (g := fun c => (if c = j then x j.toNat + a else x c.toNat) * V c) (fun i i0 i1 => by
      by_cases c : i = j
      · simp only [c, if_true, va_up_s]
      · rw [va_up_o _ _ (by omega), if_neg c]), zSum_up (f := fun c => (if c = j then x j.toNat + a else x c.toNat) * V c) (g := fun c => x c.toNat * V c) (j := j) (fun i hi => by rw [if_neg hi]) h0 (by omega), if_pos rfl]
    rw [Int.add_mul]
    omega
theorem cPh_cg {x y : Nat → Int} {V : Int → Int} {g : Int} (h : ∀ c : Int, 0 ≤ c → c ≤ g → x c.toNat = y c.toNat) : cPh x V g = cPh y V g := zSum_cg fun c c0 c1 => by rw [h c c0 (by omega)]
theorem cPh_z {x : Nat → Int} {V : Int → Int} {g : Int} (h : ∀ c : Int, 0 ≤ c → c ≤ g → x c.toNat = 0) : cPh x V g = 0 := by
  unfold cPh
  rw [zSum_cg (g := fun _ => 0 * 0) (fun c c0 c1 => by rw [h c c0 (by omega), Int.zero_mul]; rfl), zSum_mul]
  omega
theorem vCg_0 {w tt g : Int} (hg : 0 < g) (k : Nat) : vCg w tt g k 0 = 0 := by
  cases k with
  | zero => rw [vCg, if_neg (by omega)]
  | succ k => rw [vCg, if_neg (by omega), if_pos (by omega)]
theorem vCg_g (w tt g : Int) (k : Nat) : vCg w tt g k g = tt ^ k := by
  cases k with
  | zero => rw [vCg, if_pos (by omega)]; exact (Int.pow_zero tt).symm
  | succ k => rw [vCg, if_pos (by omega)]
theorem vCg_m {w tt g c : Int} (h0 : 0 < c) (h1 : c < g) (k : Nat) : vCg w tt g (k + 1) c = w * vCg w tt g k (c + 1) + (tt - w) * vCg w tt g k (c - 1) := by rw [vCg, if_neg (by omega), if_neg (by omega)]
section Mdl9
variable {X : mX} {S : sS} {K : kK} {t : zH} {v : vV}
set_option maxHeartbeats 1000000 in
set_option maxRecDepth 100000 in
theorem kCoins (hk : kVn (K.2 0) v (v.1 4)) {d c e n : Int} (hd : rI d) (hc : rI c) (he : rI e) (hn : rI n) : zEv X 10 mX10_coins [zR 29, zI d, zI c, zI e, zI n] (cX S ++ (cM K ++ t)) (kTq S K t (kcd [1, 0, 2]) (pCoins v d c e n)) := by
  unfold pCoins
  have b1 := hk.1.2.1
  have b2 := hk.1.2.2.1
  have b4 := hk.1.2.2.2.2.1
  have hd1 := hd.1
  have hd2 := hd.2
  have hc1 := hc.1
  have hc2 := hc.2
  have he1 := he.1
  have he2 := he.2
  have hn1 := hn.1
  have hn2 := hn.2
  by_cases c1 : 0 ≤ d ∧ d < v.1 1
  · rw [if_pos c1]
    by_cases c2 : (1 ≤ c ∧ c ≤ 9) ∧ c < e ∧ e ≤ 10
    · rw [if_pos c2]
      by_cases c3 : 0 ≤ n ∧ n ≤ 8
      · rw [if_pos c3]
        by_cases c4 : ¬ vTot v.2.1 d = 0
        · rw [if_pos c4]
          have ht := vTot_b hk.1.2.2.2.2.2.1 d
          have w4 := hk.1.2.2.2.2.2.1.1 d 4
          have w5 := hk.1.2.2.2.2.2.1.1 d 5
          have w6 := hk.1.2.2.2.2.2.1.1 d 6
          have alg : ∀ A a u b p q : Int, A + a * u * p + a * b * q = A + a * (u * p + b * q) := fun A a u b p q => by rw [Int.mul_add, Int.mul_assoc, Int.mul_assoc, Int.add_assoc]
          have hfr : ∀ x y : Nat → Int, kF K (kA (kA (kI K 0 0) 9 x) 10 y) := fun x y => kF_t (kF_t (kF_t (kF_r K) (kF_I _ _ (by omega))) (kF_A _ _ (by omega))) (kF_A _ _ (by omega))
          have lcp : ∀ (j : Int), 0 ≤ j → (∀ x2 y2 : Nat → Int, (∀ i : Int, 0 ≤ i → i < 11 → x2 i.toNat = y2 i.toNat) → cPh y2 (vCg (v.2.1.1 d 4 + v.2.1.1 d 5 + v.2.1.1 d 6) (vTot v.2.1 d) e (n - (j + 1)).toNat) e = vCg (v.2.1.1 d 4 + v.2.1.1 d 5 + v.2.1.1 d 6) (vTot v.2.1 d) e n.toNat c → zWP X mX10_coins 10 (kTq S K t (kcd [1, 0, 2]) (.inl (vCg (v.2.1.1 d 4 + v.2.1.1 d 5 + v.2.1.1 d 6) (vTot v.2.1 d) e n.toNat c), v)) 167 [some (zR 29), some (zI d), some (zI c), some (zI e), some (zI n), some (zI 1), some (zJ (v.2.1.1 d 4 + v.2.1.1 d 5 + v.2.1.1 d 6)), none, some (zJ ((vTot v.2.1 d) - (v.2.1.1 d 4 + v.2.1.1 d 5 + v.2.1.1 d 6))), none, some (zI (j + 1)), none] [] (cX S ++ (cM (kA (kA (kI K 0 0) 9 x2) 10 y2) ++ t)) 0 0) → ∀ (k : Nat) (i : Int) (x y : Nat → Int), 0 ≤ i → i + k = 11 → (∀ q : Int, 0 ≤ q → q < i → x q.toNat = y q.toNat) → cPh y (vCg (v.2.1.1 d 4 + v.2.1.1 d 5 + v.2.1.1 d 6) (vTot v.2.1 d) e (n - (j + 1)).toNat) e = vCg (v.2.1.1 d 4 + v.2.1.1 d 5 + v.2.1.1 d 6) (vTot v.2.1 d) e n.toNat c → zWP X mX10_coins 10 (kTq S K t (kcd [1, 0, 2]) (.inl (vCg (v.2.1.1 d 4 + v.2.1.1 d 5 + v.2.1.1 d 6) (vTot v.2.1 d) e n.toNat c), v)) 298 [some (zR 29), some (zI d), some (zI c), some (zI e), some (zI n), some (zI 1), some (zJ (v.2.1.1 d 4 + v.2.1.1 d 5 + v.2.1.1 d 6)), none, some (zJ ((vTot v.2.1 d) - (v.2.1.1 d 4 + v.2.1.1 d 5 + v.2.1.1 d 6))), none, some (zI j), some (zI i)] [] (cX S ++ (cM (kA (kA (kI K 0 0) 9 x) 10 y) ++ t)) 0 0 := by
            intro j j0 kk k
            induction k with
            | zero =>
              intro i x y i0 hk0 hx hp
              refine zWP_run gX10_coins 80 [167, 298] ?_
              refine zBrT (by first | (simp only [rI]; omega) | (simp only [rL]; omega)) (by omega) ?_
              exact zWP_fg (kk x y (fun q q0 q1 => hx q q0 (by omega)) hp) (by repeat (first | exact trivial | refine ⟨rfl, ?_⟩))
            | succ k ih =>
              intro i x y i0 hk0 hx hp
              refine zWP_run gX10_coins 80 [167, 298] ?_
              refine zBrF (by first | (simp only [rI]; omega) | (simp only [rL]; omega)) (by omega) ?_
              refine mVc_i (by omega) ?_
              refine mVc_i (by omega) ?_
              exact ih (i + 1) (va_up x i.toNat (y i.toNat)) y (by omega) (by omega) (fun q q0 q1 => by
                by_cases z : q = i
                · rw [z, va_up_s]
                · rw [va_up_o _ _ (by omega)]; exact hx q q0 (by omega)) hp
          have lst : ∀ (j : Int) (x : Nat → Int), 0 ≤ j → j < n → (∀ y2 : Nat → Int, cPh y2 (vCg (v.2.1.1 d 4 + v.2.1.1 d 5 + v.2.1.1 d 6) (vTot v.2.1 d) e (n - (j + 1)).toNat) e = cPh x (vCg (v.2.1.1 d 4 + v.2.1.1 d 5 + v.2.1.1 d 6) (vTot v.2.1 d) e (n - j).toNat) e → zWP X mX10_coins 10 (kTq S K t (kcd [1, 0, 2]) (.inl (vCg (v.2.1.1 d 4 + v.2.1.1 d 5 + v.2.1.1 d 6) (vTot v.2.1 d) e n.toNat c), v)) 295 [some (zR 29), some (zI d), some (zI c), some (zI e), some (zI n), some (zI 1), some (zJ (v.2.1.1 d 4 + v.2.1.1 d 5 + v.2.1.1 d 6)), none, some (zJ ((vTot v.2.1 d) - (v.2.1.1 d 4 + v.2.1.1 d 5 + v.2.1.1 d 6))), none, some (zI j), none] [] (cX S ++ (cM (kA (kA (kI K 0 0) 9 x) 10 y2) ++ t)) 0 0) → ∀ (k : Nat) (i : Int) (y : Nat → Int), 0 ≤ i → i + k = e + 1 → cPh y (vCg (v.2.1.1 d 4 + v.2.1.1 d 5 + v.2.1.1 d 6) (vTot v.2.1 d) e (n - (j + 1)).toNat) e = zSum (fun q => x q.toNat * (vCg (v.2.1.1 d 4 + v.2.1.1 d 5 + v.2.1.1 d 6) (vTot v.2.1 d) e (n - j).toNat) q) i → zWP X mX10_coins 10 (kTq S K t (kcd [1, 0, 2]) (.inl (vCg (v.2.1.1 d 4 + v.2.1.1 d 5 + v.2.1.1 d 6) (vTot v.2.1 d) e n.toNat c), v)) 201 [some (zR 29), some (zI d), some (zI c), some (zI e), some (zI n), some (zI 1), some (zJ (v.2.1.1 d 4 + v.2.1.1 d 5 + v.2.1.1 d 6)), none, some (zJ ((vTot v.2.1 d) - (v.2.1.1 d 4 + v.2.1.1 d 5 + v.2.1.1 d 6))), none, some (zI j), some (zI i)] [] (cX S ++ (cM (kA (kA (kI K 0 0) 9 x) 10 y) ++ t)) 0 0 := by
            intro j x j0 j1 kk k
            have en : (n - j).toNat = (n - (j + 1)).toNat + 1 := by omega
            induction k with
            | zero =>
              intro i y i0 hk0 hp
              refine zWP_run gX10_coins 80 [201, 295] ?_
              refine zBrT (by first | (simp only [rI]; omega) | (simp only [rL]; omega)) (by omega) ?_
              exact zWP_fg (kk y (by rw [hp, show i = e + 1 by omega]; rfl)) (by repeat (first | exact trivial | refine ⟨rfl, ?_⟩))
            | succ k ih =>
              intro i y i0 hk0 hp
              refine zWP_run gX10_coins 120 [201, 218, 295] ?_
              refine zBrF (by first | (simp only [rI]; omega) | (simp only [rL]; omega)) (by omega) ?_
              have edge : (vCg (v.2.1.1 d 4 + v.2.1.1 d 5 + v.2.1.1 d 6) (vTot v.2.1 d) e (n - j).toNat) i = (vTot v.2.1 d) * (vCg (v.2.1.1 d 4 + v.2.1.1 d 5 + v.2.1.1 d 6) (vTot v.2.1 d) e (n - (j + 1)).toNat) i → zWP X mX10_coins 10 (kTq S K t (kcd [1, 0, 2]) (.inl (vCg (v.2.1.1 d 4 + v.2.1.1 d 5 + v.2.1.1 d 6) (vTot v.2.1 d) e n.toNat c), v)) 218 [some (zR 29), some (zI d), some (zI c), some (zI e), some (zI n), some (zI 1), some (zJ (v.2.1.1 d 4 + v.2.1.1 d 5 + v.2.1.1 d 6)), none, some (zJ ((vTot v.2.1 d) - (v.2.1.1 d 4 + v.2.1.1 d 5 + v.2.1.1 d 6))), none, some (zI j), some (zI i)] [] (cX S ++ (cM (kA (kA (kI K 0 0) 9 x) 10 y) ++ t)) 0 0 := by
                intro hv
                refine zWP_run gX10_coins 120 [201, 295] ?_
                refine mVc_i (by omega) ?_
                refine mVc_i (by omega) ?_
                refine zCl_e (kto (K := kA (kA (kI K 0 0) 9 x) 10 y) hk c1) (by decide) ?_
                refine mVc_i (by simp only [rI]; omega) ?_
                refine mVc_i (by omega) ?_
                refine ih (i + 1) (va_up y i.toNat (y i.toNat + x i.toNat * (vTot v.2.1 d))) (by omega) (by omega) ?_
                rw [cPh_up i0 (by omega), hp, zSum_s i0, hv, Int.mul_assoc]
              by_cases z0 : i = 0
              · refine zBrT (by first | (simp only [rI]; omega) | (simp only [rL]; omega)) z0 ?_
                exact edge (by rw [z0, vCg_0 (by omega), vCg_0 (by omega), Int.mul_zero])
              · refine zBrF (by first | (simp only [rI]; omega) | (simp only [rL]; omega)) z0 ?_
                by_cases z1 : i = e
                · refine zBrT (by first | (simp only [rI]; omega) | (simp only [rL]; omega)) z1 ?_
                  exact edge (by rw [z1, vCg_g, vCg_g, en, Int.pow_succ, Int.mul_comm])
                · refine zBrF (by first | (simp only [rI]; omega) | (simp only [rL]; omega)) z1 ?_
                  refine mVc_i (by omega) ?_
                  refine mVc_i (by omega) ?_
                  refine mVc_i (by omega) ?_
                  refine mVc_i (by omega) ?_
                  refine mVc_i (by omega) ?_
                  refine mVc_i (by omega) ?_
                  refine ih (i + 1) (va_up (va_up y (i + 1).toNat (y (i + 1).toNat + x i.toNat * (v.2.1.1 d 4 + v.2.1.1 d 5 + v.2.1.1 d 6))) (i - 1).toNat ((va_up y (i + 1).toNat (y (i + 1).toNat + x i.toNat * (v.2.1.1 d 4 + v.2.1.1 d 5 + v.2.1.1 d 6))) (i - 1).toNat + x i.toNat * ((vTot v.2.1 d) - (v.2.1.1 d 4 + v.2.1.1 d 5 + v.2.1.1 d 6)))) (by omega) (by omega) ?_
                  rw [cPh_up (by omega) (by omega), cPh_up (by omega) (by omega), hp, zSum_s i0, en, vCg_m (by omega) (by omega)]
                  exact alg _ _ _ _ _ _
          have lz : ∀ (j : Int) (x : Nat → Int), 0 ≤ j → j < n → (∀ y2 : Nat → Int, (∀ i : Int, 0 ≤ i → i < 11 → y2 i.toNat = 0) → zWP X mX10_coins 10 (kTq S K t (kcd [1, 0, 2]) (.inl (vCg (v.2.1.1 d 4 + v.2.1.1 d 5 + v.2.1.1 d 6) (vTot v.2.1 d) e n.toNat c), v)) 198 [some (zR 29), some (zI d), some (zI c), some (zI e), some (zI n), some (zI 1), some (zJ (v.2.1.1 d 4 + v.2.1.1 d 5 + v.2.1.1 d 6)), none, some (zJ ((vTot v.2.1 d) - (v.2.1.1 d 4 + v.2.1.1 d 5 + v.2.1.1 d 6))), none, some (zI j), none] [] (cX S ++ (cM (kA (kA (kI K 0 0) 9 x) 10 y2) ++ t)) 0 0) → ∀ (k : Nat) (i : Int) (y : Nat → Int), 0 ≤ i → i + k = 11 → (∀ q : Int, 0 ≤ q → q < i → y q.toNat = 0) → zWP X mX10_coins 10 (kTq S K t (kcd [1, 0, 2]) (.inl (vCg (v.2.1.1 d 4 + v.2.1.1 d 5 + v.2.1.1 d 6) (vTot v.2.1 d) e n.toNat c), v)) 177 [some (zR 29), some (zI d), some (zI c), some (zI e), some (zI n), some (zI 1), some (zJ (v.2.1.1 d 4 + v.2.1.1 d 5 + v.2.1.1 d 6)), none, some (zJ ((vTot v.2.1 d) - (v.2.1.1 d 4 + v.2.1.1 d 5 + v.2.1.1 d 6))), none, some (zI j), some (zI i)] [] (cX S ++ (cM (kA (kA (kI K 0 0) 9 x) 10 y) ++ t)) 0 0 := by
            intro j x j0 j1 kk k
            induction k with
            | zero =>
              intro i y i0 hk0 hy
              refine zWP_run gX10_coins 80 [177, 198] ?_
              refine zBrT (by first | (simp only [rI]; omega) | (simp only [rL]; omega)) (by omega) ?_
              exact zWP_fg (kk y (fun q q0 q1 => hy q q0 (by omega))) (by repeat (first | exact trivial | refine ⟨rfl, ?_⟩))
            | succ k ih =>
              intro i y i0 hk0 hy
              refine zWP_run gX10_coins 80 [177, 198] ?_
              refine zBrF (by first | (simp only [rI]; omega) | (simp only [rL]; omega)) (by omega) ?_
              refine mVc_i (by omega) ?_
              exact ih (i + 1) (va_up y i.toNat 0) (by omega) (by omega) (fun q q0 q1 => by
                by_cases z : q = i
                · rw [z, va_up_s]
                · rw [va_up_o _ _ (by omega)]; exact hy q q0 (by omega))
          have lj : ∀ (k : Nat) (j : Int) (x y : Nat → Int), 0 ≤ j → j + k = n → cPh x (vCg (v.2.1.1 d 4 + v.2.1.1 d 5 + v.2.1.1 d 6) (vTot v.2.1 d) e (n - j).toNat) e = vCg (v.2.1.1 d 4 + v.2.1.1 d 5 + v.2.1.1 d 6) (vTot v.2.1 d) e n.toNat c → zWP X mX10_coins 10 (kTq S K t (kcd [1, 0, 2]) (.inl (vCg (v.2.1.1 d 4 + v.2.1.1 d 5 + v.2.1.1 d 6) (vTot v.2.1 d) e n.toNat c), v)) 167 [some (zR 29), some (zI d), some (zI c), some (zI e), some (zI n), some (zI 1), some (zJ (v.2.1.1 d 4 + v.2.1.1 d 5 + v.2.1.1 d 6)), none, some (zJ ((vTot v.2.1 d) - (v.2.1.1 d 4 + v.2.1.1 d 5 + v.2.1.1 d 6))), none, some (zI j), none] [] (cX S ++ (cM (kA (kA (kI K 0 0) 9 x) 10 y) ++ t)) 0 0 := by
            intro k
            induction k with
            | zero =>
              intro j x y j0 hk0 hp
              refine zWP_run gX10_coins 80 [167, 177] ?_
              refine zBrT (by first | (simp only [rI]; omega) | (simp only [rL]; omega)) (by omega) ?_
              refine mVc_i (by omega) ?_
              refine ⟨_, kA (kA (kI K 0 0) 9 x) 10 y, rfl, rfl, hfr x y, hk, ?_, rfl⟩
              show x e.toNat = vCg (v.2.1.1 d 4 + v.2.1.1 d 5 + v.2.1.1 d 6) (vTot v.2.1 d) e n.toNat c
              rw [← hp, show (n - j).toNat = 0 by omega]
              unfold cPh
              rw [zSum_s (by omega), zSum_cg (g := fun _ => 0 * 0) (fun q q0 q1 => by rw [vCg, if_neg (by omega)]; omega), zSum_mul, vCg, if_pos (by omega), Int.mul_one]
              omega
            | succ k ih =>
              intro j x y j0 hk0 hp
              refine zWP_run gX10_coins 80 [167, 177] ?_
              refine zBrF (by first | (simp only [rI]; omega) | (simp only [rL]; omega)) (by omega) ?_
              refine lz j x j0 (by omega) (fun y2 hy2 => ?_) 11 0 y (by omega) (by omega) (fun q q0 q1 => by omega)
              refine zWP_run gX10_coins 80 [201] ?_
              refine lst j x j0 (by omega) (fun y3 hy3 => ?_) (e + 1).toNat 0 y2 (by omega) (by omega) (by rw [cPh_z (fun q q0 q1 => hy2 q q0 (by omega))]; rfl)
              refine zWP_run gX10_coins 80 [298] ?_
              exact lcp j j0 (fun x4 y4 h4 p4 => ih (j + 1) x4 y4 (by omega) (by omega) (by rw [cPh_cg (fun q q0 q1 => h4 q q0 (by omega))]; exact p4)) 11 0 x y3 (by omega) (by omega) (fun q q0 q1 => by omega) (by rw [hy3, hp])
          have l0 : ∀ (k : Nat) (i : Int) (x : Nat → Int), 0 ≤ i → i + k = 11 → (∀ q : Int, 0 ≤ q → q < i → x q.toNat = if q = c then 1 else 0) → zWP X mX10_coins 10 (kTq S K t (kcd [1, 0, 2]) (.inl (vCg (v.2.1.1 d 4 + v.2.1.1 d 5 + v.2.1.1 d 6) (vTot v.2.1 d) e n.toNat c), v)) 133 [some (zR 29), some (zI d), some (zI c), some (zI e), some (zI n), some (zI 1), some (zJ (v.2.1.1 d 4 + v.2.1.1 d 5 + v.2.1.1 d 6)), none, some (zJ ((vTot v.2.1 d) - (v.2.1.1 d 4 + v.2.1.1 d 5 + v.2.1.1 d 6))), none, some (zI i), none] [] (cX S ++ (cM (kA (kA (kI K 0 0) 9 x) 10 (K.2 10)) ++ t)) 0 0 := by
            intro k
            induction k with
            | zero =>
              intro i x i0 hk0 hx
              refine zWP_run gX10_coins 80 [133, 167] ?_
              refine zBrT (by first | (simp only [rI]; omega) | (simp only [rL]; omega)) (by omega) ?_
              refine lj n.toNat 0 x (K.2 10) (by omega) (by omega) ?_
              rw [show (n - 0).toNat = n.toNat by omega]
              unfold cPh
              rw [zSum_up (f := fun q => x q.toNat * (vCg (v.2.1.1 d 4 + v.2.1.1 d 5 + v.2.1.1 d 6) (vTot v.2.1 d) e n.toNat) q) (g := fun q => if q = c then 0 else x q.toNat * (vCg (v.2.1.1 d 4 + v.2.1.1 d 5 + v.2.1.1 d 6) (vTot v.2.1 d) e n.toNat) q) (j := c) (fun q hq => by rw [if_neg hq]) (by omega) (by omega), zSum_cg (f := fun q => if q = c then 0 else x q.toNat * (vCg (v.2.1.1 d 4 + v.2.1.1 d 5 + v.2.1.1 d 6) (vTot v.2.1 d) e n.toNat) q) (g := fun _ => 0 * 0) (fun q q0 q1 => by
                split
                · rfl
                · rename_i z
                  rw [hx q q0 (by omega), if_neg z]
                  omega), zSum_mul, hx c (by omega) (by omega)]
              simp only [if_true]
              omega
            | succ k ih =>
              intro i x i0 hk0 hx
              refine zWP_run gX10_coins 80 [133, 167] ?_
              refine zBrF (by first | (simp only [rI]; omega) | (simp only [rL]; omega)) (by omega) ?_
              refine zBr (by first | (simp only [rI]; omega) | (simp only [rL]; omega)) (fun z => ?_) (fun z => ?_)
              · refine mVc_i (by omega) ?_
                exact ih (i + 1) (va_up x i.toNat 1) (by omega) (by omega) (fun q q0 q1 => by
                  by_cases z9 : q = i
                  · rw [z9, va_up_s, if_pos z]
                  · rw [va_up_o _ _ (by omega)]; exact hx q q0 (by omega))
              · refine mVc_i (by omega) ?_
                exact ih (i + 1) (va_up x i.toNat 0) (by omega) (by omega) (fun q q0 q1 => by
                  by_cases z9 : q = i
                  · rw [z9, va_up_s, if_neg z]
                  · rw [va_up_o _ _ (by omega)]; exact hx q q0 (by omega))
          refine zEv_run gX10_coins 120 [133] rfl ?_
          refine mVc_i (by first | omega | (simp only [rI]; omega) | (simp only [rL]; omega)) ?_
          refine zCl_e (kwi_t (by simp only [rL]; omega) (by simp only [rL]; omega) (by simp only [rL]; omega) (by omega)) (by decide) ?_
          refine zBrF (by first | (simp only [rI]; omega) | (simp only [rL]; omega)) (by omega) ?_
          refine mVc_i (by first | omega | (simp only [rI]; omega) | (simp only [rL]; omega)) ?_
          refine mVc_i (by first | omega | (simp only [rI]; omega) | (simp only [rL]; omega)) ?_
          refine zCl_e (kwi_t (by simp only [rL]; omega) (by simp only [rL]; omega) (by simp only [rL]; omega) (by omega)) (by decide) ?_
          refine zBrF (by first | (simp only [rI]; omega) | (simp only [rL]; omega)) (by omega) ?_
          refine mVc_i (by first | omega | (simp only [rI]; omega) | (simp only [rL]; omega)) ?_
          refine zCl_e (kwi_t (by simp only [rL]; omega) (by simp only [rL]; omega) (by simp only [rL]; omega) (by omega)) (by decide) ?_
          refine zBrF (by first | (simp only [rI]; omega) | (simp only [rL]; omega)) (by omega) ?_
          refine mVc_i (by first | omega | (simp only [rI]; omega) | (simp only [rL]; omega)) ?_
          refine zCl_e (kdie_t (K := K) hk (by simp only [rL]; omega) c1) (by decide) ?_
          refine zBrF (by first | (simp only [rI]; omega) | (simp only [rL]; omega)) (by omega) ?_
          refine zBrF (by first | (simp only [rI]; omega) | (simp only [rL]; omega)) (by omega) ?_
          refine zCl_e (kgo hk c1) (by decide) ?_
          refine zBb (fun z => ?_) (fun z => absurd z c4)
          refine zBrT (by first | (simp only [rI]; omega) | (simp only [rL]; omega)) (by omega) ?_
          refine zCl_e (kw (K := kI K 0 0) hk c1 (by omega)) (by decide) ?_
          refine zCl_e (kw (K := kI K 0 0) hk c1 (by omega)) (by decide) ?_
          refine zCl_e (kw (K := kI K 0 0) hk c1 (by omega)) (by decide) ?_
          refine mVc_i (by first | omega | (simp only [rI]; omega) | (simp only [rL]; omega)) ?_
          refine zCl_e (kto (K := kI K 0 0) hk c1) (by decide) ?_
          refine mVc_i (by first | omega | (simp only [rI]; omega) | (simp only [rL]; omega)) ?_
          have k9 := l0 11 0 (K.2 9) (by omega) (by omega) (fun q q0 q1 => by omega)
          rw [show kA (kA (kI K 0 0) 9 (K.2 9)) 10 (K.2 10) = kI K 0 0 by rw [show kA (kI K 0 0) 9 (K.2 9) = kI K 0 0 from kA_same (kI K 0 0) 9]; exact kA_same (kI K 0 0) 10] at k9
          exact k9
        · rw [if_neg c4]
          refine zEv_run gX10_coins 120 [133] rfl ?_
          refine mVc_i (by first | omega | (simp only [rI]; omega) | (simp only [rL]; omega)) ?_
          refine zCl_e (kwi_t (by simp only [rL]; omega) (by simp only [rL]; omega) (by simp only [rL]; omega) (by omega)) (by decide) ?_
          refine zBrF (by first | (simp only [rI]; omega) | (simp only [rL]; omega)) (by omega) ?_
          refine mVc_i (by first | omega | (simp only [rI]; omega) | (simp only [rL]; omega)) ?_
          refine mVc_i (by first | omega | (simp only [rI]; omega) | (simp only [rL]; omega)) ?_
          refine zCl_e (kwi_t (by simp only [rL]; omega) (by simp only [rL]; omega) (by simp only [rL]; omega) (by omega)) (by decide) ?_
          refine zBrF (by first | (simp only [rI]; omega) | (simp only [rL]; omega)) (by omega) ?_
          refine mVc_i (by first | omega | (simp only [rI]; omega) | (simp only [rL]; omega)) ?_
          refine zCl_e (kwi_t (by simp only [rL]; omega) (by simp only [rL]; omega) (by simp only [rL]; omega) (by omega)) (by decide) ?_
          refine zBrF (by first | (simp only [rI]; omega) | (simp only [rL]; omega)) (by omega) ?_
          refine mVc_i (by first | omega | (simp only [rI]; omega) | (simp only [rL]; omega)) ?_
          refine zCl_e (kdie_t (K := K) hk (by simp only [rL]; omega) c1) (by decide) ?_
          refine zBrF (by first | (simp only [rI]; omega) | (simp only [rL]; omega)) (by omega) ?_
          refine zBrF (by first | (simp only [rI]; omega) | (simp only [rL]; omega)) (by omega) ?_
          refine zCl_e (kgo hk c1) (by decide) ?_
          refine zBb (fun z => absurd z c4) (fun z => ?_)
          refine zBrF (by first | (simp only [rI]; omega) | (simp only [rL]; omega)) (by omega) ?_
          exact ⟨0, kI K 0 3, rfl, rfl, kF_t (kF_r K) (kF_I _ _ (by omega)), hk, rfl⟩
      · rw [if_neg c3]
        by_cases g1 : 1 ≤ c ∧ c ≤ 9
        · by_cases g2 : c + 1 ≤ e ∧ e ≤ 10
          · by_cases g3 : 0 ≤ n ∧ n ≤ 8
            · omega
            · refine zEv_run gX10_coins 120 [133] rfl ?_
              refine mVc_i (by first | omega | (simp only [rI]; omega) | (simp only [rL]; omega)) ?_
              refine zCl_e (kwi_t (by simp only [rL]; omega) (by simp only [rL]; omega) (by simp only [rL]; omega) (by omega)) (by decide) ?_
              refine zBrF (by first | (simp only [rI]; omega) | (simp only [rL]; omega)) (by omega) ?_
              refine mVc_i (by first | omega | (simp only [rI]; omega) | (simp only [rL]; omega)) ?_
              refine mVc_i (by first | omega | (simp only [rI]; omega) | (simp only [rL]; omega)) ?_
              refine zCl_e (kwi_t (by simp only [rL]; omega) (by simp only [rL]; omega) (by simp only [rL]; omega) (by omega)) (by decide) ?_
              refine zBrF (by first | (simp only [rI]; omega) | (simp only [rL]; omega)) (by omega) ?_
              refine mVc_i (by first | omega | (simp only [rI]; omega) | (simp only [rL]; omega)) ?_
              refine zCl_e (kwi_f (by simp only [rL]; omega) (by simp only [rL]; omega) (by simp only [rL]; omega) (by omega)) (by decide) ?_
              refine zBrT (by first | (simp only [rI]; omega) | (simp only [rL]; omega)) (by omega) ?_
              refine mVc_i (by first | omega | (simp only [rI]; omega) | (simp only [rL]; omega)) ?_
              refine zCl_e (kdie_t (K := K) hk (by simp only [rL]; omega) c1) (by decide) ?_
              refine zBrF (by first | (simp only [rI]; omega) | (simp only [rL]; omega)) (by omega) ?_
              refine zBrT (by first | (simp only [rI]; omega) | (simp only [rL]; omega)) (by omega) ?_
              refine zBrF (by first | (simp only [rI]; omega) | (simp only [rL]; omega)) (by omega) ?_
              exact ⟨0, kI K 0 2, rfl, rfl, kF_t (kF_r K) (kF_I _ _ (by omega)), hk, rfl⟩
          · refine zEv_run gX10_coins 120 [133] rfl ?_
            refine mVc_i (by first | omega | (simp only [rI]; omega) | (simp only [rL]; omega)) ?_
            refine zCl_e (kwi_t (by simp only [rL]; omega) (by simp only [rL]; omega) (by simp only [rL]; omega) (by omega)) (by decide) ?_
            refine zBrF (by first | (simp only [rI]; omega) | (simp only [rL]; omega)) (by omega) ?_
            refine mVc_i (by first | omega | (simp only [rI]; omega) | (simp only [rL]; omega)) ?_
            refine mVc_i (by first | omega | (simp only [rI]; omega) | (simp only [rL]; omega)) ?_
            refine zCl_e (kwi_f (by simp only [rL]; omega) (by simp only [rL]; omega) (by simp only [rL]; omega) (by omega)) (by decide) ?_
            refine zBrT (by first | (simp only [rI]; omega) | (simp only [rL]; omega)) (by omega) ?_
            refine mVc_i (by first | omega | (simp only [rI]; omega) | (simp only [rL]; omega)) ?_
            refine zCl_e (kdie_t (K := K) hk (by simp only [rL]; omega) c1) (by decide) ?_
            refine zBrF (by first | (simp only [rI]; omega) | (simp only [rL]; omega)) (by omega) ?_
            refine zBrT (by first | (simp only [rI]; omega) | (simp only [rL]; omega)) (by omega) ?_
            refine zBrF (by first | (simp only [rI]; omega) | (simp only [rL]; omega)) (by omega) ?_
            exact ⟨0, kI K 0 2, rfl, rfl, kF_t (kF_r K) (kF_I _ _ (by omega)), hk, rfl⟩
        · refine zEv_run gX10_coins 120 [133] rfl ?_
          refine mVc_i (by first | omega | (simp only [rI]; omega) | (simp only [rL]; omega)) ?_
          refine zCl_e (kwi_f (by simp only [rL]; omega) (by simp only [rL]; omega) (by simp only [rL]; omega) (by omega)) (by decide) ?_
          refine zBrT (by first | (simp only [rI]; omega) | (simp only [rL]; omega)) (by omega) ?_
          refine mVc_i (by first | omega | (simp only [rI]; omega) | (simp only [rL]; omega)) ?_
          refine zCl_e (kdie_t (K := K) hk (by simp only [rL]; omega) c1) (by decide) ?_
          refine zBrF (by first | (simp only [rI]; omega) | (simp only [rL]; omega)) (by omega) ?_
          refine zBrT (by first | (simp only [rI]; omega) | (simp only [rL]; omega)) (by omega) ?_
          refine zBrF (by first | (simp only [rI]; omega) | (simp only [rL]; omega)) (by omega) ?_
          exact ⟨0, kI K 0 2, rfl, rfl, kF_t (kF_r K) (kF_I _ _ (by omega)), hk, rfl⟩
    · rw [if_neg c2]
      by_cases g1 : 1 ≤ c ∧ c ≤ 9
      · by_cases g2 : c + 1 ≤ e ∧ e ≤ 10
        · by_cases g3 : 0 ≤ n ∧ n ≤ 8
          · omega
          · refine zEv_run gX10_coins 120 [133] rfl ?_
            refine mVc_i (by first | omega | (simp only [rI]; omega) | (simp only [rL]; omega)) ?_
            refine zCl_e (kwi_t (by simp only [rL]; omega) (by simp only [rL]; omega) (by simp only [rL]; omega) (by omega)) (by decide) ?_
            refine zBrF (by first | (simp only [rI]; omega) | (simp only [rL]; omega)) (by omega) ?_
            refine mVc_i (by first | omega | (simp only [rI]; omega) | (simp only [rL]; omega)) ?_
            refine mVc_i (by first | omega | (simp only [rI]; omega) | (simp only [rL]; omega)) ?_
            refine zCl_e (kwi_t (by simp only [rL]; omega) (by simp only [rL]; omega) (by simp only [rL]; omega) (by omega)) (by decide) ?_
            refine zBrF (by first | (simp only [rI]; omega) | (simp only [rL]; omega)) (by omega) ?_
            refine mVc_i (by first | omega | (simp only [rI]; omega) | (simp only [rL]; omega)) ?_
            refine zCl_e (kwi_f (by simp only [rL]; omega) (by simp only [rL]; omega) (by simp only [rL]; omega) (by omega)) (by decide) ?_
            refine zBrT (by first | (simp only [rI]; omega) | (simp only [rL]; omega)) (by omega) ?_
            refine mVc_i (by first | omega | (simp only [rI]; omega) | (simp only [rL]; omega)) ?_
            refine zCl_e (kdie_t (K := K) hk (by simp only [rL]; omega) c1) (by decide) ?_
            refine zBrF (by first | (simp only [rI]; omega) | (simp only [rL]; omega)) (by omega) ?_
            refine zBrT (by first | (simp only [rI]; omega) | (simp only [rL]; omega)) (by omega) ?_
            refine zBrF (by first | (simp only [rI]; omega) | (simp only [rL]; omega)) (by omega) ?_
            exact ⟨0, kI K 0 2, rfl, rfl, kF_t (kF_r K) (kF_I _ _ (by omega)), hk, rfl⟩
        · refine zEv_run gX10_coins 120 [133] rfl ?_
          refine mVc_i (by first | omega | (simp only [rI]; omega) | (simp only [rL]; omega)) ?_
          refine zCl_e (kwi_t (by simp only [rL]; omega) (by simp only [rL]; omega) (by simp only [rL]; omega) (by omega)) (by decide) ?_
          refine zBrF (by first | (simp only [rI]; omega) | (simp only [rL]; omega)) (by omega) ?_
          refine mVc_i (by first | omega | (simp only [rI]; omega) | (simp only [rL]; omega)) ?_
          refine mVc_i (by first | omega | (simp only [rI]; omega) | (simp only [rL]; omega)) ?_
          refine zCl_e (kwi_f (by simp only [rL]; omega) (by simp only [rL]; omega) (by simp only [rL]; omega) (by omega)) (by decide) ?_
          refine zBrT (by first | (simp only [rI]; omega) | (simp only [rL]; omega)) (by omega) ?_
          refine mVc_i (by first | omega | (simp only [rI]; omega) | (simp only [rL]; omega)) ?_
          refine zCl_e (kdie_t (K := K) hk (by simp only [rL]; omega) c1) (by decide) ?_
          refine zBrF (by first | (simp only [rI]; omega) | (simp only [rL]; omega)) (by omega) ?_
          refine zBrT (by first | (simp only [rI]; omega) | (simp only [rL]; omega)) (by omega) ?_
          refine zBrF (by first | (simp only [rI]; omega) | (simp only [rL]; omega)) (by omega) ?_
          exact ⟨0, kI K 0 2, rfl, rfl, kF_t (kF_r K) (kF_I _ _ (by omega)), hk, rfl⟩
      · refine zEv_run gX10_coins 120 [133] rfl ?_
        refine mVc_i (by first | omega | (simp only [rI]; omega) | (simp only [rL]; omega)) ?_
        refine zCl_e (kwi_f (by simp only [rL]; omega) (by simp only [rL]; omega) (by simp only [rL]; omega) (by omega)) (by decide) ?_
        refine zBrT (by first | (simp only [rI]; omega) | (simp only [rL]; omega)) (by omega) ?_
        refine mVc_i (by first | omega | (simp only [rI]; omega) | (simp only [rL]; omega)) ?_
        refine zCl_e (kdie_t (K := K) hk (by simp only [rL]; omega) c1) (by decide) ?_
        refine zBrF (by first | (simp only [rI]; omega) | (simp only [rL]; omega)) (by omega) ?_
        refine zBrT (by first | (simp only [rI]; omega) | (simp only [rL]; omega)) (by omega) ?_
        refine zBrF (by first | (simp only [rI]; omega) | (simp only [rL]; omega)) (by omega) ?_
        exact ⟨0, kI K 0 2, rfl, rfl, kF_t (kF_r K) (kF_I _ _ (by omega)), hk, rfl⟩
  · rw [if_neg c1]
    by_cases g1 : 1 ≤ c ∧ c ≤ 9
    · by_cases g2 : c + 1 ≤ e ∧ e ≤ 10
      · by_cases g3 : 0 ≤ n ∧ n ≤ 8
        · refine zEv_run gX10_coins 120 [133] rfl ?_
          refine mVc_i (by first | omega | (simp only [rI]; omega) | (simp only [rL]; omega)) ?_
          refine zCl_e (kwi_t (by simp only [rL]; omega) (by simp only [rL]; omega) (by simp only [rL]; omega) (by omega)) (by decide) ?_
          refine zBrF (by first | (simp only [rI]; omega) | (simp only [rL]; omega)) (by omega) ?_
          refine mVc_i (by first | omega | (simp only [rI]; omega) | (simp only [rL]; omega)) ?_
          refine mVc_i (by first | omega | (simp only [rI]; omega) | (simp only [rL]; omega)) ?_
          refine zCl_e (kwi_t (by simp only [rL]; omega) (by simp only [rL]; omega) (by simp only [rL]; omega) (by omega)) (by decide) ?_
          refine zBrF (by first | (simp only [rI]; omega) | (simp only [rL]; omega)) (by omega) ?_
          refine mVc_i (by first | omega | (simp only [rI]; omega) | (simp only [rL]; omega)) ?_
          refine zCl_e (kwi_t (by simp only [rL]; omega) (by simp only [rL]; omega) (by simp only [rL]; omega) (by omega)) (by decide) ?_
          refine zBrF (by first | (simp only [rI]; omega) | (simp only [rL]; omega)) (by omega) ?_
          refine mVc_i (by first | omega | (simp only [rI]; omega) | (simp only [rL]; omega)) ?_
          refine zCl_e (kdie_f (K := K) hk (by simp only [rL]; omega) c1) (by decide) ?_
          refine zBrT (by first | (simp only [rI]; omega) | (simp only [rL]; omega)) (by omega) ?_
          refine zBrF (by first | (simp only [rI]; omega) | (simp only [rL]; omega)) (by omega) ?_
          exact ⟨0, kI K 0 1, rfl, rfl, kF_t (kF_r K) (kF_I _ _ (by omega)), hk, rfl⟩
        · refine zEv_run gX10_coins 120 [133] rfl ?_
          refine mVc_i (by first | omega | (simp only [rI]; omega) | (simp only [rL]; omega)) ?_
          refine zCl_e (kwi_t (by simp only [rL]; omega) (by simp only [rL]; omega) (by simp only [rL]; omega) (by omega)) (by decide) ?_
          refine zBrF (by first | (simp only [rI]; omega) | (simp only [rL]; omega)) (by omega) ?_
          refine mVc_i (by first | omega | (simp only [rI]; omega) | (simp only [rL]; omega)) ?_
          refine mVc_i (by first | omega | (simp only [rI]; omega) | (simp only [rL]; omega)) ?_
          refine zCl_e (kwi_t (by simp only [rL]; omega) (by simp only [rL]; omega) (by simp only [rL]; omega) (by omega)) (by decide) ?_
          refine zBrF (by first | (simp only [rI]; omega) | (simp only [rL]; omega)) (by omega) ?_
          refine mVc_i (by first | omega | (simp only [rI]; omega) | (simp only [rL]; omega)) ?_
          refine zCl_e (kwi_f (by simp only [rL]; omega) (by simp only [rL]; omega) (by simp only [rL]; omega) (by omega)) (by decide) ?_
          refine zBrT (by first | (simp only [rI]; omega) | (simp only [rL]; omega)) (by omega) ?_
          refine mVc_i (by first | omega | (simp only [rI]; omega) | (simp only [rL]; omega)) ?_
          refine zCl_e (kdie_f (K := K) hk (by simp only [rL]; omega) c1) (by decide) ?_
          refine zBrT (by first | (simp only [rI]; omega) | (simp only [rL]; omega)) (by omega) ?_
          refine zBrF (by first | (simp only [rI]; omega) | (simp only [rL]; omega)) (by omega) ?_
          exact ⟨0, kI K 0 1, rfl, rfl, kF_t (kF_r K) (kF_I _ _ (by omega)), hk, rfl⟩
      · refine zEv_run gX10_coins 120 [133] rfl ?_
        refine mVc_i (by first | omega | (simp only [rI]; omega) | (simp only [rL]; omega)) ?_
        refine zCl_e (kwi_t (by simp only [rL]; omega) (by simp only [rL]; omega) (by simp only [rL]; omega) (by omega)) (by decide) ?_
        refine zBrF (by first | (simp only [rI]; omega) | (simp only [rL]; omega)) (by omega) ?_
        refine mVc_i (by first | omega | (simp only [rI]; omega) | (simp only [rL]; omega)) ?_
        refine mVc_i (by first | omega | (simp only [rI]; omega) | (simp only [rL]; omega)) ?_
        refine zCl_e (kwi_f (by simp only [rL]; omega) (by simp only [rL]; omega) (by simp only [rL]; omega) (by omega)) (by decide) ?_
        refine zBrT (by first | (simp only [rI]; omega) | (simp only [rL]; omega)) (by omega) ?_
        refine mVc_i (by first | omega | (simp only [rI]; omega) | (simp only [rL]; omega)) ?_
        refine zCl_e (kdie_f (K := K) hk (by simp only [rL]; omega) c1) (by decide) ?_
        refine zBrT (by first | (simp only [rI]; omega) | (simp only [rL]; omega)) (by omega) ?_
        refine zBrF (by first | (simp only [rI]; omega) | (simp only [rL]; omega)) (by omega) ?_
        exact ⟨0, kI K 0 1, rfl, rfl, kF_t (kF_r K) (kF_I _ _ (by omega)), hk, rfl⟩
    · refine zEv_run gX10_coins 120 [133] rfl ?_
      refine mVc_i (by first | omega | (simp only [rI]; omega) | (simp only [rL]; omega)) ?_
      refine zCl_e (kwi_f (by simp only [rL]; omega) (by simp only [rL]; omega) (by simp only [rL]; omega) (by omega)) (by decide) ?_
      refine zBrT (by first | (simp only [rI]; omega) | (simp only [rL]; omega)) (by omega) ?_
      refine mVc_i (by first | omega | (simp only [rI]; omega) | (simp only [rL]; omega)) ?_
      refine zCl_e (kdie_f (K := K) hk (by simp only [rL]; omega) c1) (by decide) ?_
      refine zBrT (by first | (simp only [rI]; omega) | (simp only [rL]; omega)) (by omega) ?_
      refine zBrF (by first | (simp only [rI]; omega) | (simp only [rL]; omega)) (by omega) ?_
      exact ⟨0, kI K 0 1, rfl, rfl, kF_t (kF_r K) (kF_I _ _ (by omega)), hk, rfl⟩
end Mdl9
