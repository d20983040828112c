/-! ants told ahead; draws and lots -/
def vEn (v : vV) (d f m : Int) : Int := if v.2.1.2.1 d = 1 then v.2.1.1 d f else vEp v d m (vPs v f)
def vLf (v : vV) (d i : Int) : Int := zIt (fun p l => if 0 < vWp v d p then vAf v p else l) (-1) i
/-- draws -/
def dN (s : Int) : Int := 1103515245 * s + 12345
def dW (s : Int) : Int := ((Int32.ofInt s).toUInt32 >>> ((Int32.ofInt 16).toUInt32 &&& Int32.toUInt32 31)).toInt32.toInt
theorem dW_b (s : Int) : 0 ≤ dW s ∧ dW s < 65536 := by
  have e : (Int32.ofInt 16).toUInt32 &&& Int32.toUInt32 31 = 16 := by decide
  have h1 : ((Int32.ofInt s).toUInt32 >>> 16).toBitVec.toNat < 65536 := by
    show ((Int32.ofInt s).toUInt32 >>> 16).toNat < 65536
    rw [UInt32.toNat_shiftRight]
    have := (Int32.ofInt s).toUInt32.toNat_lt
    simp only [Nat.shiftRight_eq_div_pow]
    have e2 : (16 : UInt32).toNat % 32 = 16 := by decide
    rw [e2]
    omega
  simp only [dW, e]
  show 0 ≤ ((Int32.ofInt s).toUInt32 >>> 16).toBitVec.toInt ∧ ((Int32.ofInt s).toUInt32 >>> 16).toBitVec.toInt < 65536
  rw [BitVec.toInt_eq_toNat_of_lt (by omega)]
  omega
theorem vX_17 {S : sS} {v : vV} (hv : vX S v) (z : Int) : vX (sI S 17 z) v := hv
/-- the k-th die that is not taken, from d on -/
def vDl (tk : Int) : Nat → Int → Int → Int
  | 0, _, _ => -1
  | n + 1, d, k => if tk / 2 ^ d.toNat % 2 = 0 then (if k = 0 then d else vDl tk n (d + 1) (k - 1)) else vDl tk n (d + 1) k
theorem vDl_b (tk : Int) : ∀ (n : Nat) (d k : Int), vDl tk n d k = -1 ∨ (d ≤ vDl tk n d k ∧ vDl tk n d k < d + n ∧ tk / 2 ^ (vDl tk n d k).toNat % 2 = 0)
  | 0, d, k => Or.inl rfl
  | n + 1, d, k => by
    simp only [vDl]
    split
    · rename_i c
      split
      · refine Or.inr ⟨by omega, by omega, c⟩
      · rcases vDl_b tk n (d + 1) (k - 1) with h | h
        · exact Or.inl h
        · exact Or.inr ⟨by omega, by omega, h.2.2⟩
    · rcases vDl_b tk n (d + 1) k with h | h
      · exact Or.inl h
      · exact Or.inr ⟨by omega, by omega, h.2.2⟩
def vLt (v : vV) (k z : Int) : vV := (v.1, (v.2.1.1, v.2.1.2.1, v.2.1.2.2.1, fun k1 => if k1 = k then z else v.2.1.2.2.2 k1), v.2.2)
theorem vX_l {S : sS} {v : vV} (hv : vX S v) {q z : Int} (h0 : 0 ≤ q) (hz : -1 ≤ z ∧ z ≤ 4) : vX (sA S 2 (va_up (S.2.1 2) (35 + q).toNat z)) (vLt v q z) := by
  obtain ⟨⟨b0, b1, b2, b3, b4, bs, bh⟩, e0, e1, e2, e3, e4, hr, hh⟩ := hv
  refine ⟨⟨b0, b1, b2, b3, b4, ⟨bs.1, bs.2.1, bs.2.2.1, fun k => ?_⟩, bh⟩, e0, e1, e2, e3, e4, ⟨fun d1 f1 g0 g1 g2 g3 => ?_, ?_, fun k k0 k1 => ?_, fun k k0 k1 => ?_⟩, hh⟩
  · show -1 ≤ (if k = q then z else v.2.1.2.2.2 k) ∧ (if k = q then z else v.2.1.2.2.2 k) ≤ 4
    split
    · exact hz
    · exact bs.2.2.2 k
  · show va_up (S.2.1 2) (35 + q).toNat z (0 + (d1 * 6 + f1 - 1).toNat) = _
    rw [va_up_o _ _ (by omega)]
    exact hr.1 d1 f1 g0 g1 g2 g3
  · show va_up (S.2.1 2) (35 + q).toNat z (0 + 30) = _
    rw [va_up_o _ _ (by omega)]
    exact hr.2.1
  · show va_up (S.2.1 2) (35 + q).toNat z (0 + (31 + k).toNat) = _
    rw [va_up_o _ _ (by omega)]
    exact hr.2.2.1 k k0 k1
  · show va_up (S.2.1 2) (35 + q).toNat z (0 + (35 + k).toNat) = if k = q then z else v.2.1.2.2.2 k
    split
    · rename_i c
      rw [c, Nat.zero_add, va_up_s]
    · rw [va_up_o _ _ (by omega)]
      exact hr.2.2.2 k k0 k1
/-- lots: the seed, the taken ones, how many, the table -/
def vLs (n : Int) (q : Int) (x : Int × Int × Int × vV) : Int × Int × Int × vV :=
  if 0 < n - x.2.2.1 then
    (if vDl x.2.1 n.toNat 0 (dW (dN x.1) % (n - x.2.2.1)) = -1 then (dN x.1, x.2.1, x.2.2.1, vLt x.2.2.2 q (-1))
     else (dN x.1, x.2.1 + 2 ^ (vDl x.2.1 n.toNat 0 (dW (dN x.1) % (n - x.2.2.1))).toNat, x.2.2.1 + 1, vLt x.2.2.2 q (vDl x.2.1 n.toNat 0 (dW (dN x.1) % (n - x.2.2.1)))))
  else (x.1, x.2.1, x.2.2.1, vLt x.2.2.2 q (-1))
def vLot (v : vV) (s : Int) : Int × Int × Int × vV := zIt (vLs (v.1 1)) (s, 0, 0, v) (v.1 2)
theorem pw_b {tk d : Int} (ht : 0 ≤ tk ∧ tk < 32) (h0 : 0 ≤ d) (h1 : d < 5) (h : tk / 2 ^ d.toNat % 2 = 0) : tk + 2 ^ d.toNat < 32 ∧ 0 ≤ tk + 2 ^ d.toNat := by
  have hd : d = 0 ∨ d = 1 ∨ d = 2 ∨ d = 3 ∨ d = 4 := by omega
  rcases hd with rfl | rfl | rfl | rfl | rfl
  · have e : (2 : Int) ^ (0 : Int).toNat = 1 := rfl
    rw [e] at h ⊢; omega
  · have e : (2 : Int) ^ (1 : Int).toNat = 2 := rfl
    rw [e] at h ⊢; omega
  · have e : (2 : Int) ^ (2 : Int).toNat = 4 := rfl
    rw [e] at h ⊢; omega
  · have e : (2 : Int) ^ (3 : Int).toNat = 8 := rfl
    rw [e] at h ⊢; omega
  · have e : (2 : Int) ^ (4 : Int).toNat = 16 := rfl
    rw [e] at h ⊢; omega
section Lots
variable {X : mX} {S : sS} {t : zH} {v : vV}
set_option maxHeartbeats 1000000 in
set_option maxRecDepth 100000 in
theorem gafter (hv : vX S v) {x f m : Int} (h0 : 0 ≤ x) (hx1 : x < v.1 1) (hf : 1 ≤ f ∧ f ≤ 6) (hm : 0 ≤ m ∧ m ≤ 99) : zEv X 2 mX2_weightAfterAnts [zR 5, zI x, zI f, zI m] (cX S ++ t) (zIs (.inl (some (zI (vEn v x f m)))) (cX S ++ t)) := by
  have h4 := hv.1.2.2.2.2.1
  have e4 : S.1 16 = v.1 4 := hv.2.2.2.2.2.1
  have h1 := hv.1.2.1
  have e1 : S.1 13 = v.1 1 := hv.2.2.1
  have h2 := hv.1.2.2.1
  have e2 : S.1 14 = v.1 2 := hv.2.2.2.1
  have hs := hv.1.2.2.2.2.2.1.2.1 x
  have hp := vPs_b v f
  have hw := gbd hv x f
  have lp : ∀ (k : Nat) (p : Int), 0 ≤ p → p + k = vPs v f → zWP X mX2_weightAfterAnts 2 (zIs (.inl (some (zI (vEp v x m (vPs v f))))) (cX S ++ t)) 21 [some (zR 5), some (zI x), some (zI f), some (zI m), some (zI (m - min m (vBf v x p))), some (zI p)] [] (cX S ++ t) 0 0 := by
    intro k
    induction k with
    | zero =>
      intro p g0 hk
      refine zWP_run gX2_weightAfterAnts 80 [21] ?_
      refine zBrF (by simp only [rI]; omega) (by omega) ?_
      have ep : p = vPs v f := by omega
      have ef := vAf_ps v hf.1 hf.2
      have hb := vBf_b hv.1 x g0 (by omega)
      refine zCl_e (gaf hv g0 (by omega)) (by decide) ?_
      rw [ep, ef]
      refine zBrT (by simp only [rI]; omega) rfl ?_
      refine zCl_e (gw hv h0 hx1 hf.1 hf.2) (by decide) ?_
      rw [ep] at hb
      refine mVc_i (by simp only [rI]; omega) ?_
      refine ⟨?_, rfl⟩
      have e9 : vWp v x (vPs v f) = v.2.1.1 x f := by simp only [vWp, ef]
      have e8 : max (v.2.1.1 x f - (m - min m (vBf v x (vPs v f)))) 0 = vEp v x m (vPs v f) := by
        simp only [vEp, e9]
        omega
      rw [← e8]
    | succ k ih =>
      intro p g0 hk
      refine zWP_run gX2_weightAfterAnts 80 [21] ?_
      refine zBrF (by simp only [rI]; omega) (by omega) ?_
      have hb := vBf_b hv.1 x g0 (by omega)
      have hb2 := vAf_b v p
      have hw2 := vWp_b hv.1 x p
      have ne : ¬ vAf v p = f := by
        intro q
        have := vPs_af v g0 (p := p) (by omega)
        rw [q] at this
        omega
      refine zCl_e (gaf hv g0 (by omega)) (by decide) ?_
      refine zBrF (by simp only [rI]; omega) ne ?_
      refine zCl_e (gaf hv g0 (by omega)) (by decide) ?_
      refine zCl_e (gw hv h0 hx1 hb2.1 hb2.2) (by decide) ?_
      have hw3 : 0 ≤ v.2.1.1 x (vAf v p) ∧ v.2.1.1 x (vAf v p) ≤ 20 := hw2
      refine mVc_i (by simp only [rI]; omega) ?_
      have k3 := ih (p + 1) (by omega) (by omega)
      have e8 : m - min m (vBf v x (p + 1)) = m - min m (vBf v x p) - min (m - min m (vBf v x p)) (v.2.1.1 x (vAf v p)) := by
        rw [vBf_s v x g0]
        simp only [vWp]
        omega
      rw [e8] at k3
      exact k3
  refine zEv_run gX2_weightAfterAnts 60 [21] rfl ?_
  refine zCl_e (gsalt hv h0 hx1) (by decide) ?_
  simp only [vEn]
  refine zBr (by simp only [rI]; omega) (fun c => ?_) (fun c => ?_)
  · rw [if_neg (by omega)]
    have k1 := lp (vPs v f).toNat 0 (by omega) (by omega)
    rw [show m - min m (vBf v x 0) = m by rw [show vBf v x 0 = 0 from rfl]; omega] at k1
    exact k1
  · rw [if_pos (by omega)]
    refine zCl_e (gw hv h0 hx1 hf.1 hf.2) (by decide) ?_
    exact ⟨rfl, rfl⟩
set_option maxHeartbeats 1000000 in
set_option maxRecDepth 100000 in
theorem glast (hv : vX S v) {x : Int} (h0 : 0 ≤ x) (hx1 : x < v.1 1) : zEv X 2 mX2_lastFaceForAnts [zR 5, zI x] (cX S ++ t) (zIs (.inl (some (zI (vLf v x 6)))) (cX S ++ t)) := by
  have h4 := hv.1.2.2.2.2.1
  have e4 : S.1 16 = v.1 4 := hv.2.2.2.2.2.1
  have h1 := hv.1.2.1
  have e1 : S.1 13 = v.1 1 := hv.2.2.1
  have h2 := hv.1.2.2.1
  have e2 : S.1 14 = v.1 2 := hv.2.2.2.1
  have lp : ∀ (k : Nat) (p : Int), 0 ≤ p → p + k = 6 → zWP X mX2_lastFaceForAnts 2 (zIs (.inl (some (zI (vLf v x 6)))) (cX S ++ t)) 4 [some (zR 5), some (zI x), some (zI (vLf v x p)), some (zI p)] [] (cX S ++ t) 0 0 := by
    intro k
    induction k with
    | zero =>
      intro p g0 hk
      refine zWP_run gX2_lastFaceForAnts 80 [4] ?_
      refine zBrT (by simp only [rI]; omega) (by omega) ?_
      rw [show p = 6 by omega]
      exact ⟨rfl, rfl⟩
    | succ k ih =>
      intro p g0 hk
      refine zWP_run gX2_lastFaceForAnts 80 [4] ?_
      refine zBrF (by simp only [rI]; omega) (by omega) ?_
      have hb2 := vAf_b v p
      have hw2 := vWp_b hv.1 x p
      have hw3 : 0 ≤ v.2.1.1 x (vAf v p) ∧ v.2.1.1 x (vAf v p) ≤ 20 := hw2
      have k3 := ih (p + 1) (by omega) (by omega)
      simp only [vLf] at k3
      rw [zIt_s _ _ g0] at k3
      refine zCl_e (gaf hv g0 (by omega)) (by decide) ?_
      refine zCl_e (gw hv h0 hx1 hb2.1 hb2.2) (by decide) ?_
      refine zBr (by simp only [rI]; omega) (fun c => ?_) (fun c => ?_)
      · rw [if_neg (by simp only [vWp]; omega)] at k3
        exact k3
      · rw [if_pos (by simp only [vWp]; omega)] at k3
        refine zCl_e (gaf hv g0 (by omega)) (by decide) ?_
        exact k3
  refine zEv_run gX2_lastFaceForAnts 60 [4] rfl ?_
  exact lp 6 0 (by omega) (by omega)
set_option maxHeartbeats 1000000 in
set_option maxRecDepth 100000 in
theorem dbeg {z : Int} : zEv X 1 mX1_begin [zR 9, zI z] (cX S ++ t) (zIs (.inl none) (cX (sI S 17 z) ++ t)) := by
  refine zEv_run gX1_begin 40 [] rfl ?_
  exact ⟨rfl, rfl⟩
set_option maxHeartbeats 1000000 in
set_option maxRecDepth 100000 in
theorem ddraw  : zEv X 1 mX1_draw [zR 9] (cX S ++ t) (zIs (.inl (some (zI (dW (dN (S.1 17)))))) (cX (sI S 17 (dN (S.1 17))) ++ t)) := by
  refine zEv_run gX1_draw 40 [] rfl ?_
  exact ⟨rfl, rfl⟩
set_option maxHeartbeats 1000000 in
set_option maxRecDepth 100000 in
theorem gdl (hv : vX S v) {tk pl : Int} (ht : 0 ≤ tk ∧ tk < 32) (hp : 0 ≤ pl ∧ pl < 5) : zEv X 1 mX2_dieLeft [zR 5, zI tk, zI pl] (cX S ++ t) (zIs (.inl (some (zI (vDl tk (v.1 1).toNat 0 pl)))) (cX S ++ t)) := by
  have h4 := hv.1.2.2.2.2.1
  have e4 : S.1 16 = v.1 4 := hv.2.2.2.2.2.1
  have h1 := hv.1.2.1
  have e1 : S.1 13 = v.1 1 := hv.2.2.1
  have h2 := hv.1.2.2.1
  have e2 : S.1 14 = v.1 2 := hv.2.2.2.1
  have lp : ∀ (k : Nat) (d p : Int), 0 ≤ d → 0 ≤ p → p ≤ d → d + k = v.1 1 → zWP X mX2_dieLeft 1 (zIs (.inl (some (zI (vDl tk k d (pl - p))))) (cX S ++ t)) 5 [some (zR 5), some (zI tk), some (zI pl), some (zI p), some (zI d)] [] (cX S ++ t) 0 0 := by
    intro k
    induction k with
    | zero =>
      intro d p d0 p0 p1 hk
      refine zWP_run gX2_dieLeft 60 [5] ?_
      refine zBrT (by simp only [rI]; omega) (by omega) ?_
      exact ⟨rfl, rfl⟩
    | succ k ih =>
      intro d p d0 p0 p1 hk
      have e9 := bt_shr ht.1 (by omega) d0 (k := d) (by omega)
      refine zWP_run gX2_dieLeft 60 [5] ?_
      refine zBrF (by simp only [rI]; omega) (by omega) ?_
      simp only [vDl]
      have hm2 : 0 ≤ tk / 2 ^ d.toNat % 2 ∧ tk / 2 ^ d.toNat % 2 < 2 := by omega
      refine zBr ?_ (fun c => ?_) (fun c => ?_)
      · show rI ((Int32.ofInt ((Int32.ofInt tk >>> (Int32.ofInt d &&& 31)).toInt) &&& Int32.ofInt 1).toInt)
        rw [e9]
        simp only [rI]
        omega
      · have c2 : (Int32.ofInt ((Int32.ofInt tk >>> (Int32.ofInt d &&& 31)).toInt) &&& Int32.ofInt 1).toInt = 0 := c
        rw [e9] at c2
        rw [if_pos c2]
        refine zBr (by simp only [rI]; omega) (fun c3 => ?_) (fun c3 => ?_)
        · rw [if_pos (by omega)]
          exact ⟨rfl, rfl⟩
        · rw [if_neg (by omega)]
          have k3 := ih (d + 1) (p + 1) (by omega) (by omega) (by omega) (by omega)
          rw [show pl - (p + 1) = pl - p - 1 by omega] at k3
          exact k3
      · have c2 : ¬ (Int32.ofInt ((Int32.ofInt tk >>> (Int32.ofInt d &&& 31)).toInt) &&& Int32.ofInt 1).toInt = 0 := c
        rw [e9] at c2
        rw [if_neg c2]
        exact ih (d + 1) p (by omega) (by omega) (by omega) (by omega)
  refine zEv_run gX2_dieLeft 60 [5] rfl ?_
  have k1 := lp (v.1 1).toNat 0 0 (by omega) (by omega) (by omega) (by omega)
  rw [show pl - 0 = pl by omega] at k1
  exact k1
set_option maxHeartbeats 1000000 in
set_option maxRecDepth 100000 in
theorem glots (hv : vX S v) : zEv X 2 mX2_drawLots [zR 5, zR 9] (cX S ++ t) (zTs S t (.inl (some (zI ((vLot v (S.1 17)).2.2.1)))) (vLot v (S.1 17)).2.2.2) := by
  have h4 := hv.1.2.2.2.2.1
  have e4 : S.1 16 = v.1 4 := hv.2.2.2.2.2.1
  have h1 := hv.1.2.1
  have e1 : S.1 13 = v.1 1 := hv.2.2.1
  have h2 := hv.1.2.2.1
  have e2 : S.1 14 = v.1 2 := hv.2.2.2.1
  have lp : ∀ (k : Nat) (q tk n : Int) (u : vV) (R : sS), 0 ≤ q → (R.1 17, tk, n, u) = zIt (vLs (v.1 1)) (S.1 17, 0, 0, v) q → sG S R → vX R u → u.1 = v.1 → 0 ≤ tk ∧ tk < 32 → 0 ≤ n ∧ n ≤ q → q + k = v.1 2 → zWP X mX2_drawLots 2 (zTs S t (.inl (some (zI ((vLot v (S.1 17)).2.2.1)))) (vLot v (S.1 17)).2.2.2) 7 [some (zR 5), some (zR 9), some (zI tk), some (zI n), some (zI q), none, none] [] (cX R ++ t) 0 0 := by
    intro k
    induction k with
    | zero =>
      intro q tk n u R g0 hn fr hr hu htk hn2 hk
      refine zWP_run gX2_drawLots 80 [7] ?_
      have e21 : R.1 14 = v.1 2 := by rw [← hu]; exact hr.2.2.2.1
      refine zBrT (by simp only [rI]; omega) (by omega) ?_
      rw [vLot, ← show q = v.1 2 by omega, ← hn]
      exact ⟨rfl, R, rfl, fr, hr⟩
    | succ k ih =>
      intro q tk n u R g0 hn fr hr hu htk hn2 hk
      refine zWP_run gX2_drawLots 80 [7] ?_
      have e21 : R.1 14 = v.1 2 := by rw [← hu]; exact hr.2.2.2.1
      have e11 : R.1 13 = v.1 1 := by rw [← hu]; exact hr.2.2.1
      have hdw := dW_b (dN (R.1 17))
      refine zBrF (by simp only [rI]; omega) (by omega) ?_
      refine zBr (by simp only [rI]; omega) (fun c => ?_) (fun c => ?_)
      · refine mVc_i (by omega) ?_
        refine zBrT (by simp only [rI]; omega) rfl ?_
        refine zWP_fg (ih (q + 1) tk n (vLt u q (-1)) (sA R 2 (va_up (R.2.1 2) (35 + q).toNat (-1))) (by omega) ?_ (sG_t fr (sG_A R _ ⟨by omega, by omega⟩)) (vX_l hr g0 (by omega)) hu htk (by omega) (by omega)) (by repeat (first | exact trivial | refine ⟨rfl, ?_⟩))
        rw [zIt_s _ _ g0, ← hn, vLs, if_neg (by show ¬ 0 < v.1 1 - n; omega)]
        rfl
      · have hmd : 0 ≤ dW (dN (R.1 17)) % (v.1 1 - n) ∧ dW (dN (R.1 17)) % (v.1 1 - n) < v.1 1 - n := ⟨Int.emod_nonneg _ (by omega), Int.emod_lt_of_pos _ (by omega)⟩
        have hdl := vDl_b tk (v.1 1).toNat 0 (dW (dN (R.1 17)) % (v.1 1 - n))
        have e12 : (u.1 1).toNat = (v.1 1).toNat := by rw [hu]
        refine zCl_e (ddraw) (by decide) ?_
        refine mVc_i (by simp only [rI]; omega) ?_
        refine zCl_e (gdl (vX_17 hr _) htk (by rw [e11]; omega)) (by decide) ?_
        rw [e12, e11]
        refine mVc_i (by omega) ?_
        by_cases c2 : vDl tk (v.1 1).toNat 0 (dW (dN (R.1 17)) % (v.1 1 - n)) = -1
        · refine zBrT (by simp only [rI]; omega) c2 ?_
          rw [c2]
          refine zWP_fg (ih (q + 1) tk n (vLt u q (-1)) (sA (sI R 17 (dN (R.1 17))) 2 (va_up (R.2.1 2) (35 + q).toNat (-1))) (by omega) ?_ (sG_t (sG_t fr (sG_I R _ ⟨by omega, by omega⟩)) (sG_A _ _ ⟨by omega, by omega⟩)) (vX_l (vX_17 hr _) g0 (by omega)) hu htk (by omega) (by omega)) (by repeat (first | exact trivial | refine ⟨rfl, ?_⟩))
          rw [zIt_s _ _ g0, ← hn, vLs, if_pos (by show 0 < v.1 1 - n; omega), if_pos c2]
          rfl
        · have hb := bt_or htk.1 (k := vDl tk (v.1 1).toNat 0 (dW (dN (R.1 17)) % (v.1 1 - n))) (by omega) (by omega) (by omega)
          have hs := bt_shl (k := vDl tk (v.1 1).toNat 0 (dW (dN (R.1 17)) % (v.1 1 - n))) (by omega) (by omega)
          have hdl2 : 0 ≤ vDl tk (v.1 1).toNat 0 (dW (dN (R.1 17)) % (v.1 1 - n)) ∧ vDl tk (v.1 1).toNat 0 (dW (dN (R.1 17)) % (v.1 1 - n)) < 5 ∧ tk / 2 ^ (vDl tk (v.1 1).toNat 0 (dW (dN (R.1 17)) % (v.1 1 - n))).toNat % 2 = 0 := by omega
          have hpw := pw_b htk hdl2.1 hdl2.2.1 hdl2.2.2
          rw [if_neg (by omega)] at hb
          refine zBrF (by simp only [rI]; omega) c2 ?_
          have k3 := (ih (q + 1) (tk + 2 ^ (vDl tk (v.1 1).toNat 0 (dW (dN (R.1 17)) % (v.1 1 - n))).toNat) (n + 1) (vLt u q (vDl tk (v.1 1).toNat 0 (dW (dN (R.1 17)) % (v.1 1 - n)))) (sA (sI R 17 (dN (R.1 17))) 2 (va_up (R.2.1 2) (35 + q).toNat (vDl tk (v.1 1).toNat 0 (dW (dN (R.1 17)) % (v.1 1 - n))))) (by omega) (by
            rw [zIt_s _ _ g0, ← hn, vLs, if_pos (by show 0 < v.1 1 - n; omega), if_neg c2]
            rfl) (sG_t (sG_t fr (sG_I R _ ⟨by omega, by omega⟩)) (sG_A _ _ ⟨by omega, by omega⟩)) (vX_l (vX_17 hr _) g0 (by omega)) hu (by omega) (by omega) (by omega))
          rw [← hb, ← hs] at k3
          exact zWP_fg k3 (by repeat (first | exact trivial | refine ⟨rfl, ?_⟩))
  refine zEv_run gX2_drawLots 60 [7] rfl ?_
  exact lp (v.1 2).toNat 0 0 0 v S (by omega) rfl (sG_r S) hv rfl (by omega) (by omega) (by omega)
end Lots
