/-! Odds: the best set, sets of faces, stopping -/
theorem rI_toInt (x : Int32) : rI x.toInt := ⟨Int32.le_toInt x, Int32.toInt_lt x⟩
theorem bt_and0 : ∀ c : Fin 64, ∀ k : Fin 6, (Int32.ofInt (c.val : Int) &&& Int32.ofInt (2 ^ k.val)).toInt = (c.val : Int) / 2 ^ k.val % 2 * 2 ^ k.val := by decide +kernel
theorem bt_xor0 : ∀ c : Fin 64, ∀ k : Fin 6, (c.val : Int) / 2 ^ k.val % 2 = 1 → (Int32.ofInt (c.val : Int) ^^^ Int32.ofInt (2 ^ k.val)).toInt = (c.val : Int) - 2 ^ k.val ∧ 0 ≤ (c.val : Int) - 2 ^ k.val := by decide +kernel
theorem bt_and {c k : Int} (h0 : 0 ≤ c) (h1 : c < 64) (h2 : 0 ≤ k) (h3 : k < 6) : (Int32.ofInt c &&& Int32.ofInt (2 ^ k.toNat)).toInt = bit c k * 2 ^ k.toNat := by
  have h := bt_and0 ⟨c.toNat, by omega⟩ ⟨k.toNat, by omega⟩
  simp only [Int.toNat_of_nonneg h0] at h
  exact h
theorem bt_xor {c k : Int} (h0 : 0 ≤ c) (h1 : c < 64) (h2 : 0 ≤ k) (h3 : k < 6) (hb : bit c k = 1) : (Int32.ofInt c ^^^ Int32.ofInt (2 ^ k.toNat)).toInt = c - 2 ^ k.toNat ∧ 0 ≤ c - 2 ^ k.toNat := by
  have h := bt_xor0 ⟨c.toNat, by omega⟩ ⟨k.toNat, by omega⟩
  simp only [Int.toNat_of_nonneg h0] at h
  exact h hb
theorem pw_pos {k : Int} (h2 : 0 ≤ k) (h3 : k < 6) : 1 ≤ (2 : Int) ^ k.toNat ∧ (2 : Int) ^ k.toNat ≤ 32 := by
  have hn : k = 0 ∨ k = 1 ∨ k = 2 ∨ k = 3 ∨ k = 4 ∨ k = 5 := by omega
  rcases hn with rfl | rfl | rfl | rfl | rfl | rfl <;> decide
theorem zSum_mono {f g : Int → Int} {n : Int} (h0 : 0 ≤ n) (h : ∀ i, 0 ≤ i → i < n → f i ≤ g i) : zSum f n ≤ zSum g n := by
  have hk : ∀ k : Nat, (k : Int) ≤ n → vSum f k ≤ vSum g k := by
    intro k
    induction k with
    | zero => intro _; exact Int.le_refl 0
    | succ k ih =>
      intro hk
      have a := ih (by omega)
      have b := h k (by omega) (by omega)
      simp only [vSum]
      omega
  exact hk n.toNat (by omega)
theorem zSum_mul (f : Int → Int) (c n : Int) : zSum (fun i => f i * c) n = zSum f n * c := by
  have hk : ∀ k : Nat, vSum (fun i => f i * c) k = vSum f k * c := by
    intro k
    induction k with
    | zero => simp [vSum]
    | succ k ih => simp only [vSum, ih, Int.add_mul]
  exact hk n.toNat
theorem vTot_z (s : vS) (d : Int) : zSum (fun i => s.1 d (i + 1)) 6 = vTot s d := by
  show 0 + s.1 d (0 + 1) + s.1 d (1 + 1) + s.1 d (2 + 1) + s.1 d (3 + 1) + s.1 d (4 + 1) + s.1 d (5 + 1) = _
  simp only [vTot, Int.zero_add]
  rfl
theorem pcn_m (c : Int) {i : Int} (h0 : 0 ≤ i) (h1 : i ≤ 5) : pcn c i ≤ pcn c 5 := by
  have a0 := bit_01 c 0
  have a1 := bit_01 c 1
  have a2 := bit_01 c 2
  have a3 := bit_01 c 3
  have a4 := bit_01 c 4
  have e1 : pcn c 1 = pcn c 0 + bit c 0 := pcn_s c (i := 0) (by omega)
  have e2 : pcn c 2 = pcn c 1 + bit c 1 := pcn_s c (i := 1) (by omega)
  have e3 : pcn c 3 = pcn c 2 + bit c 2 := pcn_s c (i := 2) (by omega)
  have e4 : pcn c 4 = pcn c 3 + bit c 3 := pcn_s c (i := 3) (by omega)
  have e5 : pcn c 5 = pcn c 4 + bit c 4 := pcn_s c (i := 4) (by omega)
  have hn : i = 0 ∨ i = 1 ∨ i = 2 ∨ i = 3 ∨ i = 4 ∨ i = 5 := by omega
  rcases hn with rfl | rfl | rfl | rfl | rfl | rfl <;> omega
def vB1 (v : vV) (n s c : Int) (x : Int × Int × Int) : Int × Int × Int := if pcn c 5 = n ∧ ¬ vWh v c (v.1 1) = 0 ∧ (x.1 = -1 ∨ x.2.1 * vWh v c (v.1 1) < vGe (vSm v c (v.1 1)) (max s 0) * x.2.2) then (c, vGe (vSm v c (v.1 1)) (max s 0), vWh v c (v.1 1)) else x
def vBs (v : vV) (n s i : Int) : Int × Int × Int := zIt (fun j x => vB1 v n s (j + 1) x) (-1, 0, 1) i
theorem vBs_s (v : vV) (n s : Int) {i : Int} (h : 0 ≤ i) : vBs v n s (i + 1) = vB1 v n s (i + 1) (vBs v n s i) := zIt_s _ _ h
/-- stopping: the best in ways, of all -/
def vS1 (w : Int → Int) (tt : Int) (x : Int × Int) : Int × Int := (zSum (fun i => w (i + 1) * max ((i + 1) * x.2) x.1) 6, x.2 * tt)
def vSt (w : Int → Int) (tt i : Int) : Int × Int := zIt (fun _ x => vS1 w tt x) (0, 1) i
theorem vSt_s (w : Int → Int) (tt : Int) {i : Int} (h : 0 ≤ i) : vSt w tt (i + 1) = vS1 w tt (vSt w tt i) := zIt_s _ _ h
theorem vSt_b {v : vV} (h : vVb v) (d : Int) {i : Int} (h0 : 0 ≤ i) : 0 ≤ (vSt (v.2.1.1 d) (vTot v.2.1 d) i).1 ∧ (vSt (v.2.1.1 d) (vTot v.2.1 d) i).1 ≤ 6 * (vSt (v.2.1.1 d) (vTot v.2.1 d) i).2 ∧ 0 ≤ (vSt (v.2.1.1 d) (vTot v.2.1 d) i).2 ∧ (vSt (v.2.1.1 d) (vTot v.2.1 d) i).2 = vTot v.2.1 d ^ i.toNat :=
  zIt_i (fun _ x => vS1 (v.2.1.1 d) (vTot v.2.1 d) x) ((0, 1) : Int × Int) (fun i x => 0 ≤ x.1 ∧ x.1 ≤ 6 * x.2 ∧ 0 ≤ x.2 ∧ x.2 = vTot v.2.1 d ^ i.toNat) (by refine ⟨by decide, by decide, by decide, (Int.pow_zero _).symm⟩) (fun j x hj hx => by
    have ht := vTot_b h.2.2.2.2.2.1 d
    have hw := fun f => h.2.2.2.2.2.1.1 d f
    have e : zSum (fun i => v.2.1.1 d (i + 1) * (6 * x.2)) 6 = vTot v.2.1 d * (6 * x.2) := by rw [zSum_mul (fun i => v.2.1.1 d (i + 1)), vTot_z]
    have hm := zSum_mono (f := fun i => v.2.1.1 d (i + 1) * max ((i + 1) * x.2) x.1) (g := fun i => v.2.1.1 d (i + 1) * (6 * x.2)) (n := 6) (by omega) (fun i i0 i1 => by
      have a1 := (hw (i + 1)).1
      have a2 : (i + 1) * x.2 ≤ 6 * x.2 := Int.mul_le_mul_of_nonneg_right (by omega) hx.2.2.1
      exact Int.mul_le_mul_of_nonneg_left (by omega) a1)
    have hp := zSum_mono (f := fun _ => 0 * (0 : Int)) (g := fun i => v.2.1.1 d (i + 1) * max ((i + 1) * x.2) x.1) (n := 6) (by omega) (fun i i0 i1 => by
      have a1 := (hw (i + 1)).1
      have a2 := Int.mul_nonneg a1 (show 0 ≤ max ((i + 1) * x.2) x.1 by omega)
      show 0 * (0 : Int) ≤ _
      omega)
    have h9 : zSum (fun _ => 0 * (0 : Int)) 6 = 0 := rfl
    rw [e] at hm
    rw [h9] at hp
    refine ⟨hp, ?_, Int.mul_nonneg hx.2.2.1 ht.1, ?_⟩
    · show _ ≤ 6 * (x.2 * vTot v.2.1 d)
      rw [show 6 * (x.2 * vTot v.2.1 d) = vTot v.2.1 d * (6 * x.2) by rw [Int.mul_comm x.2, ← Int.mul_assoc, ← Int.mul_assoc, Int.mul_comm 6]]
      exact hm
    · show x.2 * vTot v.2.1 d = _
      rw [show (j + 1).toNat = j.toNat + 1 by omega, Int.pow_succ, hx.2.2.2]) h0
def vFl (wh go : Int) : Nat → Int → Int
  | 0, f => f
  | k + 1, f => if f * wh < go then vFl wh go k (f + 1) else f
/-- sets of faces -/
def aF (w : Int → Int) (ag : Int) (r : Int → Int) (c : Int) : Int := zSum (fun i => if bit c i = 1 then w (i + 1) * (r (c - 2 ^ i.toNat) + (if ag = 1 then r c else 0)) else 0) 6
def vFc (v : vV) (c i : Int) : Int → Int := zIt (fun d r => if bit c d = 1 then aF (v.2.1.1 d) 0 r else r) r0 i
theorem vFc_s (v : vV) (c : Int) {i : Int} (h : 0 ≤ i) : vFc v c (i + 1) = if bit c i = 1 then aF (v.2.1.1 i) 0 (vFc v c i) else vFc v c i := zIt_s _ _ h
def vEv (w : Int → Int) (i : Int) : Int → Int := zIt (fun _ r => aF w 1 r) r0 i
theorem vEv_s (w : Int → Int) {i : Int} (h : 0 ≤ i) : vEv w (i + 1) = aF w 1 (vEv w i) := zIt_s _ _ h
def vGp (c : Int) : Int := (Int32.ofInt (c + (Int32.ofInt c &&& Int32.ofInt (-c)).toInt) &&& Int32.ofInt c).toInt
def vUl (r : Int → Int) (wg i : Int) : Int := zSum (fun s => if wg = 0 ∨ vGp s = 0 then r s else 0) i
theorem vUl_s (r : Int → Int) (wg : Int) {i : Int} (h : 0 ≤ i) : vUl r wg (i + 1) = vUl r wg i + (if wg = 0 ∨ vGp i = 0 then r i else 0) := zSum_s h
/-- the faces that can come, as a set -/
def vAl (w : Int → Int) (i : Int) : Int := zSum (fun j => if 0 < w (j + 1) then 2 ^ j.toNat else 0) i
theorem vAl_s (w : Int → Int) {i : Int} (h : 0 ≤ i) : vAl w (i + 1) = vAl w i + (if 0 < w (i + 1) then 2 ^ i.toNat else 0) := zSum_s h
theorem vAl_b (w : Int → Int) {i : Int} (h : 0 ≤ i) : 0 ≤ vAl w i ∧ vAl w i < 2 ^ i.toNat := by
  have hk : ∀ k : Nat, 0 ≤ vAl w k ∧ vAl w k < 2 ^ k := by
    intro k
    induction k with
    | zero => exact ⟨Int.le_refl 0, by show (0 : Int) < 1; omega⟩
    | succ k ih =>
      have e : vAl w ((k + 1 : Nat) : Int) = vAl w k + (if 0 < w (k + 1) then 2 ^ k else 0) := vAl_s w (i := (k : Int)) (by omega)
      rw [e, Int.pow_succ]
      have hp : (0 : Int) < 2 ^ k := Int.lt_of_le_of_lt ih.1 ih.2
      split <;> omega
  have := hk i.toNat
  rw [Int.toNat_of_nonneg h] at this
  exact this
section Odds3
variable {X : mX} {S : sS} {t : zH} {v : vV}
set_option maxHeartbeats 1000000 in
set_option maxRecDepth 100000 in
theorem obc {c : Int} (hc : 0 ≤ c ∧ c < 32) : zEv X 1 mJ6_bitCount_0f7a4 [zI c] (cX S ++ t) (zIs (.inl (some (zI (pcn c 5)))) (cX S ++ t)) := by
  have hn : ∃ n : Fin 32, c = (n.val : Int) := ⟨⟨c.toNat, by omega⟩, by show c = (c.toNat : Int); omega⟩
  obtain ⟨n, rfl⟩ := hn
  refine zEv_run gJ6_bitCount_0f7a4 80 [] rfl ?_
  refine ⟨?_, rfl⟩
  clear hc
  revert n
  decide +kernel
set_option maxHeartbeats 1000000 in
set_option maxRecDepth 100000 in
theorem obs (hv : vX S v) {n s : Int} (hn : 1 ≤ n ∧ n ≤ 3) (hs : rI s) : zEv X 5 mX4_bestSetFor [zR 10, zI n, zI s] (cX S ++ t) (zTo S t (.inl (some (zI ((vBs v n s (2 ^ (v.1 1).toNat - 1)).1)))) v) := by
  have h4 := hv.1.2.2.2.2.1
  have e4 : S.1 16 = v.1 4 := hv.2.2.2.2.2.1
  have h1 := hv.1.2.1
  have e1 : S.1 13 = v.1 1 := hv.2.2.1
  have h2 := hv.1.2.2.1
  have e2 : S.1 14 = v.1 2 := hv.2.2.2.1
  have hK : 1 ≤ (2 : Int) ^ (v.1 1).toNat ∧ (2 : Int) ^ (v.1 1).toNat ≤ 32 := pw_pos h1.1 (by omega)
  have l1 : ∀ (k : Nat) (j x y z : Int) (R : sS), 0 ≤ j → j + 1 + k = 2 ^ (v.1 1).toNat → (x, y, z) = vBs v n s j → -1 ≤ x ∧ x ≤ 31 → 0 ≤ y ∧ y ≤ 53568000 → 0 ≤ z ∧ z ≤ 1728000 → sF S R → vX R v → zWP X mX4_bestSetFor 5 (zTo S t (.inl (some (zI ((vBs v n s (2 ^ (v.1 1).toNat - 1)).1)))) v) 11 [some (zR 10), some (zI n), some (zI s), some (zI x), some (zJ y), none, some (zJ z), none, some (zI (j + 1)), none, none, none, none] [] (cX R ++ t) 0 0 := by
    intro k
    induction k with
    | zero =>
      intro j x y z R j0 hk hx bx by0 bz fr hr
      have e11 : R.1 13 = v.1 1 := hr.2.2.1
      have es : (Int32.ofInt 1 <<< (Int32.ofInt (R.1 13) &&& 31)).toInt = 2 ^ (v.1 1).toNat := by rw [e11]; exact bt_shl h1.1 (by omega)
      refine zWP_run gX4_bestSetFor 80 [11] ?_
      refine zBrT ⟨by simp only [rI]; omega, rI_toInt _⟩ (by show (Int32.ofInt 1 <<< (Int32.ofInt (R.1 13) &&& 31)).toInt ≤ j + 1; rw [es]; omega) ?_
      rw [← show j = 2 ^ (v.1 1).toNat - 1 by omega, ← hx]
      exact ⟨rfl, R, rfl, fr, hr⟩
    | succ k ih =>
      intro j x y z R j0 hk hx bx by0 bz fr hr
      have e11 : R.1 13 = v.1 1 := hr.2.2.1
      have es : (Int32.ofInt 1 <<< (Int32.ofInt (R.1 13) &&& 31)).toInt = 2 ^ (v.1 1).toNat := by rw [e11]; exact bt_shl h1.1 (by omega)
      have hw := vWh_b hv.1 (j + 1) h1.1
      have hp := pcn_b (j + 1) h1.1
      have hp5 := pcn_b (j + 1) (i := 5) (by omega)
      have hpm := pcn_m (j + 1) h1.1 h1.2
      have hp9 := p120 hp.1 (by omega)
      have st0 : ¬ (pcn (j + 1) 5 = n ∧ ¬ vWh v (j + 1) (v.1 1) = 0 ∧ (x = -1 ∨ y * vWh v (j + 1) (v.1 1) < vGe (vSm v (j + 1) (v.1 1)) (max s 0) * z)) → ∀ R, sF S R → vX R v → zWP X mX4_bestSetFor 5 (zTo S t (.inl (some (zI ((vBs v n s (2 ^ (v.1 1).toNat - 1)).1)))) v) 11 [some (zR 10), some (zI n), some (zI s), some (zI x), some (zJ y), none, some (zJ z), none, some (zI (j + 1 + 1)), none, none, none, none] [] (cX R ++ t) 0 0 := fun c R fr hr => ih (j + 1) x y z R (by omega) (by omega) (by rw [vBs_s _ _ _ j0, ← hx, vB1, if_neg c]) bx by0 bz fr hr
      refine zWP_run gX4_bestSetFor 80 [11] ?_
      refine zBrF ⟨by simp only [rI]; omega, rI_toInt _⟩ (by show ¬ (Int32.ofInt 1 <<< (Int32.ofInt (R.1 13) &&& 31)).toInt ≤ j + 1; rw [es]; omega) ?_
      refine zCl_e (owh hr ⟨by omega, by omega⟩) (by decide) ?_
      refine zCl_e (obc ⟨by omega, by omega⟩) (by decide) ?_
      refine zBr (by simp only [rI]; omega) (fun c1 => ?_) (fun c1 => ?_)
      · have hp3 := p120_3 hp.1 (by omega)
        refine zBr (by simp only [rL]; omega) (fun c2 => ?_) (fun c2 => ?_)
        · exact zWP_fg (st0 (fun q => q.2.1 c2) R fr hr) (by repeat (first | exact trivial | refine ⟨rfl, ?_⟩))
        · refine zCl_t (oge hr ⟨by omega, by omega⟩ hs) (by decide) ?_
          intro R2 f2 hr2
          have hsm := vSm_b hv.1 (j + 1) h1.1
          have hge : 0 ≤ vGe (vSm v (j + 1) (v.1 1)) (max s 0) ∧ vGe (vSm v (j + 1) (v.1 1)) (max s 0) ≤ 53568000 := by
            by_cases c9 : max s 0 ≤ 31
            · have := vGe_b (r := vSm v (j + 1) (v.1 1)) (B := 1728000) (s := max s 0) (i := 31 - max s 0) (by omega) (fun q => ⟨(hsm q).1, Int.le_trans (hsm q).2 hp3⟩) (by omega) (by omega)
              simp only [vGe]
              omega
            · have e8 : (31 - max s 0).toNat = 0 := by omega
              simp only [vGe, zSum, e8, vSum]
              omega
          have hwh : 0 ≤ vWh v (j + 1) (v.1 1) ∧ vWh v (j + 1) (v.1 1) ≤ 1728000 := by omega
          have q1 := mul_b by0 hwh
          have q2 := mul_b hge bz
          have st1 : (x = -1 ∨ y * vWh v (j + 1) (v.1 1) < vGe (vSm v (j + 1) (v.1 1)) (max s 0) * z) → zWP X mX4_bestSetFor 5 (zTo S t (.inl (some (zI ((vBs v n s (2 ^ (v.1 1).toNat - 1)).1)))) v) 11 [some (zR 10), some (zI n), some (zI s), some (zI (j + 1)), some (zJ (vGe (vSm v (j + 1) (v.1 1)) (max s 0))), none, some (zJ (vWh v (j + 1) (v.1 1))), none, some (zI (j + 1 + 1)), none, none, none, none] [] (cX R2 ++ t) 0 0 := fun c => ih (j + 1) _ _ _ R2 (by omega) (by omega) (by rw [vBs_s _ _ _ j0, ← hx, vB1, if_pos ⟨c1, c2, c⟩]) (by omega) hge hwh (sF_t fr f2) hr2
          refine zBr (by simp only [rI]; omega) (fun c3 => ?_) (fun c3 => ?_)
          · exact zWP_fg (st1 (Or.inl c3)) (by repeat (first | exact trivial | refine ⟨rfl, ?_⟩))
          · refine zBr ?_ (fun c4 => ?_) (fun c4 => ?_)
            · show rL (vGe (vSm v (j + 1) (v.1 1)) (max s 0) * z) ∧ rL (y * vWh v (j + 1) (v.1 1))
              simp only [rL]
              omega
            · exact zWP_fg (st0 (fun q => by rcases q.2.2 with q | q; exact c3 q; exact absurd q (Int.not_lt.mpr c4)) R2 (sF_t fr f2) hr2) (by repeat (first | exact trivial | refine ⟨rfl, ?_⟩))
            · exact zWP_fg (st1 (Or.inr (Int.not_le.mp c4))) (by repeat (first | exact trivial | refine ⟨rfl, ?_⟩))
      · exact zWP_fg (st0 (fun q => c1 q.1) R fr hr) (by repeat (first | exact trivial | refine ⟨rfl, ?_⟩))
  refine zEv_run gX4_bestSetFor 60 [11] rfl ?_
  have h9 : ((2 ^ (v.1 1).toNat : Nat) : Int) = (2 : Int) ^ (v.1 1).toNat := by simp
  exact l1 (2 ^ (v.1 1).toNat - 1) 0 (-1) 0 1 S (by omega) (by omega) rfl (by omega) (by omega) (by omega) (sF_r S) hv
set_option maxHeartbeats 1000000 in
set_option maxRecDepth 100000 in
theorem obst (hv : vX S v) {d n : Int} (hd : 0 ≤ d ∧ d < v.1 1) (hn : 0 ≤ n ∧ n ≤ 5) : zEv X 3 mX4_bestByStopping [zR 10, zI d, zI n] (cX S ++ t) (zIs (.inl (some (zJ ((vSt (v.2.1.1 d) (vTot v.2.1 d) n).1)))) (cX S ++ t)) := by
  have h4 := hv.1.2.2.2.2.1
  have e4 : S.1 16 = v.1 4 := hv.2.2.2.2.2.1
  have h1 := hv.1.2.1
  have e1 : S.1 13 = v.1 1 := hv.2.2.1
  have h2 := hv.1.2.2.1
  have e2 : S.1 14 = v.1 2 := hv.2.2.2.1
  have ht := gtb hv d
  have l1 : ∀ (k : Nat) (j : Int), 0 ≤ j → j + k = n → zWP X mX4_bestByStopping 3 (zIs (.inl (some (zJ ((vSt (v.2.1.1 d) (vTot v.2.1 d) n).1)))) (cX S ++ t)) 8 [some (zR 10), some (zI d), some (zI n), some (zJ (vSt (v.2.1.1 d) (vTot v.2.1 d) j).1), none, some (zJ (vSt (v.2.1.1 d) (vTot v.2.1 d) j).2), none, some (zI (j + 1)), none, none, none] [] (cX S ++ t) 0 0 := by
    intro k
    induction k with
    | zero =>
      intro j j0 hk
      refine zWP_run gX4_bestByStopping 60 [8] ?_
      refine zBrT (by simp only [rI]; omega) (by omega) ?_
      rw [← show j = n by omega]
      exact ⟨rfl, rfl⟩
    | succ k ih =>
      intro j j0 hk
      have hb := vSt_b hv.1 d j0
      have hb2 := ipow_5 ht j0 (by omega)
      have l2 : ∀ (k : Nat) (i : Int), 0 ≤ i → i + k = 6 → zWP X mX4_bestByStopping 3 (zIs (.inl (some (zJ ((vSt (v.2.1.1 d) (vTot v.2.1 d) n).1)))) (cX S ++ t)) 20 [some (zR 10), some (zI d), some (zI n), some (zJ (vSt (v.2.1.1 d) (vTot v.2.1 d) j).1), none, some (zJ (vSt (v.2.1.1 d) (vTot v.2.1 d) j).2), none, some (zI (j + 1)), some (zJ (zSum (fun i => v.2.1.1 d (i + 1) * max ((i + 1) * (vSt (v.2.1.1 d) (vTot v.2.1 d) j).2) (vSt (v.2.1.1 d) (vTot v.2.1 d) j).1) i)), none, some (zI (i + 1))] [] (cX S ++ t) 0 0 := by
        intro k2
        induction k2 with
        | zero =>
          intro i i0 hk2
          refine zWP_run gX4_bestByStopping 60 [8, 20] ?_
          refine zBrT (by simp only [rI]; omega) (by omega) ?_
          refine zCl_e (gtot hv hd.1 hd.2) (by decide) ?_
          refine mVc_i (by simp only [rI]; omega) ?_
          have k3 := ih (j + 1) (by omega) (by omega)
          rw [vSt_s _ _ j0, vS1, ← show i = 6 by omega] at k3
          exact zWP_fg k3 (by repeat (first | exact trivial | refine ⟨rfl, ?_⟩))
        | succ k2 ih2 =>
          intro i i0 hk2
          have hw := gbd hv d (i + 1)
          have hm := mul_b (a := i + 1) (m := 6) ⟨by omega, by omega⟩ ⟨hb.2.2.1, Int.le_refl _⟩
          have k3 := ih2 (i + 1) (by omega) (by omega)
          rw [zSum_s i0] at k3
          refine zWP_run gX4_bestByStopping 60 [8, 20] ?_
          refine zBrF (by simp only [rI]; omega) (by omega) ?_
          refine zCl_e (gw hv hd.1 hd.2 (by omega) (by omega)) (by decide) ?_
          refine mVc_i (by simp only [rI]; omega) ?_
          refine mVc_i (by simp only [rI]; omega) ?_
          refine mVc_i (by simp only [rL]; omega) ?_
          exact k3
      refine zWP_run gX4_bestByStopping 60 [8, 20] ?_
      refine zBrF (by simp only [rI]; omega) (by omega) ?_
      exact zWP_fg (l2 6 0 (by omega) (by omega)) (by repeat (first | exact trivial | refine ⟨rfl, ?_⟩))
  refine zEv_run gX4_bestByStopping 40 [8] rfl ?_
  exact l1 n.toNat 0 (by omega) (by omega)
set_option maxHeartbeats 1000000 in
set_option maxRecDepth 100000 in
theorem olf (hv : vX S v) {d n : Int} (hd : 0 ≤ d ∧ d < v.1 1) (hn : 1 ≤ n ∧ n ≤ 5) : zEv X 4 mX4_leastFaceToStop [zR 10, zI d, zI n] (cX S ++ t) (zIs (.inl (some (zI (vFl (vTot v.2.1 d ^ (n - 1).toNat) (vSt (v.2.1.1 d) (vTot v.2.1 d) (n - 1)).1 5 1)))) (cX S ++ t)) := by
  have h4 := hv.1.2.2.2.2.1
  have e4 : S.1 16 = v.1 4 := hv.2.2.2.2.2.1
  have h1 := hv.1.2.1
  have e1 : S.1 13 = v.1 1 := hv.2.2.1
  have h2 := hv.1.2.2.1
  have e2 : S.1 14 = v.1 2 := hv.2.2.2.1
  have ht := gtb hv d
  have hb := vSt_b hv.1 d (i := n - 1) (by omega)
  have hb2 := ipow_5 ht (n := n - 1) (by omega) (by omega)
  have lp : ∀ (k : Nat) (f : Int), 1 ≤ f → f + k = 6 → zWP X mX4_leastFaceToStop 4 (zIs (.inl (some (zI (vFl (vTot v.2.1 d ^ (n - 1).toNat) (vSt (v.2.1.1 d) (vTot v.2.1 d) (n - 1)).1 k f)))) (cX S ++ t)) 29 [some (zR 10), some (zI d), some (zI n), some (zJ (vSt (v.2.1.1 d) (vTot v.2.1 d) (n - 1)).1), none, some (zJ (vTot v.2.1 d ^ (n - 1).toNat)), none, some (zI f)] [] (cX S ++ t) 0 0 := by
    intro k
    induction k with
    | zero =>
      intro f f0 hk
      refine zWP_run gX4_leastFaceToStop 60 [29] ?_
      refine zBrT (by simp only [rI]; omega) (by omega) ?_
      exact ⟨rfl, rfl⟩
    | succ k ih =>
      intro f f0 hk
      have hm := mul_b (a := f) (m := 6) ⟨by omega, by omega⟩ hb2
      simp only [vFl]
      refine zWP_run gX4_leastFaceToStop 60 [29] ?_
      refine zBrF (by simp only [rI]; omega) (by omega) ?_
      refine mVc_i (by simp only [rI]; omega) ?_
      refine zBr (by simp only [rL]; omega) (fun c => ?_) (fun c => ?_)
      · rw [if_neg (Int.not_lt.mpr c)]
        exact ⟨rfl, rfl⟩
      · rw [if_pos (Int.not_le.mp c)]
        exact ih (f + 1) (by omega) (by omega)
  refine zEv_run gX4_leastFaceToStop 60 [29] rfl ?_
  refine zCl_e (obst hv hd ⟨by omega, by omega⟩) (by decide) ?_
  refine zCl_e (gtot hv hd.1 hd.2) (by decide) ?_
  refine mVc_i (by simp only [rI]; omega) ?_
  refine zCl_e (pow9 ⟨by omega, by omega⟩) (by decide) ?_
  exact lp 5 1 (by omega) (by omega)
set_option maxHeartbeats 1000000 in
set_option maxRecDepth 100000 in
theorem oaf (hv : vX S v) {x ag : Int} {r : Int → Int} (hx : 0 ≤ x ∧ x < v.1 1) (hag : ag = 0 ∨ ag = 1) (hr : ∀ s : Int, 0 ≤ s → s < 64 → S.2.1 7 s.toNat = r s) : zEv X 2 mX4_addToFaceSets [zR 10, zI x, zI ag] (cX S ++ t) (fun o9 h9 => o9 = .inl none ∧ ∃ f : Nat → Int, (∀ s : Int, 0 ≤ s → s < 64 → f s.toNat = aF (v.2.1.1 x) ag r s) ∧ h9 = cX (sA S 7 f) ++ t) := by
  have h4 := hv.1.2.2.2.2.1
  have e4 : S.1 16 = v.1 4 := hv.2.2.2.2.2.1
  have h1 := hv.1.2.1
  have e1 : S.1 13 = v.1 1 := hv.2.2.1
  have h2 := hv.1.2.2.1
  have e2 : S.1 14 = v.1 2 := hv.2.2.2.1
  have l1 : ∀ (k : Nat) (s : Int) (f : Nat → Int), s + 1 = k → s < 64 → (∀ j : Int, s < j → j < 64 → f j.toNat = aF (v.2.1.1 x) ag r j) → (∀ j : Int, 0 ≤ j → j ≤ s → f j.toNat = r j) → zWP X mX4_addToFaceSets 2 (fun o9 h9 => o9 = .inl none ∧ ∃ f : Nat → Int, (∀ s : Int, 0 ≤ s → s < 64 → f s.toNat = aF (v.2.1.1 x) ag r s) ∧ h9 = cX (sA S 7 f) ++ t) 3 [some (zR 10), some (zI x), some (zI ag), some (zI s), none, none, none, none, none, none] [] (cX (sA S 7 f) ++ t) 0 0 := by
    intro k
    induction k with
    | zero =>
      intro s f hk s1 hf hr2
      refine zWP_run gX4_addToFaceSets 80 [3] ?_
      refine zBrT (by simp only [rI]; omega) (by omega) ?_
      exact ⟨rfl, f, fun j j0 j1 => hf j (by omega) j1, rfl⟩
    | succ k ih =>
      intro s f hk s1 hf hr2
      have hv2 : vX (sA S 7 f) v := hv
      have l2 : ∀ (k : Nat) (i : Int), 0 ≤ i → i + k = 6 → zWP X mX4_addToFaceSets 2 (fun o9 h9 => o9 = .inl none ∧ ∃ f : Nat → Int, (∀ s : Int, 0 ≤ s → s < 64 → f s.toNat = aF (v.2.1.1 x) ag r s) ∧ h9 = cX (sA S 7 f) ++ t) 13 [some (zR 10), some (zI x), some (zI ag), some (zI s), some (zJ (zSum (fun i => if bit s i = 1 then v.2.1.1 x (i + 1) * (r (s - 2 ^ i.toNat) + (if ag = 1 then r s else 0)) else 0) i)), none, some (zI (i + 1)), none, none, none] [] (cX (sA S 7 f) ++ t) 0 0 := by
        intro k2
        induction k2 with
        | zero =>
          intro i i0 hk2
          have k3 := ih (s - 1) (va_up f s.toNat (aF (v.2.1.1 x) ag r s)) (by omega) (by omega) (fun j j0 j1 => by
            by_cases e : j = s
            · rw [e, va_up_s]
            · rw [va_up_o _ _ (by omega)]; exact hf j (by omega) j1) (fun j j0 j1 => by
              rw [va_up_o _ _ (by omega)]; exact hr2 j j0 (by omega))
          rw [aF, ← show i = 6 by omega] at k3
          refine zWP_run gX4_addToFaceSets 80 [3, 13] ?_
          refine zBrT (by simp only [rI]; omega) (by omega) ?_
          refine mVc_i (by omega) ?_
          exact zWP_fg k3 (by repeat (first | exact trivial | refine ⟨rfl, ?_⟩))
        | succ k2 ih2 =>
          intro i i0 hk2
          have hw := gbd hv x (i + 1)
          have hp := pw_pos i0 (k := i) (by omega)
          have hb := bit_01 s i
          have es : (Int32.ofInt 1 <<< (Int32.ofInt (i + 1 - 1) &&& 31)).toInt = 2 ^ i.toNat := by
            rw [show i + 1 - 1 = i by omega]
            exact bt_shl i0 (by omega)
          have ea : (Int32.ofInt s &&& Int32.ofInt ((Int32.ofInt 1 <<< (Int32.ofInt (i + 1 - 1) &&& 31)).toInt)).toInt = bit s i * 2 ^ i.toNat := by
            rw [es]
            exact bt_and (by omega) s1 i0 (by omega)
          have k3 := ih2 (i + 1) (by omega) (by omega)
          rw [zSum_s i0] at k3
          refine zWP_run gX4_addToFaceSets 80 [3, 13] ?_
          refine zBrF (by simp only [rI]; omega) (by omega) ?_
          refine zBr (rI_toInt _) (fun c => ?_) (fun c => ?_)
          · have c2 : (Int32.ofInt s &&& Int32.ofInt ((Int32.ofInt 1 <<< (Int32.ofInt (i + 1 - 1) &&& 31)).toInt)).toInt = 0 := c
            rw [ea] at c2
            have c3 : ¬ bit s i = 1 := by
              intro q
              rw [q] at c2
              omega
            rw [if_neg c3, Int.add_zero] at k3
            exact zWP_fg k3 (by repeat (first | exact trivial | refine ⟨rfl, ?_⟩))
          · have c2 : ¬ (Int32.ofInt s &&& Int32.ofInt ((Int32.ofInt 1 <<< (Int32.ofInt (i + 1 - 1) &&& 31)).toInt)).toInt = 0 := c
            rw [ea] at c2
            have c3 : bit s i = 1 := by
              rcases hb with q | q
              · rw [q] at c2
                omega
              · exact q
            have ex : (Int32.ofInt s ^^^ Int32.ofInt ((Int32.ofInt 1 <<< (Int32.ofInt (i + 1 - 1) &&& 31)).toInt)).toInt = s - 2 ^ i.toNat := by
              rw [es]
              exact (bt_xor (by omega) s1 i0 (by omega) c3).1
            have ex2 := (bt_xor (by omega) s1 i0 (by omega) c3).2
            have e5 := hr2 (s - 2 ^ i.toNat) ex2 (by omega)
            have e6 := hr2 s (by omega) (by omega)
            refine mVc_i ?_ ?_
            · show 0 ≤ (Int32.ofInt s ^^^ Int32.ofInt ((Int32.ofInt 1 <<< (Int32.ofInt (i + 1 - 1) &&& 31)).toInt)).toInt ∧ (Int32.ofInt s ^^^ Int32.ofInt ((Int32.ofInt 1 <<< (Int32.ofInt (i + 1 - 1) &&& 31)).toInt)).toInt < 64
              rw [ex]
              omega
            rw [← ex] at e5
            refine zBr (by simp only [rI]; omega) (fun c4 => ?_) (fun c4 => ?_)
            · have eT : (if bit s i = 1 then v.2.1.1 x (i + 1) * (r (s - 2 ^ i.toNat) + (if ag = 1 then r s else 0)) else 0) = v.2.1.1 x (i + 1) * (f ((Int32.ofInt s ^^^ Int32.ofInt ((Int32.ofInt 1 <<< (Int32.ofInt (i + 1 - 1) &&& 31)).toInt)).toInt).toNat + 0) := by rw [if_pos c3, if_neg (by omega), e5, ex]
              rw [eT] at k3
              refine zCl_e (gw hv2 hx.1 hx.2 (by omega) (by omega)) (by decide) ?_
              refine mVc_i (by simp only [rI]; omega) ?_
              exact zWP_fg k3 (by repeat (first | exact trivial | refine ⟨rfl, ?_⟩))
            · have eT : (if bit s i = 1 then v.2.1.1 x (i + 1) * (r (s - 2 ^ i.toNat) + (if ag = 1 then r s else 0)) else 0) = v.2.1.1 x (i + 1) * (f ((Int32.ofInt s ^^^ Int32.ofInt ((Int32.ofInt 1 <<< (Int32.ofInt (i + 1 - 1) &&& 31)).toInt)).toInt).toNat + f s.toNat) := by rw [if_pos c3, if_pos (by omega), e5, ex, e6]
              rw [eT] at k3
              refine mVc_i (by omega) ?_
              refine zCl_e (gw hv2 hx.1 hx.2 (by omega) (by omega)) (by decide) ?_
              refine mVc_i (by simp only [rI]; omega) ?_
              exact zWP_fg k3 (by repeat (first | exact trivial | refine ⟨rfl, ?_⟩))
      refine zWP_run gX4_addToFaceSets 80 [3, 13] ?_
      refine zBrF (by simp only [rI]; omega) (by omega) ?_
      exact zWP_fg (l2 6 0 (by omega) (by omega)) (by repeat (first | exact trivial | refine ⟨rfl, ?_⟩))
  refine zEv_run gX4_addToFaceSets 40 [3] rfl ?_
  exact l1 64 63 (S.2.1 7) (by omega) (by omega) (fun j j0 j1 => by omega) (fun j j0 j1 => hr j j0 (by omega))
set_option maxHeartbeats 1000000 in
set_option maxRecDepth 100000 in
theorem ogap {c : Int} : zEv X 1 mX4_isWithoutGap [zI c] (cX S ++ t) (zIs (.inl (some (zI (if vGp c = 0 then 1 else 0)))) (cX S ++ t)) := by
  refine zEv_run gX4_isWithoutGap 40 [] rfl ?_
  refine zBr (rI_toInt _) (fun c1 => ?_) (fun c1 => ?_)
  · have c2 : vGp c = 0 := c1
    rw [if_pos c2]
    exact mVc_i (Or.inr rfl) ⟨rfl, rfl⟩
  · have c2 : ¬ vGp c = 0 := c1
    rw [if_neg c2]
    exact mVc_i (Or.inl rfl) ⟨rfl, rfl⟩
set_option maxHeartbeats 1000000 in
set_option maxRecDepth 100000 in
theorem oul (hv : vX S v) {c : Int} (hc : 0 ≤ c ∧ c < 32) {wg : Int} (hw : wg = 0 ∨ wg = 1) : zEv X 3 mX4_waysOfUnlikeFaces [zR 10, zI c, zI wg] (cX S ++ t) (zTo S t (.inl (some (zJ (vUl (vFc v c (v.1 1)) wg 64)))) v) := by
  have h4 := hv.1.2.2.2.2.1
  have e4 : S.1 16 = v.1 4 := hv.2.2.2.2.2.1
  have h1 := hv.1.2.1
  have e1 : S.1 13 = v.1 1 := hv.2.2.1
  have h2 := hv.1.2.2.1
  have e2 : S.1 14 = v.1 2 := hv.2.2.2.1
  have l2 : ∀ (k : Nat) (i : Int) (f : Nat → Int), 0 ≤ i → (∀ s : Int, 0 ≤ s → s < 64 → f s.toNat = vFc v c (v.1 1) s) → i + k = 64 → zWP X mX4_waysOfUnlikeFaces 3 (zTo S t (.inl (some (zJ (vUl (vFc v c (v.1 1)) wg 64)))) v) 45 [some (zR 10), some (zI c), some (zI wg), some (zJ (vUl (vFc v c (v.1 1)) wg i)), none, some (zI i)] [] (cX (sA S 7 f) ++ t) 0 0 := by
    intro k
    induction k with
    | zero =>
      intro i f g0 hf hk
      refine zWP_run gX4_waysOfUnlikeFaces 80 [45] ?_
      refine zBrT (by simp only [rI]; omega) (by omega) ?_
      rw [← show i = 64 by omega]
      exact ⟨rfl, _, rfl, sF_A S f ⟨by omega, by omega⟩, hv⟩
    | succ k ih =>
      intro i f g0 hf hk
      refine zWP_run gX4_waysOfUnlikeFaces 80 [45] ?_
      refine zBrF (by simp only [rI]; omega) (by omega) ?_
      have k3 := ih (i + 1) f (by omega) hf (by omega)
      rw [vUl_s _ _ g0, ← hf i (by omega) (by omega)] at k3
      refine zBr (by simp only [rI]; omega) (fun c1 => ?_) (fun c1 => ?_)
      · rw [if_pos (Or.inl c1)] at k3
        refine mVc_i (by omega) ?_
        exact k3
      · refine zCl_e (ogap) (by decide) ?_
        refine zBb (fun c2 => ?_) (fun c2 => ?_)
        · rw [if_neg (fun q => by rcases q with q | q; exact c1 q; exact c2 q), Int.add_zero] at k3
          exact k3
        · rw [if_pos (Or.inr c2)] at k3
          refine mVc_i (by omega) ?_
          exact k3
  have l1 : ∀ (k : Nat) (d : Int) (f : Nat → Int), 0 ≤ d → (∀ s : Int, 0 ≤ s → s < 64 → f s.toNat = vFc v c d s) → d + k = v.1 1 → zWP X mX4_waysOfUnlikeFaces 3 (zTo S t (.inl (some (zJ (vUl (vFc v c (v.1 1)) wg 64)))) v) 9 [some (zR 10), some (zI c), some (zI wg), some (zI d), none, none] [] (cX (sA S 7 f) ++ t) 0 0 := by
    intro k
    induction k with
    | zero =>
      intro d f g0 hf hk
      refine zWP_run gX4_waysOfUnlikeFaces 80 [9, 45] ?_
      have e13 : (sA S 7 f).1 13 = v.1 1 := e1
      refine zBrT (by simp only [rI]; omega) (by omega) ?_
      exact l2 64 0 f (by omega) (by rw [← show d = v.1 1 by omega]; exact hf) (by omega)
    | succ k ih =>
      intro d f g0 hf hk
      refine zWP_run gX4_waysOfUnlikeFaces 80 [9, 45] ?_
      have e13 : (sA S 7 f).1 13 = v.1 1 := e1
      refine zBrF (by simp only [rI]; omega) (by omega) ?_
      have hv2 : vX (sA S 7 f) v := hv
      have hb := bit_01 c d
      refine zCl_e (oin hc ⟨g0, by omega⟩) (by decide) ?_
      refine zBr (by simp only [rI]; omega) (fun c1 => ?_) (fun c1 => ?_)
      · exact ih (d + 1) f (by omega) (by rw [vFc_s v c g0, if_neg (by omega)]; exact hf) (by omega)
      · refine zCl_i (oaf (S := sA S 7 f) (t := t) hv2 ⟨g0, by omega⟩ (Or.inl rfl) hf) (by decide) ?_
        intro o9 h9 q9
        obtain ⟨rfl, f2, hf2, rfl⟩ := q9
        exact ih (d + 1) f2 (by omega) (by rw [vFc_s v c g0, if_pos (by omega)]; exact hf2) (by omega)
  refine zEv_run gX4_waysOfUnlikeFaces 40 [9, 45] rfl ?_
  refine zCl_i (obeg7) (by decide) ?_
  intro o9 h9 q9
  obtain ⟨rfl, f, hf, rfl⟩ := q9
  exact l1 (v.1 1).toNat 0 f (by omega) hf (by omega)
set_option maxHeartbeats 1000000 in
set_option maxRecDepth 100000 in
theorem oev (hv : vX S v) {d n : Int} (hd : 0 ≤ d ∧ d < v.1 1) (hn : 0 ≤ n ∧ n ≤ 8) : zEv X 3 mX4_waysOfEveryFace [zR 10, zI d, zI n] (cX S ++ t) (zTo S t (.inl (some (zJ (vEv (v.2.1.1 d) n (vAl (v.2.1.1 d) 6))))) v) := by
  have h4 := hv.1.2.2.2.2.1
  have e4 : S.1 16 = v.1 4 := hv.2.2.2.2.2.1
  have h1 := hv.1.2.1
  have e1 : S.1 13 = v.1 1 := hv.2.2.1
  have h2 := hv.1.2.2.1
  have e2 : S.1 14 = v.1 2 := hv.2.2.2.1
  have l2 : ∀ (k : Nat) (i : Int) (f : Nat → Int), 0 ≤ i → (∀ s : Int, 0 ≤ s → s < 64 → f s.toNat = vEv (v.2.1.1 d) n s) → i + k = 6 → zWP X mX4_waysOfEveryFace 3 (zTo S t (.inl (some (zJ (vEv (v.2.1.1 d) n (vAl (v.2.1.1 d) 6))))) v) 31 [some (zR 10), some (zI d), some (zI n), some (zI (vAl (v.2.1.1 d) i)), some (zI (i + 1))] [] (cX (sA S 7 f) ++ t) 0 0 := by
    intro k
    induction k with
    | zero =>
      intro i f g0 hf hk
      refine zWP_run gX4_waysOfEveryFace 80 [31] ?_
      refine zBrT (by simp only [rI]; omega) (by omega) ?_
      have hb := vAl_b (v.2.1.1 d) (i := 6) (by omega)
      have h64 : (2 : Int) ^ (6 : Int).toNat = 64 := rfl
      rw [show i = 6 by omega]
      refine mVc_i (by omega) ?_
      rw [← hf (vAl (v.2.1.1 d) 6) (by omega) (by omega)]
      exact ⟨rfl, _, rfl, sF_A S f ⟨by omega, by omega⟩, hv⟩
    | succ k ih =>
      intro i f g0 hf hk
      refine zWP_run gX4_waysOfEveryFace 80 [31] ?_
      refine zBrF (by simp only [rI]; omega) (by omega) ?_
      have hv2 : vX (sA S 7 f) v := hv
      have k3 := ih (i + 1) f (by omega) hf (by omega)
      rw [vAl_s _ g0] at k3
      have hw := gbd hv d (i + 1)
      have hb := vAl_b (v.2.1.1 d) g0
      have hp := pw_pos g0 (k := i) (by omega)
      refine zCl_e (gw hv2 hd.1 hd.2 (by omega) (by omega)) (by decide) ?_
      refine zBr (by simp only [rI]; omega) (fun c1 => ?_) (fun c1 => ?_)
      · rw [if_neg (by omega), Int.add_zero] at k3
        exact k3
      · rw [if_pos (by omega)] at k3
        have es : (Int32.ofInt 1 <<< (Int32.ofInt (i + 1 - 1) &&& 31)).toInt = 2 ^ i.toNat := by
          rw [show i + 1 - 1 = i by omega]
          exact bt_shl g0 (by omega)
        have eo := bt_or hb.1 (k := i) (by omega) g0 (by omega)
        rw [if_neg (by rw [Int.ediv_eq_zero_of_lt hb.1 hb.2]; decide)] at eo
        rw [← eo, ← es] at k3
        exact k3
  have l1 : ∀ (k : Nat) (i : Int) (f : Nat → Int), 0 ≤ i → (∀ s : Int, 0 ≤ s → s < 64 → f s.toNat = vEv (v.2.1.1 d) i s) → i + k = n → zWP X mX4_waysOfEveryFace 3 (zTo S t (.inl (some (zJ (vEv (v.2.1.1 d) n (vAl (v.2.1.1 d) 6))))) v) 9 [some (zR 10), some (zI d), some (zI n), some (zI i), none] [] (cX (sA S 7 f) ++ t) 0 0 := by
    intro k
    induction k with
    | zero =>
      intro i f g0 hf hk
      refine zWP_run gX4_waysOfEveryFace 80 [9, 31] ?_
      refine zBrT (by simp only [rI]; omega) (by omega) ?_
      exact l2 6 0 f (by omega) (by rw [← show i = n by omega]; exact hf) (by omega)
    | succ k ih =>
      intro i f g0 hf hk
      refine zWP_run gX4_waysOfEveryFace 80 [9, 31] ?_
      refine zBrF (by simp only [rI]; omega) (by omega) ?_
      have hv2 : vX (sA S 7 f) v := hv
      refine zCl_i (oaf (S := sA S 7 f) (t := t) hv2 hd (Or.inr rfl) hf) (by decide) ?_
      intro o9 h9 q9
      obtain ⟨rfl, f2, hf2, rfl⟩ := q9
      exact ih (i + 1) f2 (by omega) (by rw [vEv_s _ g0]; exact hf2) (by omega)
  refine zEv_run gX4_waysOfEveryFace 40 [9, 31] rfl ?_
  refine zCl_i (obeg7) (by decide) ?_
  intro o9 h9 q9
  obtain ⟨rfl, f, hf, rfl⟩ := q9
  exact l1 n.toNat 0 f (by omega) hf (by omega)
end Odds3
