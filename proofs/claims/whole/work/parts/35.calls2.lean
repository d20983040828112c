/-! the calls: ants, rain, fans, lots; odds; beating; stopping; what was thrown -/
def vAn (v : vV) (m i : Int) : Int × vV := zIt (fun d x => (x.1 + vAte x.2 d m, vEat x.2 d m)) (0, v) i
theorem vAn_s (v : vV) (m : Int) {i : Int} (h : 0 ≤ i) : vAn v m (i + 1) = ((vAn v m i).1 + vAte (vAn v m i).2 i m, vEat (vAn v m i).2 i m) := zIt_s _ _ h
theorem vEat_1 (v : vV) (d m : Int) : (vEat v d m).1 = v.1 := by
  unfold vEat
  split <;> rfl
def vR1 (n d i : Int) (x : Int × vV) : Int × vV := zIt (fun f x => (x.1 + (if x.2.2.1.2.1 d = 1 then 0 else min (x.2.2.1.1 d (f + 1)) n), vWr x.2 d (f + 1) n)) x i
theorem vR1_s (n d : Int) (x : Int × vV) {i : Int} (h : 0 ≤ i) : vR1 n d (i + 1) x = ((vR1 n d i x).1 + (if (vR1 n d i x).2.2.1.2.1 d = 1 then 0 else min ((vR1 n d i x).2.2.1.1 d (i + 1)) n), vWr (vR1 n d i x).2 d (i + 1) n) := zIt_s _ _ h
def vR0 (v : vV) (n i : Int) : Int × vV := zIt (fun d x => vR1 n d 6 x) (0, v) i
theorem vR0_s (v : vV) (n : Int) {i : Int} (h : 0 ≤ i) : vR0 v n (i + 1) = vR1 n i 6 (vR0 v n i) := zIt_s _ _ h
def vCn (v : vV) (f i : Int) : Int := vAl (fun j => if v.2.1.1 (j - 1) f = 0 then 1 else 0) i
theorem vCn_s (v : vV) (f : Int) {i : Int} (h : 0 ≤ i) : vCn v f (i + 1) = vCn v f i + (if v.2.1.1 i f = 0 then 2 ^ i.toNat else 0) := by
  unfold vCn
  rw [vAl_s _ h]
  congr 1
  rw [show i + 1 - 1 = i by omega]
  by_cases c : v.2.1.1 i f = 0
  · rw [if_pos c, if_pos c, if_pos (by omega)]
  · rw [if_neg c, if_neg c, if_neg (by omega)]
def vCg (w tt g : Int) : Nat → Int → Int
  | 0, c => if g ≤ c then 1 else 0
  | k + 1, c => if g ≤ c then tt ^ (k + 1) else if c ≤ 0 then 0 else w * vCg w tt g k (c + 1) + (tt - w) * vCg w tt g k (c - 1)
def vLe (w e l : Int) : Nat → Int → Int
  | 0, a => if 0 < a then 1 else 0
  | k + 1, a => w * vLe w e l k (a + 1) + e * vLe w e l k a + l * vLe w e l k (a - 1)
theorem ipow_8 {x : Int} (h : 0 ≤ x ∧ x ≤ 120) {n : Int} (h0 : 0 ≤ n) (h8 : n ≤ 8) : 0 ≤ x ^ n.toNat ∧ x ^ n.toNat ≤ 42998169600000000 := by
  have h1 := ipow_b h n.toNat
  have h2 : (120 : Int) ^ n.toNat ≤ 120 ^ 8 := by
    rw [show (120 : Int) ^ 8 = 42998169600000000 by decide]
    have hn : n = 0 ∨ n = 1 ∨ n = 2 ∨ n = 3 ∨ n = 4 ∨ n = 5 ∨ n = 6 ∨ n = 7 ∨ n = 8 := by omega
    rcases hn with rfl | rfl | rfl | rfl | rfl | rfl | rfl | rfl | rfl <;> decide
  rw [show (120 : Int) ^ 8 = 42998169600000000 by decide] at h2
  omega
theorem vAw_b {r : Int → Int} {B : Int} (hB : 0 ≤ B) (hr : ∀ s, 0 ≤ r s ∧ r s ≤ B) {i : Int} (h0 : 0 ≤ i) (h1 : i ≤ 31) : 0 ≤ vAw r i ∧ vAw r i ≤ i * (31 * B) := by
  have h := zIt_i (fun (s : Int) (x : Int) => x + s * r s) 0 (fun i x => i ≤ 31 → 0 ≤ x ∧ x ≤ i * (31 * B)) (by intro _; omega) (fun i x i0 ih hi => by
    have h2 := ih (by omega)
    have h3 := hr i
    have h4 := mul_b (a := i) (b := r i) (m := 31) (n := B) (by omega) h3
    have e : (i + 1) * (31 * B) = i * (31 * B) + 31 * B := by rw [Int.add_mul, Int.one_mul]
    omega) (i := i) h0 h1
  have e : ∀ k : Nat, vAw r k = zIt (fun (s : Int) (x : Int) => x + s * r s) 0 k := by
    intro k
    induction k with
    | zero => rfl
    | succ k ih =>
      have q1 := vAw_s r (i := (k : Int)) (by omega)
      have q2 := zIt_s (fun (s : Int) (x : Int) => x + s * r s) 0 (i := (k : Int)) (by omega)
      have q3 : ((k + 1 : Nat) : Int) = (k : Int) + 1 := by omega
      rw [q3, q1, q2, ih]
  have e2 := e i.toNat
  rw [show ((i.toNat : Nat) : Int) = i by omega] at e2
  rw [e2]
  exact h
theorem vFl_b (wh go : Int) : ∀ (k : Nat) (f : Int), f ≤ vFl wh go k f ∧ vFl wh go k f ≤ f + k
  | 0, f => by simp only [vFl]; omega
  | k + 1, f => by
    simp only [vFl]
    split
    · have := vFl_b wh go k (f + 1)
      omega
    · omega
section Calls2
variable {X : mX} {S : sS} {t : zH} {v : vV}
def pAnts (v : vV) (m : Int) : (Int ⊕ Nat) × vV := if 1 ≤ m ∧ m ≤ 99 then ((.inl ((vAn v m (v.1 1)).1), (vAn v m (v.1 1)).2)) else (.inr 0, v)
set_option maxHeartbeats 1000000 in
set_option maxRecDepth 100000 in
theorem cAnts (hv : vX S v) {m : Int} (hm : rI m) : zEv X 12 mX9_ants [zR 0, zI m] (cX S ++ t) (zTp S t (pAnts v m)) := by
  unfold pAnts
  have h4 := hv.1.2.2.2.2.1
  have e4 : S.1 16 = v.1 4 := hv.2.2.2.2.2.1
  have h1 := hv.1.2.1
  have e1 : S.1 13 = v.1 1 := hv.2.2.1
  have h2 := hv.1.2.2.1
  have e2 : S.1 14 = v.1 2 := hv.2.2.2.1
  by_cases c0 : 1 ≤ m ∧ m ≤ 99
  rotate_left
  · rw [if_neg c0]
    refine zEv_run gX9_ants 80 [10] rfl ?_
    refine zCl_e (nm_f hv hm (by simp only [rI]; omega) c0) (by decide) ?_
    exact ⟨rfl, S, rfl, sG_r S, hv⟩
  have lp : ∀ (k : Nat) (i : Int) (R : sS), 0 ≤ i → sG S R → vX R (vAn v m i).2 → (vAn v m i).2.1 1 = v.1 1 → i + k = v.1 1 → zWP X mX9_ants 12 (zTp S t (.inl (vAn v m (v.1 1)).1, (vAn v m (v.1 1)).2)) 10 [some (zR 0), some (zI m), some (zI (vAn v m i).1), some (zI i)] [] (cX R ++ t) 0 0 := by
    intro k
    induction k with
    | zero =>
      intro i R i0 hg hr hd hk
      refine zWP_run gX9_ants 80 [10] ?_
      have r1 : R.1 13 = (vAn v m i).2.1 1 := hr.2.2.1
      refine zBrT (by simp only [rI]; omega) (by omega) ?_
      rw [← show i = v.1 1 by omega]
      exact ⟨rfl, R, rfl, hg, hr⟩
    | succ k ih =>
      intro i R i0 hg hr hd hk
      refine zWP_run gX9_ants 80 [10] ?_
      have r1 : R.1 13 = (vAn v m i).2.1 1 := hr.2.2.1
      refine zBrF (by simp only [rI]; omega) (by omega) ?_
      refine zCl_t (gfeed hr i0 (by omega) (by omega) (by omega)) (by decide) ?_
      intro R2 f1 hv1
      have k3 := ih (i + 1) R2 (by omega) (sG_t hg (sG_f f1)) (by rw [vAn_s v m i0]; exact hv1) (by rw [vAn_s v m i0]; show (vEat _ _ _).1 1 = _; rw [vEat_1]; exact hd) (by omega)
      rw [vAn_s v m i0] at k3
      exact k3
  by_cases c1 : 1 ≤ m ∧ m ≤ 99
  · rw [if_pos c1]
    refine zEv_run gX9_ants 120 [10] rfl ?_
    refine zCl_e (nm_t hv hm (by simp only [rI]; omega) c1) (by decide) ?_
    exact lp (v.1 1).toNat 0 S (by omega) (sG_r S) hv rfl (by omega)
  · rw [if_neg c1]
    refine zEv_run gX9_ants 120 [10] rfl ?_
    refine zCl_e (nm_f hv hm (by simp only [rI]; omega) c1) (by decide) ?_
    exact ⟨rfl, S, rfl, sG_r S, hv⟩
def pEaten (v : vV) (d f m : Int) : (Int ⊕ Nat) × vV := if 0 ≤ d ∧ d < v.1 1 then (if 1 ≤ f ∧ f ≤ 6 then (if 0 ≤ m ∧ m ≤ 99 then ((.inl (vEn v d f m), v)) else (.inr 0, v)) else (.inr 0, v)) else (.inr 1, v)
set_option maxHeartbeats 1000000 in
set_option maxRecDepth 100000 in
theorem cEaten (hv : vX S v) {d f m : Int} (hd : rI d) (hf : rI f) (hm : rI m) : zEv X 12 mX9_eaten [zR 0, zI d, zI f, zI m] (cX S ++ t) (zTp S t (pEaten v d f m)) := by
  unfold pEaten
  by_cases c1 : 0 ≤ d ∧ d < v.1 1
  · rw [if_pos c1]
    by_cases c2 : 1 ≤ f ∧ f ≤ 6
    · rw [if_pos c2]
      by_cases c3 : 0 ≤ m ∧ m ≤ 99
      · rw [if_pos c3]
        refine zEv_run gX9_eaten 120 [] rfl ?_
        refine zCl_e (nd_t hv c1) (by decide) ?_
        refine zCl_e (nf_t hv c2) (by decide) ?_
        refine zCl_e (nm_t hv hm (by simp only [rI]; omega) c3) (by decide) ?_
        refine zCl_e (gafter hv c1.1 c1.2 c2 c3) (by decide) ?_
        exact ⟨rfl, S, rfl, sG_r S, hv⟩
      · rw [if_neg c3]
        refine zEv_run gX9_eaten 120 [] rfl ?_
        refine zCl_e (nd_t hv c1) (by decide) ?_
        refine zCl_e (nf_t hv c2) (by decide) ?_
        refine zCl_e (nm_f hv hm (by simp only [rI]; omega) c3) (by decide) ?_
        exact ⟨rfl, S, rfl, sG_r S, hv⟩
    · rw [if_neg c2]
      refine zEv_run gX9_eaten 120 [] rfl ?_
      refine zCl_e (nd_t hv c1) (by decide) ?_
      refine zCl_e (nf_f hv hf c2) (by decide) ?_
      exact ⟨rfl, S, rfl, sG_r S, hv⟩
  · rw [if_neg c1]
    refine zEv_run gX9_eaten 120 [] rfl ?_
    refine zCl_e (nd_f hv hd c1) (by decide) ?_
    exact ⟨rfl, S, rfl, sG_r S, hv⟩
def pLasts (v : vV) (d : Int) : (Int ⊕ Nat) × vV := if 0 ≤ d ∧ d < v.1 1 then ((.inl (if v.2.1.2.1 d = 1 ∧ ¬ vTot v.2.1 d = 0 then -1 else vTot v.2.1 d), v)) else (.inr 1, v)
set_option maxHeartbeats 1000000 in
set_option maxRecDepth 100000 in
theorem cLasts (hv : vX S v) {d : Int} (hd : rI d) : zEv X 12 mX9_lasts [zR 0, zI d] (cX S ++ t) (zTp S t (pLasts v d)) := by
  unfold pLasts
  by_cases c1 : 0 ≤ d ∧ d < v.1 1
  · rw [if_pos c1]
    refine zEv_run gX9_lasts 120 [] rfl ?_
    refine zCl_e (nd_t hv c1) (by decide) ?_
    have hs := hv.1.2.2.2.2.2.1.2.1 d
    refine zCl_e (gsalt hv c1.1 c1.2) (by decide) ?_
    refine zBr (by simp only [rI]; omega) (fun c => ?_) (fun c => ?_)
    · rw [if_neg (by omega)]
      refine zCl_e (gtot hv c1.1 c1.2) (by decide) ?_
      exact ⟨rfl, S, rfl, sG_r S, hv⟩
    · refine zCl_e (ggone hv c1.1 c1.2) (by decide) ?_
      refine zBb (fun c3 => ?_) (fun c3 => ?_)
      · rw [if_pos (by omega)]
        exact ⟨rfl, S, rfl, sG_r S, hv⟩
      · rw [if_neg (by omega)]
        refine zCl_e (gtot hv c1.1 c1.2) (by decide) ?_
        exact ⟨rfl, S, rfl, sG_r S, hv⟩
  · rw [if_neg c1]
    refine zEv_run gX9_lasts 120 [] rfl ?_
    refine zCl_e (nd_f hv hd c1) (by decide) ?_
    exact ⟨rfl, S, rfl, sG_r S, hv⟩
def pLastFace (v : vV) (d : Int) : (Int ⊕ Nat) × vV := if 0 ≤ d ∧ d < v.1 1 then ((.inl (if v.2.1.2.1 d = 1 then -1 else vLf v d 6), v)) else (.inr 1, v)
set_option maxHeartbeats 1000000 in
set_option maxRecDepth 100000 in
theorem cLastFace (hv : vX S v) {d : Int} (hd : rI d) : zEv X 12 mX9_lastFace [zR 0, zI d] (cX S ++ t) (zTp S t (pLastFace v d)) := by
  unfold pLastFace
  by_cases c1 : 0 ≤ d ∧ d < v.1 1
  · rw [if_pos c1]
    refine zEv_run gX9_lastFace 120 [] rfl ?_
    refine zCl_e (nd_t hv c1) (by decide) ?_
    have hs := hv.1.2.2.2.2.2.1.2.1 d
    refine zCl_e (gsalt hv c1.1 c1.2) (by decide) ?_
    refine zBr (by simp only [rI]; omega) (fun c => ?_) (fun c => ?_)
    · rw [if_neg (by omega)]
      refine zCl_e (glast hv c1.1 c1.2) (by decide) ?_
      exact ⟨rfl, S, rfl, sG_r S, hv⟩
    · rw [if_pos (by omega)]
      exact ⟨rfl, S, rfl, sG_r S, hv⟩
  · rw [if_neg c1]
    refine zEv_run gX9_lastFace 120 [] rfl ?_
    refine zCl_e (nd_f hv hd c1) (by decide) ?_
    exact ⟨rfl, S, rfl, sG_r S, hv⟩
def pRain (v : vV) (n : Int) : (Int ⊕ Nat) × vV := if 1 ≤ n ∧ n ≤ 20 then ((.inl ((vR0 v n (v.1 1)).1), (vR0 v n (v.1 1)).2)) else (.inr 0, v)
set_option maxHeartbeats 1000000 in
set_option maxRecDepth 100000 in
theorem cRain (hv : vX S v) {n : Int} (hn : rI n) : zEv X 12 mX9_rain [zR 0, zI n] (cX S ++ t) (zTp S t (pRain v n)) := by
  unfold pRain
  have h4 := hv.1.2.2.2.2.1
  have e4 : S.1 16 = v.1 4 := hv.2.2.2.2.2.1
  have h1 := hv.1.2.1
  have e1 : S.1 13 = v.1 1 := hv.2.2.1
  have h2 := hv.1.2.2.1
  have e2 : S.1 14 = v.1 2 := hv.2.2.2.1
  have hn1 := hn.1
  have hn2 := hn.2
  by_cases c0 : 1 ≤ n ∧ n ≤ 20
  rotate_left
  · rw [if_neg c0]
    refine zEv_run gX9_rain 80 [25] rfl ?_
    by_cases k1 : n < 1
    · refine zBrT (by simp only [rI]; omega) k1 ?_
      exact ⟨rfl, S, rfl, sG_r S, hv⟩
    · refine zBrF (by simp only [rI]; omega) k1 ?_
      refine zBrF (by simp only [rI]; omega) (by omega) ?_
      exact ⟨rfl, S, rfl, sG_r S, hv⟩
  have lp : ∀ (k : Nat) (i : Int) (R : sS), 0 ≤ i → sG S R → vX R (vR0 v n i).2 → (vR0 v n i).2.1 1 = v.1 1 → i + k = v.1 1 → zWP X mX9_rain 12 (zTp S t (.inl (vR0 v n (v.1 1)).1, (vR0 v n (v.1 1)).2)) 25 [some (zR 0), some (zI n), some (zI (vR0 v n i).1), some (zI i), none] [] (cX R ++ t) 1 6 := by
    intro k
    induction k with
    | zero =>
      intro i R i0 hg hr hd hk
      refine zWP_run gX9_rain 80 [25] ?_
      have r1 : R.1 13 = (vR0 v n i).2.1 1 := hr.2.2.1
      refine zBrT (by simp only [rI]; omega) (by omega) ?_
      rw [← show i = v.1 1 by omega]
      exact ⟨rfl, R, rfl, hg, hr⟩
    | succ k ih =>
      intro i R i0 hg hr hd hk
      have r1 : R.1 13 = (vR0 v n i).2.1 1 := hr.2.2.1
      have l2 : ∀ (k2 : Nat) (f : Int) (R : sS), 0 ≤ f → sG S R → vX R (vR1 n i f (vR0 v n i)).2 → (vR1 n i f (vR0 v n i)).2.1 1 = v.1 1 → f + k2 = 6 → zWP X mX9_rain 12 (zTp S t (.inl (vR0 v n (v.1 1)).1, (vR0 v n (v.1 1)).2)) 39 [some (zR 0), some (zI n), some (zI (vR1 n i f (vR0 v n i)).1), some (zI i), some (zI (f + 1))] [] (cX R ++ t) 1 6 := by
        intro k2
        induction k2 with
        | zero =>
          intro f R f0 hg hr hd hk2
          refine zWP_run gX9_rain 80 [25, 39] ?_
          refine zBrT (by simp only [rI]; omega) (by omega) ?_
          have k3 := ih (i + 1) R (by omega) hg (by rw [vR0_s v n i0, ← show f = 6 by omega]; exact hr) (by rw [vR0_s v n i0, ← show f = 6 by omega]; exact hd) (by omega)
          rw [vR0_s v n i0, ← show f = 6 by omega] at k3
          exact zWP_fg k3 (by repeat (first | exact trivial | refine ⟨rfl, ?_⟩))
        | succ k2 ih2 =>
          intro f R f0 hg hr hd hk2
          refine zWP_run gX9_rain 80 [25, 39] ?_
          refine zBrF (by simp only [rI]; omega) (by omega) ?_
          refine zCl_t (gwear hr i0 (by omega) (by omega) (by omega) (by omega) (by omega)) (by decide) ?_
          intro R2 f1 hv1
          have k3 := ih2 (f + 1) R2 (by omega) (sG_t hg (sG_f f1)) (by rw [vR1_s n i _ f0]; exact hv1) (by rw [vR1_s n i _ f0]; show (vWr _ _ _ _).1 1 = _; rw [vWr_num]; exact hd) (by omega)
          rw [vR1_s n i _ f0] at k3
          exact k3
      refine zWP_run gX9_rain 80 [25, 39] ?_
      refine zBrF (by simp only [rI]; omega) (by omega) ?_
      exact zWP_fg (l2 6 0 R (by omega) hg hr hd (by omega)) (by repeat (first | exact trivial | refine ⟨rfl, ?_⟩))
  by_cases c1 : 1 ≤ n ∧ n ≤ 20
  · rw [if_pos c1]
    refine zEv_run gX9_rain 120 [25] rfl ?_
    refine zBrF (by simp only [rI]; omega) (by omega) ?_
    refine zBrT (by simp only [rI]; omega) (by omega) ?_
    exact zWP_fg (lp (v.1 1).toNat 0 S (by omega) (sG_r S) hv rfl (by omega)) (by repeat (first | exact trivial | refine ⟨rfl, ?_⟩))
  · rw [if_neg c1]
    refine zEv_run gX9_rain 120 [25] rfl ?_
    by_cases k1 : n < 1
    · refine zBrT (by simp only [rI]; omega) k1 ?_
      exact ⟨rfl, S, rfl, sG_r S, hv⟩
    · refine zBrF (by simp only [rI]; omega) k1 ?_
      refine zBrF (by simp only [rI]; omega) (by omega) ?_
      exact ⟨rfl, S, rfl, sG_r S, hv⟩
def pFan (v : vV) (q : Int) : (Int ⊕ Nat) × vV := if 0 ≤ q ∧ q < v.1 2 then ((.inl (v.2.1.2.2.1 q), vHt v q 0)) else (.inr 1, v)
set_option maxHeartbeats 1000000 in
set_option maxRecDepth 100000 in
theorem cFan (hv : vX S v) {q : Int} (hq : rI q) : zEv X 12 mX9_fan [zR 0, zI q] (cX S ++ t) (zTp S t (pFan v q)) := by
  unfold pFan
  by_cases c1 : 0 ≤ q ∧ q < v.1 2
  · rw [if_pos c1]
    refine zEv_run gX9_fan 120 [] rfl ?_
    refine zCl_e (nh_t hv c1) (by decide) ?_
    have h2 := hv.1.2.2.1
    refine zCl_e (gheat hv c1.1 c1.2) (by decide) ?_
    refine zCl_e (gcool hv c1.1 c1.2) (by decide) ?_
    exact ⟨rfl, _, rfl, sG_A S _ ⟨by omega, by omega⟩, vX_h hv c1.1 (by omega) (by omega)⟩
  · rw [if_neg c1]
    refine zEv_run gX9_fan 120 [] rfl ?_
    refine zCl_e (nh_f hv hq c1) (by decide) ?_
    exact ⟨rfl, S, rfl, sG_r S, hv⟩
def pLot (v : vV) (z : Int) : (Int ⊕ Nat) × vV := (.inl ((vLot v z).2.2.1), (vLot v z).2.2.2)
set_option maxHeartbeats 1000000 in
set_option maxRecDepth 100000 in
theorem cLot (hv : vX S v) {z : Int} (hz : rI z) : zEv X 12 mX9_lot [zR 0, zI z] (cX S ++ t) (zTp S t (pLot v z)) := by
  unfold pLot
  refine zEv_run gX9_lot 120 [] rfl ?_
  refine zCl_e (dbeg) (by decide) ?_
  refine zCl_s (glots (S := sI S 17 z) (t := t) (vX_17 hv z)) (by decide) ?_
  intro R f1 hv1
  exact ⟨rfl, R, rfl, sG_t (sG_I S _ ⟨by omega, by omega⟩) f1, hv1⟩
def pWhole (v : vV) (x : Int) : (Int ⊕ Nat) × vV := if 0 ≤ x ∧ x < 2 ^ (v.1 1).toNat then (if ¬ vWh v x (v.1 1) = 0 then ((.inl (vWh v x (v.1 1)), v)) else (.inr 2, v)) else (.inr 0, v)
set_option maxHeartbeats 1000000 in
set_option maxRecDepth 100000 in
theorem cWhole (hv : vX S v) {x : Int} (hx : rI x) : zEv X 12 mX9_whole [zR 0, zI x] (cX S ++ t) (zTq S t (pWhole v x)) := by
  unfold pWhole
  by_cases c1 : 0 ≤ x ∧ x < 2 ^ (v.1 1).toNat
  · rw [if_pos c1]
    by_cases c2 : ¬ vWh v x (v.1 1) = 0
    · rw [if_pos c2]
      refine zEv_run gX9_whole 120 [] rfl ?_
      refine zCl_e (nsg_t hv hx c1 c2) (by decide) ?_
      refine zCl_e (owh hv (set32 hv.1 c1)) (by decide) ?_
      exact ⟨rfl, S, rfl, sG_r S, hv⟩
    · rw [if_neg c2]
      refine zEv_run gX9_whole 120 [] rfl ?_
      refine zCl_e (nsg_g hv hx c1 (Decidable.not_not.mp c2)) (by decide) ?_
      exact ⟨rfl, S, rfl, sG_r S, hv⟩
  · rw [if_neg c1]
    refine zEv_run gX9_whole 120 [] rfl ?_
    refine zCl_e (nsg_f hv hx c1) (by decide) ?_
    exact ⟨rfl, S, rfl, sG_r S, hv⟩
def pSum (v : vV) (x s : Int) : (Int ⊕ Nat) × vV := if 0 ≤ x ∧ x < 2 ^ (v.1 1).toNat then (if ¬ vWh v x (v.1 1) = 0 then ((.inl (vAt (vSm v x (v.1 1)) s), v)) else (.inr 2, v)) else (.inr 0, v)
set_option maxHeartbeats 1000000 in
set_option maxRecDepth 100000 in
theorem cSum (hv : vX S v) {x s : Int} (hx : rI x) (hs : rI s) : zEv X 12 mX9_sum [zR 0, zI x, zI s] (cX S ++ t) (zTq S t (pSum v x s)) := by
  unfold pSum
  by_cases c1 : 0 ≤ x ∧ x < 2 ^ (v.1 1).toNat
  · rw [if_pos c1]
    by_cases c2 : ¬ vWh v x (v.1 1) = 0
    · rw [if_pos c2]
      refine zEv_run gX9_sum 120 [] rfl ?_
      refine zCl_e (nsg_t hv hx c1 c2) (by decide) ?_
      refine zCl_t (osum hv (set32 hv.1 c1) hs) (by decide) ?_
      intro R f1 hv1
      exact ⟨rfl, R, rfl, sG_f f1, hv1⟩
    · rw [if_neg c2]
      refine zEv_run gX9_sum 120 [] rfl ?_
      refine zCl_e (nsg_g hv hx c1 (Decidable.not_not.mp c2)) (by decide) ?_
      exact ⟨rfl, S, rfl, sG_r S, hv⟩
  · rw [if_neg c1]
    refine zEv_run gX9_sum 120 [] rfl ?_
    refine zCl_e (nsg_f hv hx c1) (by decide) ?_
    exact ⟨rfl, S, rfl, sG_r S, hv⟩
def pLeast (v : vV) (x s : Int) : (Int ⊕ Nat) × vV := if 0 ≤ x ∧ x < 2 ^ (v.1 1).toNat then (if ¬ vWh v x (v.1 1) = 0 then ((.inl (vGe (vSm v x (v.1 1)) (max s 0)), v)) else (.inr 2, v)) else (.inr 0, v)
set_option maxHeartbeats 1000000 in
set_option maxRecDepth 100000 in
theorem cLeast (hv : vX S v) {x s : Int} (hx : rI x) (hs : rI s) : zEv X 12 mX9_least [zR 0, zI x, zI s] (cX S ++ t) (zTq S t (pLeast v x s)) := by
  unfold pLeast
  by_cases c1 : 0 ≤ x ∧ x < 2 ^ (v.1 1).toNat
  · rw [if_pos c1]
    by_cases c2 : ¬ vWh v x (v.1 1) = 0
    · rw [if_pos c2]
      refine zEv_run gX9_least 120 [] rfl ?_
      refine zCl_e (nsg_t hv hx c1 c2) (by decide) ?_
      refine zCl_t (oge hv (set32 hv.1 c1) hs) (by decide) ?_
      intro R f1 hv1
      exact ⟨rfl, R, rfl, sG_f f1, hv1⟩
    · rw [if_neg c2]
      refine zEv_run gX9_least 120 [] rfl ?_
      refine zCl_e (nsg_g hv hx c1 (Decidable.not_not.mp c2)) (by decide) ?_
      exact ⟨rfl, S, rfl, sG_r S, hv⟩
  · rw [if_neg c1]
    refine zEv_run gX9_least 120 [] rfl ?_
    refine zCl_e (nsg_f hv hx c1) (by decide) ?_
    exact ⟨rfl, S, rfl, sG_r S, hv⟩
def pAlike (v : vV) (x : Int) : (Int ⊕ Nat) × vV := if 0 ≤ x ∧ x < 2 ^ (v.1 1).toNat then (if ¬ vWh v x (v.1 1) = 0 then ((.inl (vOf v x), v)) else (.inr 2, v)) else (.inr 0, v)
set_option maxHeartbeats 1000000 in
set_option maxRecDepth 100000 in
theorem cAlike (hv : vX S v) {x : Int} (hx : rI x) : zEv X 12 mX9_alike [zR 0, zI x] (cX S ++ t) (zTq S t (pAlike v x)) := by
  unfold pAlike
  by_cases c1 : 0 ≤ x ∧ x < 2 ^ (v.1 1).toNat
  · rw [if_pos c1]
    by_cases c2 : ¬ vWh v x (v.1 1) = 0
    · rw [if_pos c2]
      refine zEv_run gX9_alike 120 [] rfl ?_
      refine zCl_e (nsg_t hv hx c1 c2) (by decide) ?_
      refine zCl_e (oof hv (set32 hv.1 c1)) (by decide) ?_
      exact ⟨rfl, S, rfl, sG_r S, hv⟩
    · rw [if_neg c2]
      refine zEv_run gX9_alike 120 [] rfl ?_
      refine zCl_e (nsg_g hv hx c1 (Decidable.not_not.mp c2)) (by decide) ?_
      exact ⟨rfl, S, rfl, sG_r S, hv⟩
  · rw [if_neg c1]
    refine zEv_run gX9_alike 120 [] rfl ?_
    refine zCl_e (nsg_f hv hx c1) (by decide) ?_
    exact ⟨rfl, S, rfl, sG_r S, hv⟩
def pMode (v : vV) (x : Int) : (Int ⊕ Nat) × vV := if 0 ≤ x ∧ x < 2 ^ (v.1 1).toNat then (if ¬ vWh v x (v.1 1) = 0 then ((.inl (vMo (vSm v x (v.1 1)) 30), v)) else (.inr 2, v)) else (.inr 0, v)
set_option maxHeartbeats 1000000 in
set_option maxRecDepth 100000 in
theorem cMode (hv : vX S v) {x : Int} (hx : rI x) : zEv X 12 mX9_mode [zR 0, zI x] (cX S ++ t) (zTp S t (pMode v x)) := by
  unfold pMode
  by_cases c1 : 0 ≤ x ∧ x < 2 ^ (v.1 1).toNat
  · rw [if_pos c1]
    by_cases c2 : ¬ vWh v x (v.1 1) = 0
    · rw [if_pos c2]
      refine zEv_run gX9_mode 120 [] rfl ?_
      refine zCl_e (nsg_t hv hx c1 c2) (by decide) ?_
      refine zCl_t (omo hv (set32 hv.1 c1)) (by decide) ?_
      intro R f1 hv1
      exact ⟨rfl, R, rfl, sG_f f1, hv1⟩
    · rw [if_neg c2]
      refine zEv_run gX9_mode 120 [] rfl ?_
      refine zCl_e (nsg_g hv hx c1 (Decidable.not_not.mp c2)) (by decide) ?_
      exact ⟨rfl, S, rfl, sG_r S, hv⟩
  · rw [if_neg c1]
    refine zEv_run gX9_mode 120 [] rfl ?_
    refine zCl_e (nsg_f hv hx c1) (by decide) ?_
    exact ⟨rfl, S, rfl, sG_r S, hv⟩
def pSums (v : vV) (x : Int) : (Int ⊕ Nat) × vV := if 0 ≤ x ∧ x < 2 ^ (v.1 1).toNat then (if ¬ vWh v x (v.1 1) = 0 then ((.inl (vPo (vSm v x (v.1 1)) 31), v)) else (.inr 2, v)) else (.inr 0, v)
set_option maxHeartbeats 1000000 in
set_option maxRecDepth 100000 in
theorem cSums (hv : vX S v) {x : Int} (hx : rI x) : zEv X 12 mX9_sums [zR 0, zI x] (cX S ++ t) (zTp S t (pSums v x)) := by
  unfold pSums
  by_cases c1 : 0 ≤ x ∧ x < 2 ^ (v.1 1).toNat
  · rw [if_pos c1]
    by_cases c2 : ¬ vWh v x (v.1 1) = 0
    · rw [if_pos c2]
      refine zEv_run gX9_sums 120 [] rfl ?_
      refine zCl_e (nsg_t hv hx c1 c2) (by decide) ?_
      refine zCl_t (opo hv (set32 hv.1 c1)) (by decide) ?_
      intro R f1 hv1
      exact ⟨rfl, R, rfl, sG_f f1, hv1⟩
    · rw [if_neg c2]
      refine zEv_run gX9_sums 120 [] rfl ?_
      refine zCl_e (nsg_g hv hx c1 (Decidable.not_not.mp c2)) (by decide) ?_
      exact ⟨rfl, S, rfl, sG_r S, hv⟩
  · rw [if_neg c1]
    refine zEv_run gX9_sums 120 [] rfl ?_
    refine zCl_e (nsg_f hv hx c1) (by decide) ?_
    exact ⟨rfl, S, rfl, sG_r S, hv⟩
def pUnlike (v : vV) (x : Int) : (Int ⊕ Nat) × vV := if 0 ≤ x ∧ x < 2 ^ (v.1 1).toNat then (if ¬ vWh v x (v.1 1) = 0 then ((.inl (vUl (vFc v x (v.1 1)) 0 64), v)) else (.inr 2, v)) else (.inr 0, v)
set_option maxHeartbeats 1000000 in
set_option maxRecDepth 100000 in
theorem cUnlike (hv : vX S v) {x : Int} (hx : rI x) : zEv X 12 mX9_unlike [zR 0, zI x] (cX S ++ t) (zTq S t (pUnlike v x)) := by
  unfold pUnlike
  by_cases c1 : 0 ≤ x ∧ x < 2 ^ (v.1 1).toNat
  · rw [if_pos c1]
    by_cases c2 : ¬ vWh v x (v.1 1) = 0
    · rw [if_pos c2]
      refine zEv_run gX9_unlike 120 [] rfl ?_
      refine zCl_e (nsg_t hv hx c1 c2) (by decide) ?_
      refine zCl_t (oul hv (set32 hv.1 c1) (Or.inl rfl)) (by decide) ?_
      intro R f1 hv1
      exact ⟨rfl, R, rfl, sG_f f1, hv1⟩
    · rw [if_neg c2]
      refine zEv_run gX9_unlike 120 [] rfl ?_
      refine zCl_e (nsg_g hv hx c1 (Decidable.not_not.mp c2)) (by decide) ?_
      exact ⟨rfl, S, rfl, sG_r S, hv⟩
  · rw [if_neg c1]
    refine zEv_run gX9_unlike 120 [] rfl ?_
    refine zCl_e (nsg_f hv hx c1) (by decide) ?_
    exact ⟨rfl, S, rfl, sG_r S, hv⟩
def pRun (v : vV) (x : Int) : (Int ⊕ Nat) × vV := if 0 ≤ x ∧ x < 2 ^ (v.1 1).toNat then (if ¬ vWh v x (v.1 1) = 0 then ((.inl (vUl (vFc v x (v.1 1)) 1 64), v)) else (.inr 2, v)) else (.inr 0, v)
set_option maxHeartbeats 1000000 in
set_option maxRecDepth 100000 in
theorem cRun (hv : vX S v) {x : Int} (hx : rI x) : zEv X 12 mX9_run [zR 0, zI x] (cX S ++ t) (zTq S t (pRun v x)) := by
  unfold pRun
  by_cases c1 : 0 ≤ x ∧ x < 2 ^ (v.1 1).toNat
  · rw [if_pos c1]
    by_cases c2 : ¬ vWh v x (v.1 1) = 0
    · rw [if_pos c2]
      refine zEv_run gX9_run 120 [] rfl ?_
      refine zCl_e (nsg_t hv hx c1 c2) (by decide) ?_
      refine zCl_t (oul hv (set32 hv.1 c1) (Or.inr rfl)) (by decide) ?_
      intro R f1 hv1
      exact ⟨rfl, R, rfl, sG_f f1, hv1⟩
    · rw [if_neg c2]
      refine zEv_run gX9_run 120 [] rfl ?_
      refine zCl_e (nsg_g hv hx c1 (Decidable.not_not.mp c2)) (by decide) ?_
      exact ⟨rfl, S, rfl, sG_r S, hv⟩
  · rw [if_neg c1]
    refine zEv_run gX9_run 120 [] rfl ?_
    refine zCl_e (nsg_f hv hx c1) (by decide) ?_
    exact ⟨rfl, S, rfl, sG_r S, hv⟩
def pMean (v : vV) (x w : Int) : (Int ⊕ Nat) × vV := if 0 ≤ x ∧ x < 2 ^ (v.1 1).toNat then (if 0 ≤ w ∧ w ≤ 1 then (if ¬ vWh v x (v.1 1) = 0 then ((.inl (if w = 0 then vAw (vSm v x (v.1 1)) 31 / vWh v x (v.1 1) else vAw (vSm v x (v.1 1)) 31 % vWh v x (v.1 1)), v)) else (.inr 2, v)) else (.inr 0, v)) else (.inr 0, v)
set_option maxHeartbeats 1000000 in
set_option maxRecDepth 100000 in
theorem cMean (hv : vX S v) {x w : Int} (hx : rI x) (hw : rI w) : zEv X 12 mX9_mean [zR 0, zI x, zI w] (cX S ++ t) (zTq S t (pMean v x w)) := by
  unfold pMean
  by_cases c1 : 0 ≤ x ∧ x < 2 ^ (v.1 1).toNat
  · rw [if_pos c1]
    by_cases c2 : 0 ≤ w ∧ w ≤ 1
    · rw [if_pos c2]
      by_cases c3 : ¬ vWh v x (v.1 1) = 0
      · rw [if_pos c3]
        refine zEv_run gX9_mean 120 [] rfl ?_
        refine zCl_e (ns_t hv hx c1) (by decide) ?_
        refine zCl_e (nw_t hv hw (by simp only [rI]; omega) (by simp only [rI]; omega) c2) (by decide) ?_
        refine zCl_e (nn_t hv (set32 hv.1 c1) c3) (by decide) ?_
        have hb := vWh_5 hv.1 x
        have ha := vAw_b (r := vSm v x (v.1 1)) (B := 24883200000) (by omega) (fun s => vSm_5 hv.1 x s) (i := 31) (by omega) (by omega)
        refine zCl_e (owh hv (set32 hv.1 c1)) (by decide) ?_
        refine zBrT (by simp only [rL]; omega) (by omega) ?_
        refine zCl_t (oaw hv (set32 hv.1 c1)) (by decide) ?_
        intro R f1 hv1
        refine zBr hw (fun c => ?_) (fun c => ?_)
        · refine mVc_i (by simp only [rL]; omega) ?_
          rw [if_pos c]
          exact ⟨rfl, R, rfl, sG_f f1, hv1⟩
        · refine mVc_i (by simp only [rL]; omega) ?_
          rw [if_neg c]
          exact ⟨rfl, R, rfl, sG_f f1, hv1⟩
      · rw [if_neg c3]
        refine zEv_run gX9_mean 120 [] rfl ?_
        refine zCl_e (ns_t hv hx c1) (by decide) ?_
        refine zCl_e (nw_t hv hw (by simp only [rI]; omega) (by simp only [rI]; omega) c2) (by decide) ?_
        refine zCl_e (nn_f hv (set32 hv.1 c1) c3) (by decide) ?_
        exact ⟨rfl, S, rfl, sG_r S, hv⟩
    · rw [if_neg c2]
      refine zEv_run gX9_mean 120 [] rfl ?_
      refine zCl_e (ns_t hv hx c1) (by decide) ?_
      refine zCl_e (nw_f hv hw (by simp only [rI]; omega) (by simp only [rI]; omega) c2) (by decide) ?_
      exact ⟨rfl, S, rfl, sG_r S, hv⟩
  · rw [if_neg c1]
    refine zEv_run gX9_mean 120 [] rfl ?_
    refine zCl_e (ns_f hv hx c1) (by decide) ?_
    exact ⟨rfl, S, rfl, sG_r S, hv⟩
def pBestSet (v : vV) (n s : Int) : (Int ⊕ Nat) × vV := if 1 ≤ n ∧ n ≤ 3 then ((.inl ((vBs v n s (2 ^ (v.1 1).toNat - 1)).1), v)) else (.inr 0, v)
set_option maxHeartbeats 1000000 in
set_option maxRecDepth 100000 in
theorem cBestSet (hv : vX S v) {n s : Int} (hn : rI n) (hs : rI s) : zEv X 12 mX9_bestSet [zR 0, zI n, zI s] (cX S ++ t) (zTp S t (pBestSet v n s)) := by
  unfold pBestSet
  by_cases c1 : 1 ≤ n ∧ n ≤ 3
  · rw [if_pos c1]
    refine zEv_run gX9_bestSet 120 [] rfl ?_
    refine zCl_e (n3_t hv hn c1) (by decide) ?_
    refine zCl_t (obs hv c1 hs) (by decide) ?_
    intro R f1 hv1
    exact ⟨rfl, R, rfl, sG_f f1, hv1⟩
  · rw [if_neg c1]
    refine zEv_run gX9_bestSet 120 [] rfl ?_
    refine zCl_e (n3_f hv hn c1) (by decide) ?_
    exact ⟨rfl, S, rfl, sG_r S, hv⟩
def pCannot (v : vV) (f : Int) : (Int ⊕ Nat) × vV := if 1 ≤ f ∧ f ≤ 6 then ((.inl (vCn v f (v.1 1)), v)) else (.inr 0, v)
set_option maxHeartbeats 1000000 in
set_option maxRecDepth 100000 in
theorem cCannot (hv : vX S v) {f : Int} (hf : rI f) : zEv X 12 mX9_cannot [zR 0, zI f] (cX S ++ t) (zTp S t (pCannot v f)) := by
  unfold pCannot
  have h4 := hv.1.2.2.2.2.1
  have e4 : S.1 16 = v.1 4 := hv.2.2.2.2.2.1
  have h1 := hv.1.2.1
  have e1 : S.1 13 = v.1 1 := hv.2.2.1
  have h2 := hv.1.2.2.1
  have e2 : S.1 14 = v.1 2 := hv.2.2.2.1
  by_cases c0 : 1 ≤ f ∧ f ≤ 6
  rotate_left
  · rw [if_neg c0]
    refine zEv_run gX9_cannot 80 [9] rfl ?_
    refine zCl_e (nf_f hv hf c0) (by decide) ?_
    exact ⟨rfl, S, rfl, sG_r S, hv⟩
  have lp : ∀ (k : Nat) (i : Int), 0 ≤ i → i + k = v.1 1 → zWP X mX9_cannot 12 (zTp S t (.inl (vCn v f (v.1 1)), v)) 9 [some (zR 0), some (zI f), some (zI (vCn v f i)), some (zI i)] [] (cX S ++ t) 0 0 := by
    intro k
    induction k with
    | zero =>
      intro i i0 hk
      refine zWP_run gX9_cannot 80 [9] ?_
      refine zBrT (by simp only [rI]; omega) (by omega) ?_
      rw [← show i = v.1 1 by omega]
      exact ⟨rfl, S, rfl, sG_r S, hv⟩
    | succ k ih =>
      intro i i0 hk
      refine zWP_run gX9_cannot 80 [9] ?_
      refine zBrF (by simp only [rI]; omega) (by omega) ?_
      have hw := gbd hv i f
      have hb := vAl_b (fun j => if v.2.1.1 (j - 1) f = 0 then 1 else 0) i0
      have hb2 : 0 ≤ vCn v f i ∧ vCn v f i < 2 ^ i.toNat := hb
      have hp := pw_pos i0 (k := i) (by omega)
      have k3 := ih (i + 1) (by omega) (by omega)
      rw [vCn_s v f i0] at k3
      refine zCl_e (gw hv i0 (by omega) c0.1 c0.2) (by decide) ?_
      refine zBr (by simp only [rI]; omega) (fun c => ?_) (fun c => ?_)
      · rw [if_pos c] at k3
        have es : (Int32.ofInt 1 <<< (Int32.ofInt i &&& 31)).toInt = 2 ^ i.toNat := bt_shl i0 (by omega)
        have eo := bt_or hb2.1 (k := i) (by omega) i0 (by omega)
        rw [if_neg (by rw [Int.ediv_eq_zero_of_lt hb2.1 hb2.2]; decide)] at eo
        rw [← eo, ← es] at k3
        exact k3
      · rw [if_neg c, Int.add_zero] at k3
        exact k3
  by_cases c1 : 1 ≤ f ∧ f ≤ 6
  · rw [if_pos c1]
    refine zEv_run gX9_cannot 120 [9] rfl ?_
    refine zCl_e (nf_t hv c1) (by decide) ?_
    exact lp (v.1 1).toNat 0 (by omega) (by omega)
  · rw [if_neg c1]
    refine zEv_run gX9_cannot 120 [9] rfl ?_
    refine zCl_e (nf_f hv hf c1) (by decide) ?_
    exact ⟨rfl, S, rfl, sG_r S, hv⟩
def pOnce (v : vV) (d f n : Int) : (Int ⊕ Nat) × vV := if 0 ≤ d ∧ d < v.1 1 then (if 1 ≤ f ∧ f ≤ 6 then (if 1 ≤ n ∧ n ≤ 8 then (if ¬ vTot v.2.1 d = 0 then ((.inl (vTot v.2.1 d ^ n.toNat - (vTot v.2.1 d - v.2.1.1 d f) ^ n.toNat), v)) else (.inr 2, v)) else (.inr 0, v)) else (.inr 0, v)) else (.inr 1, v)
set_option maxHeartbeats 1000000 in
set_option maxRecDepth 100000 in
theorem cOnce (hv : vX S v) {d f n : Int} (hd : rI d) (hf : rI f) (hn : rI n) : zEv X 12 mX9_once [zR 0, zI d, zI f, zI n] (cX S ++ t) (zTq S t (pOnce v d f n)) := by
  unfold pOnce
  by_cases c1 : 0 ≤ d ∧ d < v.1 1
  · rw [if_pos c1]
    by_cases c2 : 1 ≤ f ∧ f ≤ 6
    · rw [if_pos c2]
      by_cases c3 : 1 ≤ n ∧ n ≤ 8
      · rw [if_pos c3]
        by_cases c4 : ¬ vTot v.2.1 d = 0
        · rw [if_pos c4]
          refine zEv_run gX9_once 120 [] rfl ?_
          refine zCl_e (nd_t hv c1) (by decide) ?_
          refine zCl_e (nf_t hv c2) (by decide) ?_
          refine zCl_e (n8_t hv hn (by simp only [rI]; omega) c3) (by decide) ?_
          refine zCl_e (ng_t hv c1 c4) (by decide) ?_
          have hb := gtb hv d
          have hw := gbd hv d f
          refine zCl_e (gtot hv c1.1 c1.2) (by decide) ?_
          refine mVc_i (by simp only [rI]; omega) ?_
          refine zCl_e (pow9 (by omega)) (by decide) ?_
          refine zCl_e (gw hv c1.1 c1.2 c2.1 c2.2) (by decide) ?_
          refine mVc_i (by simp only [rI]; omega) ?_
          refine zCl_e (pow9 (by omega)) (by decide) ?_
          exact ⟨rfl, S, rfl, sG_r S, hv⟩
        · rw [if_neg c4]
          refine zEv_run gX9_once 120 [] rfl ?_
          refine zCl_e (nd_t hv c1) (by decide) ?_
          refine zCl_e (nf_t hv c2) (by decide) ?_
          refine zCl_e (n8_t hv hn (by simp only [rI]; omega) c3) (by decide) ?_
          refine zCl_e (ng_f hv c1 c4) (by decide) ?_
          exact ⟨rfl, S, rfl, sG_r S, hv⟩
      · rw [if_neg c3]
        refine zEv_run gX9_once 120 [] rfl ?_
        refine zCl_e (nd_t hv c1) (by decide) ?_
        refine zCl_e (nf_t hv c2) (by decide) ?_
        refine zCl_e (n8_f hv hn (by simp only [rI]; omega) c3) (by decide) ?_
        exact ⟨rfl, S, rfl, sG_r S, hv⟩
    · rw [if_neg c2]
      refine zEv_run gX9_once 120 [] rfl ?_
      refine zCl_e (nd_t hv c1) (by decide) ?_
      refine zCl_e (nf_f hv hf c2) (by decide) ?_
      exact ⟨rfl, S, rfl, sG_r S, hv⟩
  · rw [if_neg c1]
    refine zEv_run gX9_once 120 [] rfl ?_
    refine zCl_e (nd_f hv hd c1) (by decide) ?_
    exact ⟨rfl, S, rfl, sG_r S, hv⟩
def pAllFaces (v : vV) (d n : Int) : (Int ⊕ Nat) × vV := if 0 ≤ d ∧ d < v.1 1 then (if 1 ≤ n ∧ n ≤ 8 then (if ¬ vTot v.2.1 d = 0 then ((.inl (vEv (v.2.1.1 d) n (vAl (v.2.1.1 d) 6)), v)) else (.inr 2, v)) else (.inr 0, v)) else (.inr 1, v)
set_option maxHeartbeats 1000000 in
set_option maxRecDepth 100000 in
theorem cAllFaces (hv : vX S v) {d n : Int} (hd : rI d) (hn : rI n) : zEv X 12 mX9_allFaces [zR 0, zI d, zI n] (cX S ++ t) (zTq S t (pAllFaces v d n)) := by
  unfold pAllFaces
  by_cases c1 : 0 ≤ d ∧ d < v.1 1
  · rw [if_pos c1]
    by_cases c2 : 1 ≤ n ∧ n ≤ 8
    · rw [if_pos c2]
      by_cases c3 : ¬ vTot v.2.1 d = 0
      · rw [if_pos c3]
        refine zEv_run gX9_allFaces 120 [] rfl ?_
        refine zCl_e (nd_t hv c1) (by decide) ?_
        refine zCl_e (n8_t hv hn (by simp only [rI]; omega) c2) (by decide) ?_
        refine zCl_e (ng_t hv c1 c3) (by decide) ?_
        refine zCl_t (oev hv c1 (by omega)) (by decide) ?_
        intro R f1 hv1
        exact ⟨rfl, R, rfl, sG_f f1, hv1⟩
      · rw [if_neg c3]
        refine zEv_run gX9_allFaces 120 [] rfl ?_
        refine zCl_e (nd_t hv c1) (by decide) ?_
        refine zCl_e (n8_t hv hn (by simp only [rI]; omega) c2) (by decide) ?_
        refine zCl_e (ng_f hv c1 c3) (by decide) ?_
        exact ⟨rfl, S, rfl, sG_r S, hv⟩
    · rw [if_neg c2]
      refine zEv_run gX9_allFaces 120 [] rfl ?_
      refine zCl_e (nd_t hv c1) (by decide) ?_
      refine zCl_e (n8_f hv hn (by simp only [rI]; omega) c2) (by decide) ?_
      exact ⟨rfl, S, rfl, sG_r S, hv⟩
  · rw [if_neg c1]
    refine zEv_run gX9_allFaces 120 [] rfl ?_
    refine zCl_e (nd_f hv hd c1) (by decide) ?_
    exact ⟨rfl, S, rfl, sG_r S, hv⟩
set_option maxHeartbeats 1000000 in
set_option maxRecDepth 100000 in
theorem cgoal {w tt gl : Int} (hw : 0 ≤ w ∧ w ≤ 120) (ht : 0 ≤ tt ∧ tt ≤ 120) (hg : 1 ≤ gl ∧ gl ≤ 10) : ∀ (k : Nat) (c : Int), k ≤ 8 → 0 ≤ c ∧ c ≤ 20 - k → zEv X (2 + k) mX9_waysToGoal [zI w, zI tt, zI c, zI gl, zI k] (cX S ++ t) (zIs (.inl (some (zJ (vCg w tt gl k c)))) (cX S ++ t)) := by
  intro k
  induction k with
  | zero =>
    intro c _ hc
    refine zEv_run gX9_waysToGoal 60 [] rfl ?_
    simp only [vCg]
    refine zBr (by simp only [rI]; omega) (fun q => ?_) (fun q => ?_)
    · rw [if_neg (by omega)]
      refine zBr (by simp only [rI]; omega) (fun q2 => ?_) (fun q2 => ?_)
      · exact ⟨rfl, rfl⟩
      · refine zBrF (by simp only [rI]; omega) (by omega) ?_
        exact ⟨rfl, rfl⟩
    · rw [if_pos (by omega)]
      refine mVc_i (by simp only [rI]; omega) ?_
      refine zCl_e (pow9 (by omega)) (by decide) ?_
      exact ⟨by simp, rfl⟩
  | succ k ih =>
    intro c hk hc
    have ek : ((k + 1 : Nat) : Int) - 1 = (k : Int) := by omega
    refine zEv_run gX9_waysToGoal 60 [] rfl ?_
    simp only [vCg]
    refine zBr (by simp only [rI]; omega) (fun q => ?_) (fun q => ?_)
    · rw [if_neg (by omega)]
      refine zBr (by simp only [rI]; omega) (fun q2 => ?_) (fun q2 => ?_)
      · rw [if_pos (by omega)]
        exact ⟨rfl, rfl⟩
      · rw [if_neg (by omega)]
        refine zBrT (by simp only [rI]; omega) (by omega) ?_
        refine mVc_i (by simp only [rI]; omega) ?_
        have i1 := ih (c + 1) (by omega) (by omega)
        have i2 := ih (c - 1) (by omega) (by omega)
        rw [← ek] at i1 i2
        refine zCl_e i1 (by omega) ?_
        refine mVc_i (by simp only [rI]; omega) ?_
        refine zCl_e i2 (by omega) ?_
        exact ⟨rfl, rfl⟩
    · rw [if_pos (by omega)]
      refine mVc_i (by simp only [rI]; omega) ?_
      refine zCl_e (pow9 (by omega)) (by omega) ?_
      exact ⟨rfl, rfl⟩
def pCoins (v : vV) (d c e n : Int) : (Int ⊕ Nat) × vV := if 0 ≤ d ∧ d < v.1 1 then (if (1 ≤ c ∧ c ≤ 9) ∧ c < e ∧ e ≤ 10 then (if 0 ≤ n ∧ n ≤ 8 then (if ¬ vTot v.2.1 d = 0 then ((.inl (vCg (v.2.1.1 d 4 + v.2.1.1 d 5 + v.2.1.1 d 6) (vTot v.2.1 d) e n.toNat c), v)) else (.inr 2, v)) else (.inr 0, v)) else (.inr 0, v)) else (.inr 1, v)
set_option maxHeartbeats 1000000 in
set_option maxRecDepth 100000 in
theorem cCoins (hv : vX S v) {d c e n : Int} (hd : rI d) (hc : rI c) (he : rI e) (hn : rI n) : zEv X 12 mX9_coins [zR 0, zI d, zI c, zI e, zI n] (cX S ++ t) (zTq S t (pCoins v d c e n)) := by
  unfold pCoins
  by_cases c1 : 0 ≤ d ∧ d < v.1 1
  · rw [if_pos c1]
    by_cases c2 : (1 ≤ c ∧ c ≤ 9) ∧ c < e ∧ e ≤ 10
    · rw [if_pos c2]
      by_cases c3 : 0 ≤ n ∧ n ≤ 8
      · rw [if_pos c3]
        by_cases c4 : ¬ vTot v.2.1 d = 0
        · rw [if_pos c4]
          refine zEv_run gX9_coins 120 [] rfl ?_
          refine zCl_e (nd_t hv c1) (by decide) ?_
          refine zBrF (by simp only [rI]; omega) (by omega) ?_
          refine zBrF (by simp only [rI]; omega) (by omega) ?_
          refine zBrF (by simp only [rI]; omega) (by omega) ?_
          refine zBrT (by simp only [rI]; omega) (by omega) ?_
          refine zCl_e (n8_t hv hn (by simp only [rI]; omega) c3) (by decide) ?_
          refine zCl_e (ng_t hv c1 c4) (by decide) ?_
          have hb := gtb hv d
          have w1 := gbd hv d 1
          have w2 := gbd hv d 2
          have w3 := gbd hv d 3
          have w4 := gbd hv d 4
          have w5 := gbd hv d 5
          have w6 := gbd hv d 6
          refine zCl_e (gw hv c1.1 c1.2 (by omega) (by omega)) (by decide) ?_
          refine zCl_e (gw hv c1.1 c1.2 (by omega) (by omega)) (by decide) ?_
          refine zCl_e (gw hv c1.1 c1.2 (by omega) (by omega)) (by decide) ?_
          refine zCl_e (gtot hv c1.1 c1.2) (by decide) ?_
          have kk := cgoal (X := X) (S := S) (t := t) (w := v.2.1.1 d 4 + v.2.1.1 d 5 + v.2.1.1 d 6) (tt := vTot v.2.1 d) (gl := e) (by omega) hb (by omega) n.toNat c (by omega) (by omega)
          rw [show ((n.toNat : Nat) : Int) = n by omega] at kk
          refine zCl_e kk (by omega) ?_
          exact ⟨rfl, S, rfl, sG_r S, hv⟩
        · rw [if_neg c4]
          refine zEv_run gX9_coins 120 [] rfl ?_
          refine zCl_e (nd_t hv c1) (by decide) ?_
          refine zBrF (by simp only [rI]; omega) (by omega) ?_
          refine zBrF (by simp only [rI]; omega) (by omega) ?_
          refine zBrF (by simp only [rI]; omega) (by omega) ?_
          refine zBrT (by simp only [rI]; omega) (by omega) ?_
          refine zCl_e (n8_t hv hn (by simp only [rI]; omega) c3) (by decide) ?_
          refine zCl_e (ng_f hv c1 c4) (by decide) ?_
          exact ⟨rfl, S, rfl, sG_r S, hv⟩
      · rw [if_neg c3]
        refine zEv_run gX9_coins 120 [] rfl ?_
        refine zCl_e (nd_t hv c1) (by decide) ?_
        refine zBrF (by simp only [rI]; omega) (by omega) ?_
        refine zBrF (by simp only [rI]; omega) (by omega) ?_
        refine zBrF (by simp only [rI]; omega) (by omega) ?_
        refine zBrT (by simp only [rI]; omega) (by omega) ?_
        refine zCl_e (n8_f hv hn (by simp only [rI]; omega) c3) (by decide) ?_
        exact ⟨rfl, S, rfl, sG_r S, hv⟩
    · rw [if_neg c2]
      refine zEv_run gX9_coins 120 [] rfl ?_
      refine zCl_e (nd_t hv c1) (by decide) ?_
      by_cases k1 : c < 1
      · refine zBrT ⟨hc, by simp only [rI]; omega⟩ k1 ?_
        exact ⟨rfl, S, rfl, sG_r S, hv⟩
      refine zBrF ⟨hc, by simp only [rI]; omega⟩ k1 ?_
      by_cases k2 : 9 < c
      · refine zBrT ⟨hc, by simp only [rI]; omega⟩ k2 ?_
        exact ⟨rfl, S, rfl, sG_r S, hv⟩
      refine zBrF ⟨hc, by simp only [rI]; omega⟩ k2 ?_
      by_cases k3 : e ≤ c
      · refine zBrT ⟨he, hc⟩ k3 ?_
        exact ⟨rfl, S, rfl, sG_r S, hv⟩
      refine zBrF ⟨he, hc⟩ k3 ?_
      refine zBrF ⟨he, by simp only [rI]; omega⟩ (by omega) ?_
      exact ⟨rfl, S, rfl, sG_r S, hv⟩
  · rw [if_neg c1]
    refine zEv_run gX9_coins 120 [] rfl ?_
    refine zCl_e (nd_f hv hd c1) (by decide) ?_
    exact ⟨rfl, S, rfl, sG_r S, hv⟩
def pBeats (v : vV) (a b : Int) : (Int ⊕ Nat) × vV := if (0 ≤ a ∧ a < v.1 1) ∧ 0 ≤ b ∧ b < v.1 1 then (if ¬ (vTot v.2.1 a = 0 ∨ vTot v.2.1 b = 0) then ((.inl (vBt v.2.1 a b), v)) else (.inr 2, v)) else (.inr 1, v)
set_option maxHeartbeats 1000000 in
set_option maxRecDepth 100000 in
theorem cBeats (hv : vX S v) {a b : Int} (ha : rI a) (hb : rI b) : zEv X 12 mX9_beats [zR 0, zI a, zI b] (cX S ++ t) (zTp S t (pBeats v a b)) := by
  unfold pBeats
  by_cases c1 : (0 ≤ a ∧ a < v.1 1) ∧ 0 ≤ b ∧ b < v.1 1
  · rw [if_pos c1]
    by_cases c2 : ¬ (vTot v.2.1 a = 0 ∨ vTot v.2.1 b = 0)
    · rw [if_pos c2]
      refine zEv_run gX9_beats 120 [] rfl ?_
      refine zCl_e (n2_t hv c1.1 c1.2 (fun q => c2 (Or.inl q)) (fun q => c2 (Or.inr q))) (by decide) ?_
      refine zCl_e (bbt hv c1.1 c1.2) (by decide) ?_
      exact ⟨rfl, S, rfl, sG_r S, hv⟩
    · rw [if_neg c2]
      refine zEv_run gX9_beats 120 [] rfl ?_
      refine zCl_e (n2_g hv c1.1 c1.2 (Decidable.not_not.mp c2)) (by decide) ?_
      exact ⟨rfl, S, rfl, sG_r S, hv⟩
  · rw [if_neg c1]
    refine zEv_run gX9_beats 120 [] rfl ?_
    refine zCl_e (n2_f hv ha hb c1) (by decide) ?_
    exact ⟨rfl, S, rfl, sG_r S, hv⟩
def pTies (v : vV) (a b : Int) : (Int ⊕ Nat) × vV := if (0 ≤ a ∧ a < v.1 1) ∧ 0 ≤ b ∧ b < v.1 1 then (if ¬ (vTot v.2.1 a = 0 ∨ vTot v.2.1 b = 0) then ((.inl (vTi v.2.1 a b), v)) else (.inr 2, v)) else (.inr 1, v)
set_option maxHeartbeats 1000000 in
set_option maxRecDepth 100000 in
theorem cTies (hv : vX S v) {a b : Int} (ha : rI a) (hb : rI b) : zEv X 12 mX9_ties [zR 0, zI a, zI b] (cX S ++ t) (zTp S t (pTies v a b)) := by
  unfold pTies
  by_cases c1 : (0 ≤ a ∧ a < v.1 1) ∧ 0 ≤ b ∧ b < v.1 1
  · rw [if_pos c1]
    by_cases c2 : ¬ (vTot v.2.1 a = 0 ∨ vTot v.2.1 b = 0)
    · rw [if_pos c2]
      refine zEv_run gX9_ties 120 [] rfl ?_
      refine zCl_e (n2_t hv c1.1 c1.2 (fun q => c2 (Or.inl q)) (fun q => c2 (Or.inr q))) (by decide) ?_
      refine zCl_e (bti hv c1.1 c1.2) (by decide) ?_
      exact ⟨rfl, S, rfl, sG_r S, hv⟩
    · rw [if_neg c2]
      refine zEv_run gX9_ties 120 [] rfl ?_
      refine zCl_e (n2_g hv c1.1 c1.2 (Decidable.not_not.mp c2)) (by decide) ?_
      exact ⟨rfl, S, rfl, sG_r S, hv⟩
  · rw [if_neg c1]
    refine zEv_run gX9_ties 120 [] rfl ?_
    refine zCl_e (n2_f hv ha hb c1) (by decide) ?_
    exact ⟨rfl, S, rfl, sG_r S, hv⟩
def pStrongest (v : vV) : (Int ⊕ Nat) × vV := (.inl ((vStg v).1), v)
set_option maxHeartbeats 1000000 in
set_option maxRecDepth 100000 in
theorem cStrongest (hv : vX S v) : zEv X 12 mX9_strongest [zR 0] (cX S ++ t) (zTp S t (pStrongest v)) := by
  unfold pStrongest
  refine zEv_run gX9_strongest 120 [] rfl ?_
  refine zCl_e (bstg hv) (by decide) ?_
  exact ⟨rfl, S, rfl, sG_r S, hv⟩
def pRing (v : vV) (y : Int) : (Int ⊕ Nat) × vV := (.inl (vC1 v y (v.1 1).toNat 0 0), v)
set_option maxHeartbeats 1000000 in
set_option maxRecDepth 100000 in
theorem cRing (hv : vX S v) {y : Int} (hy : rI y) : zEv X 12 mX9_ring [zR 0, zI y] (cX S ++ t) (zTp S t (pRing v y)) := by
  unfold pRing
  refine zEv_run gX9_ring 120 [] rfl ?_
  refine zCl_e (bring hv hy) (by decide) ?_
  exact ⟨rfl, S, rfl, sG_r S, hv⟩
set_option maxHeartbeats 1000000 in
set_option maxRecDepth 100000 in
theorem clead {w e l : Int} : ∀ (k : Nat) (a : Int), k ≤ 8 → -10 ≤ a - k ∧ a + k ≤ 10 → zEv X (1 + k) mX9_waysToLead [zJ w, zJ e, zJ l, zI a, zI k] (cX S ++ t) (zIs (.inl (some (zJ (vLe w e l k a)))) (cX S ++ t)) := by
  intro k
  induction k with
  | zero =>
    intro a _ ha
    refine zEv_run gX9_waysToLead 60 [] rfl ?_
    simp only [vLe]
    refine zBrF (by simp only [rI]; omega) (by omega) ?_
    refine zBr (by simp only [rI]; omega) (fun q => ?_) (fun q => ?_)
    · rw [if_neg (by omega)]
      exact ⟨rfl, rfl⟩
    · rw [if_pos (by omega)]
      exact ⟨rfl, rfl⟩
  | succ k ih =>
    intro a hk ha
    have ek : ((k + 1 : Nat) : Int) - 1 = (k : Int) := by omega
    refine zEv_run gX9_waysToLead 60 [] rfl ?_
    simp only [vLe]
    refine zBrT (by simp only [rI]; omega) (by omega) ?_
    have i1 := ih (a + 1) (by omega) (by omega)
    have i2 := ih a (by omega) (by omega)
    have i3 := ih (a - 1) (by omega) (by omega)
    rw [← ek] at i1 i2 i3
    refine zCl_e i1 (by omega) ?_
    refine zCl_e i2 (by omega) ?_
    refine zCl_e i3 (by omega) ?_
    exact ⟨rfl, rfl⟩
def pSeries (v : vV) (a b n : Int) : (Int ⊕ Nat) × vV := if (0 ≤ a ∧ a < v.1 1) ∧ 0 ≤ b ∧ b < v.1 1 then (if ¬ (vTot v.2.1 a = 0 ∨ vTot v.2.1 b = 0) then (if 1 ≤ n ∧ n ≤ 3 then ((.inl (vLe (vBt v.2.1 a b) (vTi v.2.1 a b) (vBt v.2.1 b a) n.toNat 0), v)) else (.inr 0, v)) else (.inr 2, v)) else (.inr 1, v)
set_option maxHeartbeats 1000000 in
set_option maxRecDepth 100000 in
theorem cSeries (hv : vX S v) {a b n : Int} (ha : rI a) (hb : rI b) (hn : rI n) : zEv X 12 mX9_series [zR 0, zI a, zI b, zI n] (cX S ++ t) (zTq S t (pSeries v a b n)) := by
  unfold pSeries
  by_cases c1 : (0 ≤ a ∧ a < v.1 1) ∧ 0 ≤ b ∧ b < v.1 1
  · rw [if_pos c1]
    by_cases c2 : ¬ (vTot v.2.1 a = 0 ∨ vTot v.2.1 b = 0)
    · rw [if_pos c2]
      by_cases c3 : 1 ≤ n ∧ n ≤ 3
      · rw [if_pos c3]
        refine zEv_run gX9_series 120 [] rfl ?_
        refine zCl_e (n2_t hv c1.1 c1.2 (fun q => c2 (Or.inl q)) (fun q => c2 (Or.inr q))) (by decide) ?_
        refine zCl_e (n3_t hv hn c3) (by decide) ?_
        have q1 := vBt_b hv.1.2.2.2.2.2.1 a b
        have q2 := vBt_b hv.1.2.2.2.2.2.1 b a
        have q3 := vTi_b hv.1.2.2.2.2.2.1 a b
        refine zCl_e (bbt hv c1.1 c1.2) (by decide) ?_
        refine mVc_i (by simp only [rI]; omega) ?_
        refine zCl_e (bti hv c1.1 c1.2) (by decide) ?_
        refine mVc_i (by simp only [rI]; omega) ?_
        refine zCl_e (bbt hv c1.2 c1.1) (by decide) ?_
        refine mVc_i (by simp only [rI]; omega) ?_
        have kk := clead (X := X) (S := S) (t := t) (w := vBt v.2.1 a b) (e := vTi v.2.1 a b) (l := vBt v.2.1 b a) n.toNat 0 (by omega) (by omega)
        rw [show ((n.toNat : Nat) : Int) = n by omega] at kk
        refine zCl_e kk (by omega) ?_
        exact ⟨rfl, S, rfl, sG_r S, hv⟩
      · rw [if_neg c3]
        refine zEv_run gX9_series 120 [] rfl ?_
        refine zCl_e (n2_t hv c1.1 c1.2 (fun q => c2 (Or.inl q)) (fun q => c2 (Or.inr q))) (by decide) ?_
        refine zCl_e (n3_f hv hn c3) (by decide) ?_
        exact ⟨rfl, S, rfl, sG_r S, hv⟩
    · rw [if_neg c2]
      refine zEv_run gX9_series 120 [] rfl ?_
      refine zCl_e (n2_g hv c1.1 c1.2 (Decidable.not_not.mp c2)) (by decide) ?_
      exact ⟨rfl, S, rfl, sG_r S, hv⟩
  · rw [if_neg c1]
    refine zEv_run gX9_series 120 [] rfl ?_
    refine zCl_e (n2_f hv ha hb c1) (by decide) ?_
    exact ⟨rfl, S, rfl, sG_r S, hv⟩
def pMore (v : vV) (a b n : Int) : (Int ⊕ Nat) × vV := if (0 ≤ a ∧ a < v.1 1) ∧ 0 ≤ b ∧ b < v.1 1 then (if ¬ (vTot v.2.1 a = 0 ∨ vTot v.2.1 b = 0) then (if 1 ≤ n ∧ n ≤ 3 then ((.inl ((vMw (vTw (v.2.1.1 a) n) (vTw (v.2.1.1 b) n) 31).1), v)) else (.inr 0, v)) else (.inr 2, v)) else (.inr 1, v)
set_option maxHeartbeats 1000000 in
set_option maxRecDepth 100000 in
theorem cMore (hv : vX S v) {a b n : Int} (ha : rI a) (hb : rI b) (hn : rI n) : zEv X 12 mX9_more [zR 0, zI a, zI b, zI n] (cX S ++ t) (zTq S t (pMore v a b n)) := by
  unfold pMore
  by_cases c1 : (0 ≤ a ∧ a < v.1 1) ∧ 0 ≤ b ∧ b < v.1 1
  · rw [if_pos c1]
    by_cases c2 : ¬ (vTot v.2.1 a = 0 ∨ vTot v.2.1 b = 0)
    · rw [if_pos c2]
      by_cases c3 : 1 ≤ n ∧ n ≤ 3
      · rw [if_pos c3]
        refine zEv_run gX9_more 120 [] rfl ?_
        refine zCl_e (n2_t hv c1.1 c1.2 (fun q => c2 (Or.inl q)) (fun q => c2 (Or.inr q))) (by decide) ?_
        refine zCl_e (n3_t hv hn c3) (by decide) ?_
        refine zCl_t (omw hv c1.1 c1.2 (by omega)) (by decide) ?_
        intro R f1 hv1
        exact ⟨rfl, R, rfl, sG_f f1, hv1⟩
      · rw [if_neg c3]
        refine zEv_run gX9_more 120 [] rfl ?_
        refine zCl_e (n2_t hv c1.1 c1.2 (fun q => c2 (Or.inl q)) (fun q => c2 (Or.inr q))) (by decide) ?_
        refine zCl_e (n3_f hv hn c3) (by decide) ?_
        exact ⟨rfl, S, rfl, sG_r S, hv⟩
    · rw [if_neg c2]
      refine zEv_run gX9_more 120 [] rfl ?_
      refine zCl_e (n2_g hv c1.1 c1.2 (Decidable.not_not.mp c2)) (by decide) ?_
      exact ⟨rfl, S, rfl, sG_r S, hv⟩
  · rw [if_neg c1]
    refine zEv_run gX9_more 120 [] rfl ?_
    refine zCl_e (n2_f hv ha hb c1) (by decide) ?_
    exact ⟨rfl, S, rfl, sG_r S, hv⟩
def pEvenest (v : vV) : (Int ⊕ Nat) × vV := (.inl ((vE0 v (v.1 1).toNat 0 (-1, 0, 1)).1), v)
set_option maxHeartbeats 1000000 in
set_option maxRecDepth 100000 in
theorem cEvenest (hv : vX S v) : zEv X 12 mX9_evenest [zR 0] (cX S ++ t) (zTp S t (pEvenest v)) := by
  unfold pEvenest
  refine zEv_run gX9_evenest 120 [] rfl ?_
  refine zCl_e (beven hv) (by decide) ?_
  exact ⟨rfl, S, rfl, sG_r S, hv⟩
def pStopping (v : vV) (d n w : Int) : (Int ⊕ Nat) × vV := if 0 ≤ d ∧ d < v.1 1 then (if ¬ vTot v.2.1 d = 0 then (if 1 ≤ n ∧ n ≤ 5 then (if 0 ≤ w ∧ w ≤ 2 then ((.inl (if w = 2 then vFl (vTot v.2.1 d ^ (n - 1).toNat) (vSt (v.2.1.1 d) (vTot v.2.1 d) (n - 1)).1 5 1 else if w = 0 then (vSt (v.2.1.1 d) (vTot v.2.1 d) n).1 / vTot v.2.1 d ^ n.toNat else (vSt (v.2.1.1 d) (vTot v.2.1 d) n).1 % vTot v.2.1 d ^ n.toNat), v)) else (.inr 0, v)) else (.inr 0, v)) else (.inr 2, v)) else (.inr 1, v)
set_option maxHeartbeats 1000000 in
set_option maxRecDepth 100000 in
theorem cStopping (hv : vX S v) {d n w : Int} (hd : rI d) (hn : rI n) (hw : rI w) : zEv X 12 mX9_stopping [zR 0, zI d, zI n, zI w] (cX S ++ t) (zTq S t (pStopping v d n w)) := by
  unfold pStopping
  by_cases c1 : 0 ≤ d ∧ d < v.1 1
  · rw [if_pos c1]
    by_cases c2 : ¬ vTot v.2.1 d = 0
    · rw [if_pos c2]
      by_cases c3 : 1 ≤ n ∧ n ≤ 5
      · rw [if_pos c3]
        by_cases c4 : 0 ≤ w ∧ w ≤ 2
        · rw [if_pos c4]
          refine zEv_run gX9_stopping 120 [] rfl ?_
          refine zCl_e (nd_t hv c1) (by decide) ?_
          refine zCl_e (ng_t hv c1 c2) (by decide) ?_
          refine zBrF (by simp only [rI]; omega) (by omega) ?_
          refine zBrT (by simp only [rI]; omega) (by omega) ?_
          refine zCl_e (nw_t hv hw (by simp only [rI]; omega) (by simp only [rI]; omega) c4) (by decide) ?_
          have hb := gtb hv d
          refine zBr (by simp only [rI]; omega) (fun c => ?_) (fun c => ?_)
          · rw [if_pos c]
            refine zCl_e (olf hv c1 c3) (by decide) ?_
            have hf := vFl_b (vTot v.2.1 d ^ (n - 1).toNat) (vSt (v.2.1.1 d) (vTot v.2.1 d) (n - 1)).1 5 1
            refine mVc_i (by simp only [rI]; omega) ?_
            exact ⟨rfl, S, rfl, sG_r S, hv⟩
          · rw [if_neg c]
            have hp := ipow_5 hb (n := n) (by omega) (by omega)
            have hpp : 0 < vTot v.2.1 d ^ n.toNat := Int.pow_pos (by omega)
            have hst := vSt_b hv.1 d (i := n) (by omega)
            refine zCl_e (gtot hv c1.1 c1.2) (by decide) ?_
            refine mVc_i (by simp only [rI]; omega) ?_
            refine zCl_e (pow9 (by omega)) (by decide) ?_
            refine zBrT (by simp only [rL]; omega) (by omega) ?_
            refine zCl_e (obst hv c1 (by omega)) (by decide) ?_
            refine zBr (by simp only [rI]; omega) (fun c5 => ?_) (fun c5 => ?_)
            · rw [if_pos c5]
              refine mVc_i (by simp only [rL]; omega) ?_
              exact ⟨rfl, S, rfl, sG_r S, hv⟩
            · rw [if_neg c5]
              refine mVc_i (by simp only [rL]; omega) ?_
              exact ⟨rfl, S, rfl, sG_r S, hv⟩
        · rw [if_neg c4]
          refine zEv_run gX9_stopping 120 [] rfl ?_
          refine zCl_e (nd_t hv c1) (by decide) ?_
          refine zCl_e (ng_t hv c1 c2) (by decide) ?_
          refine zBrF (by simp only [rI]; omega) (by omega) ?_
          refine zBrT (by simp only [rI]; omega) (by omega) ?_
          refine zCl_e (nw_f hv hw (by simp only [rI]; omega) (by simp only [rI]; omega) c4) (by decide) ?_
          exact ⟨rfl, S, rfl, sG_r S, hv⟩
      · rw [if_neg c3]
        refine zEv_run gX9_stopping 120 [] rfl ?_
        refine zCl_e (nd_t hv c1) (by decide) ?_
        refine zCl_e (ng_t hv c1 c2) (by decide) ?_
        by_cases k1 : n < 1
        · refine zBrT ⟨hn, by simp only [rI]; omega⟩ k1 ?_
          exact ⟨rfl, S, rfl, sG_r S, hv⟩
        · refine zBrF ⟨hn, by simp only [rI]; omega⟩ k1 ?_
          refine zBrF ⟨hn, by simp only [rI]; omega⟩ (by omega) ?_
          exact ⟨rfl, S, rfl, sG_r S, hv⟩
    · rw [if_neg c2]
      refine zEv_run gX9_stopping 120 [] rfl ?_
      refine zCl_e (nd_t hv c1) (by decide) ?_
      refine zCl_e (ng_f hv c1 c2) (by decide) ?_
      exact ⟨rfl, S, rfl, sG_r S, hv⟩
  · rw [if_neg c1]
    refine zEv_run gX9_stopping 120 [] rfl ?_
    refine zCl_e (nd_f hv hd c1) (by decide) ?_
    exact ⟨rfl, S, rfl, sG_r S, hv⟩
def pTally (v : vV) (d f : Int) : (Int ⊕ Nat) × vV := if 0 ≤ d ∧ d < v.1 1 then (if 1 ≤ f ∧ f ≤ 6 then ((.inl (vTf v d f), v)) else (.inr 0, v)) else (.inr 1, v)
set_option maxHeartbeats 1000000 in
set_option maxRecDepth 100000 in
theorem cTally (hv : vX S v) {d f : Int} (hd : rI d) (hf : rI f) : zEv X 12 mX9_tally [zR 0, zI d, zI f] (cX S ++ t) (zTp S t (pTally v d f)) := by
  unfold pTally
  by_cases c1 : 0 ≤ d ∧ d < v.1 1
  · rw [if_pos c1]
    by_cases c2 : 1 ≤ f ∧ f ≤ 6
    · rw [if_pos c2]
      refine zEv_run gX9_tally 120 [] rfl ?_
      refine zCl_e (nd_t hv c1) (by decide) ?_
      refine zCl_e (nf_t hv c2) (by decide) ?_
      refine zCl_e (ltf hv hd hf) (by decide) ?_
      exact ⟨rfl, S, rfl, sG_r S, hv⟩
    · rw [if_neg c2]
      refine zEv_run gX9_tally 120 [] rfl ?_
      refine zCl_e (nd_t hv c1) (by decide) ?_
      refine zCl_e (nf_f hv hf c2) (by decide) ?_
      exact ⟨rfl, S, rfl, sG_r S, hv⟩
  · rw [if_neg c1]
    refine zEv_run gX9_tally 120 [] rfl ?_
    refine zCl_e (nd_f hv hd c1) (by decide) ?_
    exact ⟨rfl, S, rfl, sG_r S, hv⟩
def pStreak (v : vV) (f : Int) : (Int ⊕ Nat) × vV := if 1 ≤ f ∧ f ≤ 6 then ((.inl ((vRw v f).1), v)) else (.inr 0, v)
set_option maxHeartbeats 1000000 in
set_option maxRecDepth 100000 in
theorem cStreak (hv : vX S v) {f : Int} (hf : rI f) : zEv X 12 mX9_streak [zR 0, zI f] (cX S ++ t) (zTp S t (pStreak v f)) := by
  unfold pStreak
  by_cases c1 : 1 ≤ f ∧ f ≤ 6
  · rw [if_pos c1]
    refine zEv_run gX9_streak 120 [] rfl ?_
    refine zCl_e (nf_t hv c1) (by decide) ?_
    refine zCl_e (lrow hv hf) (by decide) ?_
    exact ⟨rfl, S, rfl, sG_r S, hv⟩
  · rw [if_neg c1]
    refine zEv_run gX9_streak 120 [] rfl ?_
    refine zCl_e (nf_f hv hf c1) (by decide) ?_
    exact ⟨rfl, S, rfl, sG_r S, hv⟩
def pOff (v : vV) (d : Int) : (Int ⊕ Nat) × vV := if 0 ≤ d ∧ d < v.1 1 then ((.inl (vOff v d), v)) else (.inr 1, v)
set_option maxHeartbeats 1000000 in
set_option maxRecDepth 100000 in
theorem cOff (hv : vX S v) {d : Int} (hd : rI d) : zEv X 12 mX9_off [zR 0, zI d] (cX S ++ t) (zTp S t (pOff v d)) := by
  unfold pOff
  by_cases c1 : 0 ≤ d ∧ d < v.1 1
  · rw [if_pos c1]
    refine zEv_run gX9_off 120 [] rfl ?_
    refine zCl_e (nd_t hv c1) (by decide) ?_
    refine zCl_e (loff hv hd) (by decide) ?_
    exact ⟨rfl, S, rfl, sG_r S, hv⟩
  · rw [if_neg c1]
    refine zEv_run gX9_off 120 [] rfl ?_
    refine zCl_e (nd_f hv hd c1) (by decide) ?_
    exact ⟨rfl, S, rfl, sG_r S, hv⟩
def pLoaded (v : vV) : (Int ⊕ Nat) × vV := (.inl ((vLd v).1), v)
set_option maxHeartbeats 1000000 in
set_option maxRecDepth 100000 in
theorem cLoaded (hv : vX S v) : zEv X 12 mX9_loaded [zR 0] (cX S ++ t) (zTp S t (pLoaded v)) := by
  unfold pLoaded
  refine zEv_run gX9_loaded 120 [] rfl ?_
  refine zCl_e (lfar hv) (by decide) ?_
  exact ⟨rfl, S, rfl, sG_r S, hv⟩
end Calls2
