/-! the calls with trays -/
/-- trays: the sort (-1: missing), how many, the numbers -/
abbrev tT : Type := Int → Int × Int × (Nat → Int)
def tB (T : tT) : Prop := ∀ j, (-1 ≤ (T j).1 ∧ (T j).1 ≤ 3) ∧ (0 ≤ (T j).2.1 ∧ (T j).2.1 ≤ 30) ∧ ∀ k, rL ((T j).2.2 k)
def tR (ms so mn : Int) (nu : Nat → Int) (x : Int × Int × (Nat → Int)) : Prop := (x.1 = -1 → ms = 1) ∧ (x.1 ≠ -1 → ms = 0 ∧ so = x.1) ∧ mn = x.2.1 ∧ nu = x.2.2
def tX (S : sS) (T : tT) : Prop := tB T ∧ tR (S.1 18) (S.1 19) (S.1 20) (S.2.1 10) (T 0) ∧ tR (S.1 21) (S.1 22) (S.1 23) (S.2.1 11) (T 1) ∧ tR (S.1 24) (S.1 25) (S.1 26) (S.2.1 12) (T 2) ∧ tR (S.1 27) (S.1 28) (S.1 29) (S.2.1 13) (T 3)
theorem tX_g {S R : sS} {T : tT} (h : sG S R) (k : tX S T) : tX R T := by
  obtain ⟨k0, k1, k2, k3, k4⟩ := k
  have a : ∀ i, 17 < i → R.1 i = S.1 i := fun i hi => h.1 i (Or.inr hi)
  have b : ∀ i, 9 < i → R.2.1 i = S.2.1 i := fun i hi => h.2.1 i (Or.inr hi)
  unfold tX
  rw [a 18 (by omega), a 19 (by omega), a 20 (by omega), a 21 (by omega), a 22 (by omega), a 23 (by omega), a 24 (by omega), a 25 (by omega), a 26 (by omega), a 27 (by omega), a 28 (by omega), a 29 (by omega), b 10 (by omega), b 11 (by omega), b 12 (by omega), b 13 (by omega)]
  exact ⟨k0, k1, k2, k3, k4⟩
/-- what is not of the trays stays -/
def sH (S R : sS) : Prop := (∀ i, i < 18 → R.1 i = S.1 i) ∧ (∀ r, r < 10 → R.2.1 r = S.2.1 r) ∧ R.2.2 = S.2.2
theorem sH_r (S : sS) : sH S S := ⟨fun _ _ => rfl, fun _ _ => rfl, rfl⟩
theorem sH_t {S R Q : sS} (h : sH S R) (k : sH R Q) : sH S Q := ⟨fun i hi => by rw [k.1 i hi, h.1 i hi], fun i hi => by rw [k.2.1 i hi, h.2.1 i hi], by rw [k.2.2, h.2.2]⟩
theorem sH_A (S : sS) {r : Nat} (f : Nat → Int) (h : 10 ≤ r) : sH S (sA S r f) := ⟨fun _ _ => rfl, fun i hi => va_up_o _ _ (by omega), rfl⟩
theorem sH_I (S : sS) {r : Nat} (z : Int) (h : 18 ≤ r) : sH S (sI S r z) := ⟨fun i hi => va_up_o _ _ (by omega), fun _ _ => rfl, rfl⟩
theorem vX_H {S R : sS} {v : vV} (h : sH S R) (k : vX S v) : vX R v := by
  unfold vX at k ⊢
  rw [h.1 12 (by omega), h.1 13 (by omega), h.1 14 (by omega), h.1 15 (by omega), h.1 16 (by omega), h.2.1 2 (by omega), h.2.1 3 (by omega), h.2.1 4 (by omega)]
  exact k
def zTt (S : sS) (t : zH) (o : zO) (T : tT) : zO → zH → Prop := fun o9 h9 => o9 = o ∧ ∃ R : sS, h9 = cX R ++ t ∧ sH S R ∧ tX R T
def tUp (T : tT) (x : Int) (y : Int × Int × (Nat → Int)) : tT := fun j => if j = x then y else T j
theorem tUp_s (T : tT) (x : Int) (y : Int × Int × (Nat → Int)) : tUp T x y x = y := by simp [tUp]
theorem tUp_o (T : tT) {x j : Int} (y : Int × Int × (Nat → Int)) (h : ¬ j = x) : tUp T x y j = T j := by simp [tUp, h]
theorem tB_up {T : tT} (h : tB T) (x : Int) {y : Int × Int × (Nat → Int)} (hy : (-1 ≤ y.1 ∧ y.1 ≤ 3) ∧ (0 ≤ y.2.1 ∧ y.2.1 ≤ 30) ∧ ∀ k, rL (y.2.2 k)) : tB (tUp T x y) := by
  intro j
  by_cases c : j = x
  · rw [c, tUp_s]
    exact hy
  · rw [tUp_o T y c]
    exact h j
/-- the told throws, one behind another -/
def vTl (num : Nat → Int) : Nat → Int → vV → Int × vV
  | 0, i, u => (i, u)
  | k + 1, i, u => if vTold u (num i.toNat) = 0 then vTl num k (i + 1) (vGo u (num i.toNat / 100) (num i.toNat / 10 % 10) (num i.toNat % 10)) else (i, u)
theorem vTold_0 {v : vV} {z : Int} (h : vTold v z = 0) : (0 ≤ z ∧ z < 500) ∧ vWhy v (z / 100) (z / 10 % 10) (z % 10) = 0 := by
  unfold vTold at h
  by_cases c : z < 0 ∨ 500 ≤ z
  · rw [if_pos c] at h
    omega
  · rw [if_neg c] at h
    exact ⟨by omega, h⟩
theorem vTold_b (v : vV) (z : Int) : 0 ≤ vTold v z ∧ vTold v z ≤ 4 := by
  unfold vTold
  split
  · omega
  · exact vWhy_b _ _ _ _
/-- u came from v by throws -/
def vAg (u v : vV) : Prop := (∀ i, i ≠ 4 → u.1 i = v.1 i) ∧ v.1 4 ≤ u.1 4 ∧ (∀ k, 0 ≤ k → k < v.1 4 → u.2.2.1 k = v.2.2.1 k ∧ u.2.2.2.1 k = v.2.2.2.1 k ∧ u.2.2.2.2.1 k = v.2.2.2.2.1 k ∧ u.2.2.2.2.2 k = v.2.2.2.2.2 k) ∧ (v.1 4 < u.1 4 → u.2.2.2.2.2 (v.1 4) = v.2.1) ∧ (v.1 4 = u.1 4 → u.2.1 = v.2.1)
theorem vAg_r (v : vV) : vAg v v := ⟨fun _ _ => rfl, Int.le_refl _, fun _ _ _ => ⟨rfl, rfl, rfl, rfl⟩, fun h => by omega, fun _ => rfl⟩
theorem vWr_2 (v : vV) (d f z : Int) : (vWr v d f z).2.2 = v.2.2 := by
  unfold vWr
  split <;> rfl
theorem vGo_2 (v : vV) (d q f : Int) : (vGo v d q f).2.2 = (vPush v d q f).2.2 := by
  show (vWr (vPush v d q f) d f (v.2.1.2.2.1 q)).2.2 = _
  rw [vWr_2]
theorem vAg_go {u v : vV} (h : vAg u v) (d q f : Int) : vAg (vGo u d q f) v := by
  obtain ⟨h1, h2, h3, h4, h5⟩ := h
  refine ⟨fun i hi => by rw [vGo_1 u d q f hi]; exact h1 i hi, by rw [vGo_4]; omega, fun k k0 k1 => ?_, fun _ => ?_, fun c => ?_⟩
  · rw [vGo_2]
    have hk : ¬ k = u.1 4 := by omega
    show (if k = u.1 4 then d else u.2.2.1 k) = _ ∧ (if k = u.1 4 then q else u.2.2.2.1 k) = _ ∧ (if k = u.1 4 then f else u.2.2.2.2.1 k) = _ ∧ (if k = u.1 4 then u.2.1 else u.2.2.2.2.2 k) = _
    rw [if_neg hk, if_neg hk, if_neg hk, if_neg hk]
    exact h3 k k0 k1
  · rw [vGo_2]
    show (if v.1 4 = u.1 4 then u.2.1 else u.2.2.2.2.2 (v.1 4)) = _
    split
    · rename_i c
      exact h5 c
    · exact h4 (by omega)
  · rw [vGo_4] at c
    omega
theorem vX_ag {R : sS} {w v : vV} (hb : vVb v) (h1 : ∀ i, w.1 i = v.1 i) (h2 : w.2.1 = v.2.1) (h3 : ∀ k, 0 ≤ k → k < v.1 4 → w.2.2.1 k = v.2.2.1 k ∧ w.2.2.2.1 k = v.2.2.2.1 k ∧ w.2.2.2.2.1 k = v.2.2.2.2.1 k ∧ w.2.2.2.2.2 k = v.2.2.2.2.2 k) (h : vX R w) : vX R v := by
  obtain ⟨-, e0, e1, e2, e3, e4, er, eh⟩ := h
  rw [h1] at e0 e1 e2 e3 e4 er eh
  rw [h2] at er
  refine ⟨hb, e0, e1, e2, e3, e4, er, fun k k0 k1 => ?_⟩
  have q := eh k k0 k1
  obtain ⟨a1, a2, a3, a4⟩ := h3 k k0 k1
  rw [a1, a2, a3, a4, h1] at q
  exact q
theorem vX_unag {R : sS} {u v : vV} (hb : vVb v) (ha : vAg u v) (h : vX R (vUn u (u.1 4 - v.1 4))) : vX R v := by
  obtain ⟨h1, h2, h3, h4, h5⟩ := ha
  by_cases c : u.1 4 - v.1 4 = 0
  · unfold vUn at h
    rw [if_pos c] at h
    exact vX_ag hb (fun i => by
      by_cases q : i = 4
      · rw [q]; omega
      · exact h1 i q) (h5 (by omega)) h3 h
  · unfold vUn at h
    rw [if_neg c] at h
    refine vX_ag (w := (fun i => if i = 4 then u.1 4 - (u.1 4 - v.1 4) else u.1 i, u.2.2.2.2.2 (u.1 4 - (u.1 4 - v.1 4)), u.2.2)) hb (fun i => ?_) ?_ h3 h
    · show (if i = 4 then u.1 4 - (u.1 4 - v.1 4) else u.1 i) = v.1 i
      split
      · rename_i q
        rw [q]; omega
      · rename_i q
        exact h1 i q
    · show u.2.2.2.2.2 (u.1 4 - (u.1 4 - v.1 4)) = v.2.1
      rw [show u.1 4 - (u.1 4 - v.1 4) = v.1 4 by omega]
      exact h4 (by omega)
theorem vTl_ag (num : Nat → Int) {v : vV} : ∀ (k : Nat) (i : Int) (u : vV), vAg u v → vAg (vTl num k i u).2 v
  | 0, i, u, h => h
  | k + 1, i, u, h => by
    simp only [vTl]
    split
    · exact vTl_ag num k (i + 1) _ (vAg_go h _ _ _)
    · exact h
theorem vTl_n (num : Nat → Int) : ∀ (k : Nat) (i : Int) (u : vV), (vTl num k i u).2.1 4 = u.1 4 + (vTl num k i u).1 - i ∧ i ≤ (vTl num k i u).1 ∧ (vTl num k i u).1 ≤ i + k
  | 0, i, u => by simp only [vTl]; omega
  | k + 1, i, u => by
    simp only [vTl]
    split
    · have h := vTl_n num k (i + 1) (vGo u (num i.toNat / 100) (num i.toNat / 10 % 10) (num i.toNat % 10))
      rw [vGo_4] at h
      omega
    · show u.1 4 = u.1 4 + i - i ∧ i ≤ i ∧ i ≤ i + (k + 1 : Nat)
      omega
def tPr (v : vV) (T : tT) (x : Int) : Int × vV := vTl (T x).2.2 (T x).2.1.toNat 0 v
def pPerform (v : vV) (T : tT) (x : Int) : (Int ⊕ Nat) × vV := if 0 ≤ x ∧ x ≤ 3 then (if ¬ (T x).1 = -1 then (.inl (tPr v T x).1, (tPr v T x).2) else (.inr 2, v)) else (.inr 1, v)
def pJudge (v : vV) (T : tT) (x w : Int) : (Int ⊕ Nat) × vV := if 0 ≤ x ∧ x ≤ 3 then (if ¬ (T x).1 = -1 then (if 0 ≤ w ∧ w ≤ 2 then (.inl (if w = 0 then (if (tPr v T x).1 = (T x).2.1 then -1 else (tPr v T x).1) else if w = 1 then (if (tPr v T x).1 = (T x).2.1 then 0 else vTold (tPr v T x).2 ((T x).2.2 (tPr v T x).1.toNat)) else zSum (vTot (tPr v T x).2.2.1) ((tPr v T x).2.1 1)), v) else (.inr 0, v)) else (.inr 2, v)) else (.inr 1, v)
def pFaces (v : vV) (T : tT) (x : Int) (r : Int) : (Int ⊕ Nat) × vV := if 0 ≤ x ∧ x ≤ 3 then (if ¬ (T x).1 = -1 then (if tH (T x).2.1 (T x).2.2 = 1 then (.inl r, v) else (.inr 0, v)) else (.inr 2, v)) else (.inr 1, v)
def pLikelier (v : vV) (T : tT) (x : Int) : (Int ⊕ Nat) × vV := pFaces v T x (vLk v (T x).2.2 (T x).2.1 (v.1 1)).1
def pFits (v : vV) (T : tT) (x : Int) : (Int ⊕ Nat) × vV := pFaces v T x (vRd v (T x).2.2 (T x).2.1)
def pWorn (v : vV) (T : tT) (d x tt key : Int) : (Int ⊕ Nat) × vV := if 0 ≤ d ∧ d < v.1 1 then pFaces v T x (vWn v (T x).2.2 (T x).2.1 d tt key) else (.inr 1, v)
def pTray (T : tT) (x so mn : Int) : Nat × tT := if 0 ≤ x ∧ x ≤ 3 then (if (0 ≤ so ∧ so ≤ 3) ∧ 0 ≤ mn ∧ mn ≤ 30 then (9, tUp T x (so, mn, fun k => if k < 30 then 0 else (T x).2.2 k)) else (0, T)) else (1, T)
def zVr (n : Nat) : zO := if n = 9 then .inl none else .inr n
def pWrite (T : tT) (x p z : Int) : (Int ⊕ Nat) × tT := if 0 ≤ x ∧ x ≤ 3 then (if ¬ (T x).1 = -1 then (if 0 ≤ p ∧ p < (T x).2.1 then (.inl (tCut (T x).1 z), tUp T x ((T x).1, (T x).2.1, va_up (T x).2.2 p.toNat (tCut (T x).1 z))) else (.inr 3, T)) else (.inr 2, T)) else (.inr 1, T)
def vPu (v : vV) (so : Int) (nu : Nat → Int) (i : Int) : Nat → Int := zIt (fun k f => va_up f k.toNat (tCut so (v.2.2.2.2.1 k))) nu i
theorem vPu_s (v : vV) (so : Int) (nu : Nat → Int) {i : Int} (h : 0 ≤ i) : vPu v so nu (i + 1) = va_up (vPu v so nu i) i.toNat (tCut so (v.2.2.2.2.1 i)) := zIt_s _ _ h
def pPour (v : vV) (T : tT) (x : Int) : (Int ⊕ Nat) × tT := if 0 ≤ x ∧ x ≤ 3 then (if ¬ (T x).1 = -1 then (.inl (min (T x).2.1 (v.1 4)), tUp T x ((T x).1, (T x).2.1, vPu v (T x).1 (T x).2.2 (min (T x).2.1 (v.1 4)))) else (.inr 2, T)) else (.inr 1, T)
theorem tCut_b {so z : Int} (h : rL z) : rL (tCut so z) := by
  have a1 := bm8 z
  have a2 := bm16 z
  have a3 := bm32 z
  unfold tCut
  simp only [rL] at h ⊢
  split
  · omega
  · split
    · omega
    · split
      · omega
      · omega
theorem tUp_rL {f : Nat → Int} (h : ∀ k, rL (f k)) (p : Nat) {z : Int} (hz : rL z) : ∀ k, rL (va_up f p z k) := by
  intro k
  by_cases c : k = p
  · rw [c, va_up_s]; exact hz
  · rw [va_up_o _ _ c]; exact h k
section Trays
variable {X : mX} {S : sS} {t : zH} {v : vV} {T : tT}
set_option maxHeartbeats 1000000 in
set_option maxRecDepth 100000 in
theorem ylb0 {a b : Int} : zEv X 1 mX7_lay [zR 20, zI a, zI b] (cX S ++ t) (fun o9 h9 => o9 = .inl none ∧ ∃ f : Nat → Int, (∀ j, j < 30 → f j = 0) ∧ (∀ j, 30 ≤ j → f j = S.2.1 10 j) ∧ h9 = cX (sA (sI (sI (sI S 18 0) 19 a) 20 b) 10 f) ++ t) := by
  have lp : ∀ (k : Nat) (i : Int) (f : Nat → Int), 0 ≤ i → (∀ j : Nat, (j : Int) < i → f j = 0) → (∀ j : Nat, 30 ≤ j → f j = S.2.1 10 j) → i + k = 30 → zWP X mX7_lay 1 (fun o9 h9 => o9 = .inl none ∧ ∃ f : Nat → Int, (∀ j, j < 30 → f j = 0) ∧ (∀ j, 30 ≤ j → f j = S.2.1 10 j) ∧ h9 = cX (sA (sI (sI (sI S 18 0) 19 a) 20 b) 10 f) ++ t) 17 [some (zR 20), some (zI a), some (zI b), some (zI i)] [] (cX (sA (sI (sI (sI S 18 0) 19 a) 20 b) 10 f) ++ t) 0 0 := by
    intro k
    induction k with
    | zero =>
      intro i f g0 hf hf2 hk
      refine zWP_run gX7_lay 80 [17] ?_
      refine zBrT (by simp only [rI]; omega) (by omega) ?_
      exact ⟨rfl, f, fun j hj => hf j (by omega), hf2, rfl⟩
    | succ k ih =>
      intro i f g0 hf hf2 hk
      refine zWP_run gX7_lay 80 [17] ?_
      refine zBrF (by simp only [rI]; omega) (by omega) ?_
      refine mVc_i (by first | omega | (simp only [rI]; omega) | (simp only [rL]; omega)) ?_
      exact ih (i + 1) (va_up f i.toNat 0) (by omega) (fun j hj => by
        by_cases e : j = i.toNat
        · rw [e, va_up_s]
        · rw [va_up_o _ _ e]
          exact hf j (by omega)) (fun j hj => by
        rw [va_up_o _ _ (by omega)]
        exact hf2 j hj) (by omega)
  refine zEv_run gX7_lay 60 [17] rfl ?_
  exact lp 30 0 (S.2.1 10) (by omega) (fun j hj => by omega) (fun j hj => rfl) (by omega)
set_option maxHeartbeats 1000000 in
set_option maxRecDepth 100000 in
theorem ctold0 {num : Nat → Int} {mn : Int} (hv : vX S v) (hm : 0 ≤ mn ∧ mn ≤ 30) (hn : ∀ k, rL (num k)) (ht : S.1 20 = mn ∧ S.2.1 10 = num) : zEv X 7 mX9_throwTold [zR 0, zR 20] (cX S ++ t) (zTo S t (.inl (some (zI (vTl num mn.toNat 0 v).1))) (vTl num mn.toNat 0 v).2) := by
  have lp : ∀ (k : Nat) (i : Int) (u : vV) (R : sS), 0 ≤ i → sF S R → vX R u → vTl num k i u = vTl num mn.toNat 0 v → i + k = mn → zWP X mX9_throwTold 7 (zTo S t (.inl (some (zI (vTl num mn.toNat 0 v).1))) (vTl num mn.toNat 0 v).2) 4 [some (zR 0), some (zR 20), some (zI i), some (zI i)] [] (cX R ++ t) 0 0 := by
    intro k
    induction k with
    | zero =>
      intro i u R i0 hf hr hu hk
      have a1 : R.1 20 = mn := by rw [hf.1 20 (by omega)]; exact ht.1
      refine zWP_run gX9_throwTold 80 [4] ?_
      refine zBrT (by simp only [rI]; omega) (by omega) ?_
      rw [← hu]
      exact ⟨rfl, R, rfl, hf, hr⟩
    | succ k ih =>
      intro i u R i0 hf hr hu hk
      have a1 : R.1 20 = mn := by rw [hf.1 20 (by omega)]; exact ht.1
      have a2 : R.2.1 10 = num := by rw [hf.2.1 10 (by omega)]; exact ht.2
      have hw := vTold_b u (num i.toNat)
      refine zWP_run gX9_throwTold 80 [4] ?_
      refine zBrF (by simp only [rI]; omega) (by omega) ?_
      refine zCl_e (ynum0 (by omega) i0 (by omega)) (by decide) ?_
      rw [a2]
      refine zCl_e (gwhyt hr (hn _)) (by decide) ?_
      by_cases c : vTold u (num i.toNat) = 0
      · refine zBrT (by simp only [rI]; omega) c ?_
        refine zCl_e (ynum0 (by omega) i0 (by omega)) (by decide) ?_
        rw [a2]
        have c2 := vTold_0 c
        have c3 := vWhy_0 c2.2
        refine zCl_t (gtold1 hr c2.1.1 c2.1.2 c3.1 c3.2.1) (by decide) ?_
        intro R2 f1 hv1
        exact ih (i + 1) _ R2 (by omega) (sF_t hf f1) hv1 (by rw [← hu]; simp only [vTl]; rw [if_pos c]) (by omega)
      · refine zBrF (by simp only [rI]; omega) c ?_
        have hu2 : vTl num (k + 1) i u = (i, u) := by simp only [vTl]; rw [if_neg c]
        rw [← hu, hu2]
        exact ⟨rfl, R, rfl, hf, hr⟩
  refine zEv_run gX9_throwTold 40 [4] rfl ?_
  exact lp mn.toNat 0 v S (by omega) (sF_r S) hv rfl (by omega)
set_option maxHeartbeats 1000000 in
set_option maxRecDepth 100000 in
theorem cperf0 (hv : vX S v) (hT : tX S T) : zEv X 12 mX9_perform [zR 0, zI 0] (cX S ++ t) (zTp S t (pPerform v T 0)) := by
  unfold pPerform
  rw [if_pos (by omega)]
  have hb := hT.1 0
  have hR : tR (S.1 18) (S.1 19) (S.1 20) (S.2.1 10) (T 0) := hT.2.1
  obtain ⟨r1, r2, r3, r4⟩ := hR
  by_cases c : ¬ (T 0).1 = -1
  · rw [if_pos c]
    refine zEv_run gX9_perform 40 [] rfl ?_
    refine zCl_e (ndt0_t (r2 c).1) (by decide) ?_
    refine zCl_t (ctold0 hv hb.2.1 hb.2.2 ⟨r3, r4⟩) (by decide) ?_
    intro R f1 hv1
    exact ⟨rfl, R, rfl, sG_f f1, hv1⟩
  · rw [if_neg c]
    refine zEv_run gX9_perform 40 [] rfl ?_
    refine zCl_e (ndt0_f (r1 (Decidable.not_not.mp c))) (by decide) ?_
    exact ⟨rfl, S, rfl, sG_r S, hv⟩
set_option maxHeartbeats 1000000 in
set_option maxRecDepth 100000 in
theorem cjudge0 (hv : vX S v) (hT : tX S T) {w : Int} (hw : rI w) : zEv X 12 mX9_judge [zR 0, zI 0, zI w] (cX S ++ t) (zTp S t (pJudge v T 0 w)) := by
  unfold pJudge
  rw [if_pos (by omega)]
  have hb := hT.1 0
  have hR : tR (S.1 18) (S.1 19) (S.1 20) (S.2.1 10) (T 0) := hT.2.1
  obtain ⟨r1, r2, r3, r4⟩ := hR
  have h1 := hv.1.2.1
  have h4 := hv.1.2.2.2.2.1
  have hq0 := vTl_n (T 0).2.2 (T 0).2.1.toNat 0 v
  have hq : 0 ≤ (tPr v T 0).1 ∧ (tPr v T 0).2.1 4 = v.1 4 + (tPr v T 0).1 := ⟨hq0.2.1, by show (vTl _ _ _ _).2.1 4 = v.1 4 + (vTl _ _ _ _).1; omega⟩
  have hq2 : (tPr v T 0).1 ≤ (T 0).2.1 := by show (vTl _ _ _ _).1 ≤ _; omega
  have hag : vAg (tPr v T 0).2 v := vTl_ag _ _ _ _ (vAg_r v)
  by_cases c : ¬ (T 0).1 = -1
  · rw [if_pos c]
    by_cases c2 : 0 ≤ w ∧ w ≤ 2
    · rw [if_pos c2]
      refine zEv_run gX9_judge 80 [] rfl ?_
      refine zCl_e (ndt0_t (r2 c).1) (by decide) ?_
      refine zCl_e (nw_t hv hw (by simp only [rI]; omega) (by simp only [rI]; omega) c2) (by decide) ?_
      refine zCl_t (ctold0 hv hb.2.1 hb.2.2 ⟨r3, r4⟩) (by decide) ?_
      intro R f1 hv0
      have hv1 : vX R (tPr v T 0).2 := hv0
      have a1 : R.1 20 = (T 0).2.1 := by rw [f1.1 20 (by omega)]; exact r3
      have a2 : R.2.1 10 = (T 0).2.2 := by rw [f1.2.1 10 (by omega)]; exact r4
      have rq : rI (tPr v T 0).1 := by simp only [rI]; omega
      have e5 : (vTl (T 0).2.2 (T 0).2.1.toNat 0 v).1 = (tPr v T 0).1 := rfl
      rw [e5]
      by_cases ce : (tPr v T 0).1 = (T 0).2.1
      · rw [if_pos ce, if_pos ce]
        refine zBrT ⟨rq, by rw [a1]; simp only [rI]; omega⟩ (by rw [a1]; exact ce) ?_
        refine mVc_i hw ⟨fun q => ?_, fun q => ⟨fun q3 => ?_, fun q3 => ?_⟩⟩
        · have q2 : w = 0 := q
          rw [if_pos q2]
          refine zBrF rI_1 (by omega) ?_
          refine zCl_t (gundo (t := t) hv1 (n := (tPr v T 0).1) hq.1 (by rw [hq.2]; omega)) (by decide) ?_
          intro R2 f2 hv2
          have e6 : (tPr v T 0).1 = (tPr v T 0).2.1 4 - v.1 4 := by rw [hq.2]; omega
          rw [e6] at hv2
          exact ⟨rfl, R2, rfl, sG_f (sF_t f1 f2), vX_unag hv.1 hag hv2⟩
        · have q4 : w = 1 := q3
          rw [if_neg (by omega), if_pos q4]
          refine zBrF rI_1 (by omega) ?_
          refine zCl_t (gundo (t := t) hv1 (n := (tPr v T 0).1) hq.1 (by rw [hq.2]; omega)) (by decide) ?_
          intro R2 f2 hv2
          have e6 : (tPr v T 0).1 = (tPr v T 0).2.1 4 - v.1 4 := by rw [hq.2]; omega
          rw [e6] at hv2
          exact ⟨rfl, R2, rfl, sG_f (sF_t f1 f2), vX_unag hv.1 hag hv2⟩
        · have q2 : ¬ w = 0 := q
          have q4 : ¬ w = 1 := q3
          rw [if_neg q2, if_neg q4]
          refine zCl_e (gall hv1) (by decide) ?_
          refine zCl_t (gundo (t := t) hv1 (n := (tPr v T 0).1) hq.1 (by rw [hq.2]; omega)) (by decide) ?_
          intro R2 f2 hv2
          have e6 : (tPr v T 0).1 = (tPr v T 0).2.1 4 - v.1 4 := by rw [hq.2]; omega
          rw [e6] at hv2
          exact ⟨rfl, R2, rfl, sG_f (sF_t f1 f2), vX_unag hv.1 hag hv2⟩
      · rw [if_neg ce, if_neg ce]
        refine zBrF ⟨rq, by rw [a1]; simp only [rI]; omega⟩ (by rw [a1]; exact ce) ?_
        refine mVc_i hw ⟨fun q => ?_, fun q => ⟨fun q3 => ?_, fun q3 => ?_⟩⟩
        · have q2 : w = 0 := q
          rw [if_pos q2]
          refine zBrT rI_0 rfl ?_
          refine zCl_t (gundo (t := t) hv1 (n := (tPr v T 0).1) hq.1 (by rw [hq.2]; omega)) (by decide) ?_
          intro R2 f2 hv2
          have e6 : (tPr v T 0).1 = (tPr v T 0).2.1 4 - v.1 4 := by rw [hq.2]; omega
          rw [e6] at hv2
          exact ⟨rfl, R2, rfl, sG_f (sF_t f1 f2), vX_unag hv.1 hag hv2⟩
        · have q4 : w = 1 := q3
          rw [if_neg (by omega), if_pos q4]
          refine zBrT rI_0 rfl ?_
          refine zCl_e (ynum0 (by omega) hq.1 (by omega)) (by decide) ?_
          rw [a2]
          refine zCl_e (gwhyt hv1 (hb.2.2 _)) (by decide) ?_
          refine zCl_t (gundo (t := t) hv1 (n := (tPr v T 0).1) hq.1 (by rw [hq.2]; omega)) (by decide) ?_
          intro R2 f2 hv2
          have e6 : (tPr v T 0).1 = (tPr v T 0).2.1 4 - v.1 4 := by rw [hq.2]; omega
          rw [e6] at hv2
          exact ⟨rfl, R2, rfl, sG_f (sF_t f1 f2), vX_unag hv.1 hag hv2⟩
        · have q2 : ¬ w = 0 := q
          have q4 : ¬ w = 1 := q3
          rw [if_neg q2, if_neg q4]
          refine zCl_e (gall hv1) (by decide) ?_
          refine zCl_t (gundo (t := t) hv1 (n := (tPr v T 0).1) hq.1 (by rw [hq.2]; omega)) (by decide) ?_
          intro R2 f2 hv2
          have e6 : (tPr v T 0).1 = (tPr v T 0).2.1 4 - v.1 4 := by rw [hq.2]; omega
          rw [e6] at hv2
          exact ⟨rfl, R2, rfl, sG_f (sF_t f1 f2), vX_unag hv.1 hag hv2⟩
    · rw [if_neg c2]
      refine zEv_run gX9_judge 80 [] rfl ?_
      refine zCl_e (ndt0_t (r2 c).1) (by decide) ?_
      refine zCl_e (nw_f hv hw (by simp only [rI]; omega) (by simp only [rI]; omega) c2) (by decide) ?_
      exact ⟨rfl, S, rfl, sG_r S, hv⟩
  · rw [if_neg c]
    refine zEv_run gX9_judge 40 [] rfl ?_
    refine zCl_e (ndt0_f (r1 (Decidable.not_not.mp c))) (by decide) ?_
    exact ⟨rfl, S, rfl, sG_r S, hv⟩
set_option maxHeartbeats 1000000 in
set_option maxRecDepth 100000 in
theorem clik0 (hv : vX S v) (hT : tX S T) : zEv X 12 mX9_likelier [zR 0, zI 0] (cX S ++ t) (zTp S t (pLikelier v T 0)) := by
  unfold pLikelier pFaces
  rw [if_pos (by omega)]
  have hb := hT.1 0
  have hR : tR (S.1 18) (S.1 19) (S.1 20) (S.2.1 10) (T 0) := hT.2.1
  obtain ⟨r1, r2, r3, r4⟩ := hR
  have hfaces : tH (T 0).2.1 (T 0).2.2 = 1 → (1 ≤ (T 0).2.1 ∧ (T 0).2.1 ≤ 5) ∧ ∀ i : Int, 0 ≤ i → i < (T 0).2.1 → 1 ≤ (T 0).2.2 i.toNat ∧ (T 0).2.2 i.toNat ≤ 6 := by
    intro q
    unfold tH at q
    by_cases c : 1 ≤ (T 0).2.1 ∧ (T 0).2.1 ≤ 5
    · rw [if_pos c] at q
      exact ⟨c, fun i i0 i1 => tAll_f q i i0 (by omega)⟩
    · rw [if_neg c] at q
      omega
  have ht01 : tH (T 0).2.1 (T 0).2.2 = 0 ∨ tH (T 0).2.1 (T 0).2.2 = 1 := by
    unfold tH
    split
    · exact tAll_01 _ _ _
    · exact Or.inl rfl
  by_cases c : ¬ (T 0).1 = -1
  · rw [if_pos c]
    by_cases c2 : tH (T 0).2.1 (T 0).2.2 = 1
    · rw [if_pos c2]
      refine zEv_run gX9_likelier 60 [] rfl ?_
      refine zCl_e (ndt0_t (r2 c).1) (by decide) ?_
      refine zCl_e (nfc0_t (by omega) (by rw [r4]; exact hb.2.2) (by rw [r3, r4]; exact c2)) (by decide) ?_
      refine zCl_e (wlk0 hv ⟨r3, r4⟩ (hfaces c2).1 (hfaces c2).2) (by decide) ?_
      exact ⟨rfl, S, rfl, sG_r S, hv⟩
    · rw [if_neg c2]
      refine zEv_run gX9_likelier 60 [] rfl ?_
      refine zCl_e (ndt0_t (r2 c).1) (by decide) ?_
      refine zCl_e (nfc0_f (by omega) (by rw [r4]; exact hb.2.2) (by rw [r3, r4]; omega)) (by decide) ?_
      exact ⟨rfl, S, rfl, sG_r S, hv⟩
  · rw [if_neg c]
    refine zEv_run gX9_likelier 40 [] rfl ?_
    refine zCl_e (ndt0_f (r1 (Decidable.not_not.mp c))) (by decide) ?_
    exact ⟨rfl, S, rfl, sG_r S, hv⟩
set_option maxHeartbeats 1000000 in
set_option maxRecDepth 100000 in
theorem cfit0 (hv : vX S v) (hT : tX S T) : zEv X 12 mX9_fits [zR 0, zI 0] (cX S ++ t) (zTp S t (pFits v T 0)) := by
  unfold pFits pFaces
  rw [if_pos (by omega)]
  have hb := hT.1 0
  have hR : tR (S.1 18) (S.1 19) (S.1 20) (S.2.1 10) (T 0) := hT.2.1
  obtain ⟨r1, r2, r3, r4⟩ := hR
  have hfaces : tH (T 0).2.1 (T 0).2.2 = 1 → (1 ≤ (T 0).2.1 ∧ (T 0).2.1 ≤ 5) ∧ ∀ i : Int, 0 ≤ i → i < (T 0).2.1 → 1 ≤ (T 0).2.2 i.toNat ∧ (T 0).2.2 i.toNat ≤ 6 := by
    intro q
    unfold tH at q
    by_cases c : 1 ≤ (T 0).2.1 ∧ (T 0).2.1 ≤ 5
    · rw [if_pos c] at q
      exact ⟨c, fun i i0 i1 => tAll_f q i i0 (by omega)⟩
    · rw [if_neg c] at q
      omega
  have ht01 : tH (T 0).2.1 (T 0).2.2 = 0 ∨ tH (T 0).2.1 (T 0).2.2 = 1 := by
    unfold tH
    split
    · exact tAll_01 _ _ _
    · exact Or.inl rfl
  by_cases c : ¬ (T 0).1 = -1
  · rw [if_pos c]
    by_cases c2 : tH (T 0).2.1 (T 0).2.2 = 1
    · rw [if_pos c2]
      refine zEv_run gX9_fits 60 [] rfl ?_
      refine zCl_e (ndt0_t (r2 c).1) (by decide) ?_
      refine zCl_e (nfc0_t (by omega) (by rw [r4]; exact hb.2.2) (by rw [r3, r4]; exact c2)) (by decide) ?_
      refine zCl_e (wrd0 hv ⟨r3, r4⟩ (hfaces c2).1 (hfaces c2).2) (by decide) ?_
      exact ⟨rfl, S, rfl, sG_r S, hv⟩
    · rw [if_neg c2]
      refine zEv_run gX9_fits 60 [] rfl ?_
      refine zCl_e (ndt0_t (r2 c).1) (by decide) ?_
      refine zCl_e (nfc0_f (by omega) (by rw [r4]; exact hb.2.2) (by rw [r3, r4]; omega)) (by decide) ?_
      exact ⟨rfl, S, rfl, sG_r S, hv⟩
  · rw [if_neg c]
    refine zEv_run gX9_fits 40 [] rfl ?_
    refine zCl_e (ndt0_f (r1 (Decidable.not_not.mp c))) (by decide) ?_
    exact ⟨rfl, S, rfl, sG_r S, hv⟩
set_option maxHeartbeats 1000000 in
set_option maxRecDepth 100000 in
theorem cworn0 (hv : vX S v) (hT : tX S T) {d tt key : Int} (hd : 0 ≤ d ∧ d < v.1 1) (htt : rI tt) (hkey : rI key) : zEv X 12 mX9_worn [zR 0, zI d, zI 0, zI tt, zI key] (cX S ++ t) (zTp S t (pWorn v T d 0 tt key)) := by
  unfold pWorn pFaces
  rw [if_pos hd]
  rw [if_pos (by omega)]
  have hb := hT.1 0
  have hR : tR (S.1 18) (S.1 19) (S.1 20) (S.2.1 10) (T 0) := hT.2.1
  obtain ⟨r1, r2, r3, r4⟩ := hR
  have hfaces : tH (T 0).2.1 (T 0).2.2 = 1 → (1 ≤ (T 0).2.1 ∧ (T 0).2.1 ≤ 5) ∧ ∀ i : Int, 0 ≤ i → i < (T 0).2.1 → 1 ≤ (T 0).2.2 i.toNat ∧ (T 0).2.2 i.toNat ≤ 6 := by
    intro q
    unfold tH at q
    by_cases c : 1 ≤ (T 0).2.1 ∧ (T 0).2.1 ≤ 5
    · rw [if_pos c] at q
      exact ⟨c, fun i i0 i1 => tAll_f q i i0 (by omega)⟩
    · rw [if_neg c] at q
      omega
  have ht01 : tH (T 0).2.1 (T 0).2.2 = 0 ∨ tH (T 0).2.1 (T 0).2.2 = 1 := by
    unfold tH
    split
    · exact tAll_01 _ _ _
    · exact Or.inl rfl
  by_cases c : ¬ (T 0).1 = -1
  · rw [if_pos c]
    by_cases c2 : tH (T 0).2.1 (T 0).2.2 = 1
    · rw [if_pos c2]
      refine zEv_run gX9_worn 60 [] rfl ?_
      refine zCl_e (nd_t hv hd) (by decide) ?_
      refine zCl_e (ndt0_t (r2 c).1) (by decide) ?_
      refine zCl_e (nfc0_t (by omega) (by rw [r4]; exact hb.2.2) (by rw [r3, r4]; exact c2)) (by decide) ?_
      refine zCl_t (wrh0 hv ⟨r3, r4⟩ (hfaces c2).1 (hfaces c2).2 hd htt hkey) (by decide) ?_
      intro R f1 hv1
      exact ⟨rfl, R, rfl, sG_f f1, hv1⟩
    · rw [if_neg c2]
      refine zEv_run gX9_worn 60 [] rfl ?_
      refine zCl_e (nd_t hv hd) (by decide) ?_
      refine zCl_e (ndt0_t (r2 c).1) (by decide) ?_
      refine zCl_e (nfc0_f (by omega) (by rw [r4]; exact hb.2.2) (by rw [r3, r4]; omega)) (by decide) ?_
      exact ⟨rfl, S, rfl, sG_r S, hv⟩
  · rw [if_neg c]
    refine zEv_run gX9_worn 40 [] rfl ?_
    refine zCl_e (nd_t hv hd) (by decide) ?_
    refine zCl_e (ndt0_f (r1 (Decidable.not_not.mp c))) (by decide) ?_
    exact ⟨rfl, S, rfl, sG_r S, hv⟩
set_option maxHeartbeats 1000000 in
set_option maxRecDepth 100000 in
theorem ctray0 (hT : tX S T) {so mn : Int} (hso : rI so) (hmn : rI mn) : zEv X 12 mX9_tray [zR 0, zI 0, zI so, zI mn] (cX S ++ t) (zTt S t (zVr (pTray T 0 so mn).1) (pTray T 0 so mn).2) := by
  unfold pTray
  rw [if_pos (by omega)]
  have hb := hT.1 0
  have hR : tR (S.1 18) (S.1 19) (S.1 20) (S.2.1 10) (T 0) := hT.2.1
  by_cases c : (0 ≤ so ∧ so ≤ 3) ∧ 0 ≤ mn ∧ mn ≤ 30
  · rw [if_pos c]
    refine zEv_run gX9_tray 60 [] rfl ?_
    refine zCl_e (any0) (by decide) ?_
    refine zBrF hso (by omega) ?_
    refine zBrF ⟨hso, by simp only [rI]; omega⟩ (by omega) ?_
    refine zBrF hmn (by omega) ?_
    refine zBrT ⟨hmn, by simp only [rI]; omega⟩ (by omega) ?_
    refine zCl_i (ylb0) (by decide) ?_
    intro o9 h9 q9
    obtain ⟨rfl, f, hf1, hf2, rfl⟩ := q9
    have hf : f = fun k => if k < 30 then 0 else (T 0).2.2 k := by
      funext k
      by_cases q : k < 30
      · rw [if_pos q]
        exact hf1 k q
      · rw [if_neg q, hf2 k (by omega), hR.2.2.2]
    refine ⟨rfl, _, rfl, sH_t (sH_t (sH_t (sH_I S _ (by omega)) (sH_I _ _ (by omega))) (sH_I _ _ (by omega))) (sH_A _ _ (by omega)), tB_up hT.1 _ ⟨⟨by show -1 ≤ so; omega, by show so ≤ 3; omega⟩, c.2, fun k => ?_⟩, ?_, (by (try dsimp only); rw [tUp_o T _ (by decide)]; exact hT.2.2.1), (by (try dsimp only); rw [tUp_o T _ (by decide)]; exact hT.2.2.2.1), (by (try dsimp only); rw [tUp_o T _ (by decide)]; exact hT.2.2.2.2)⟩
    · show rL (if k < 30 then 0 else (T 0).2.2 k)
      split
      · simp only [rL]; omega
      · exact hb.2.2 k
    · (try dsimp only); rw [tUp_s]
      exact ⟨fun q => by have q2 : so = -1 := q; omega, fun _ => ⟨rfl, rfl⟩, rfl, hf⟩
  · rw [if_neg c]
    refine zEv_run gX9_tray 60 [] rfl ?_
    refine zCl_e (any0) (by decide) ?_
    by_cases k1 : so < 0
    · refine zBrT hso k1 ?_
      exact ⟨rfl, S, rfl, sH_r S, hT⟩
    refine zBrF hso k1 ?_
    by_cases k2 : 3 < so
    · refine zBrT ⟨hso, by simp only [rI]; omega⟩ k2 ?_
      exact ⟨rfl, S, rfl, sH_r S, hT⟩
    refine zBrF ⟨hso, by simp only [rI]; omega⟩ k2 ?_
    by_cases k3 : mn < 0
    · refine zBrT hmn k3 ?_
      exact ⟨rfl, S, rfl, sH_r S, hT⟩
    refine zBrF hmn k3 ?_
    refine zBrF ⟨hmn, by simp only [rI]; omega⟩ (by omega) ?_
    exact ⟨rfl, S, rfl, sH_r S, hT⟩
set_option maxHeartbeats 1000000 in
set_option maxRecDepth 100000 in
theorem cwrite0 (hT : tX S T) {p z : Int} (hp : rI p) (hz : rL z) : zEv X 12 mX9_write [zR 0, zI 0, zI p, zJ z] (cX S ++ t) (zTt S t (zJr (pWrite T 0 p z).1) (pWrite T 0 p z).2) := by
  unfold pWrite
  rw [if_pos (by omega)]
  have hb := hT.1 0
  have hR : tR (S.1 18) (S.1 19) (S.1 20) (S.2.1 10) (T 0) := hT.2.1
  obtain ⟨r1, r2, r3, r4⟩ := hR
  by_cases c : ¬ (T 0).1 = -1
  · rw [if_pos c]
    have r5 := (r2 c).2
    by_cases c2 : 0 ≤ p ∧ p < (T 0).2.1
    · rw [if_pos c2]
      refine zEv_run gX9_write 60 [] rfl ?_
      refine zCl_e (ndt0_t (r2 c).1) (by decide) ?_
      refine zBrF hp (by omega) ?_
      refine zBrT ⟨hp, by simp only [rI]; omega⟩ (by omega) ?_
      refine zCl_e (yput0 (by omega) c2.1 (by omega) (by omega)) (by decide) ?_
      have a3 : (sA S 10 (va_up (S.2.1 10) p.toNat (tCut (S.1 19) z))).1 20 = (T 0).2.1 := r3
      refine zCl_e (ynum0 (S := sA S 10 (va_up (S.2.1 10) p.toNat (tCut (S.1 19) z))) (by omega) c2.1 (by omega)) (by decide) ?_
      refine ⟨?_, _, rfl, sH_A _ _ (by omega), tB_up hT.1 _ ⟨hb.1, hb.2.1, tUp_rL hb.2.2 _ (tCut_b hz)⟩, ?_, (by (try dsimp only); rw [tUp_o T _ (by decide)]; exact hT.2.2.1), (by (try dsimp only); rw [tUp_o T _ (by decide)]; exact hT.2.2.2.1), (by (try dsimp only); rw [tUp_o T _ (by decide)]; exact hT.2.2.2.2)⟩
      · show (Sum.inl (some (zJ (va_up (S.2.1 10) p.toNat (tCut (S.1 19) z) p.toNat))) : zO) = Sum.inl (some (zJ (tCut (T 0).1 z)))
        rw [va_up_s, r5]
      · (try dsimp only); rw [tUp_s]
        refine ⟨r1, r2, r3, ?_⟩
        show va_up (S.2.1 10) p.toNat (tCut (S.1 19) z) = va_up (T 0).2.2 p.toNat (tCut (T 0).1 z)
        rw [r4, r5]
    · rw [if_neg c2]
      refine zEv_run gX9_write 60 [] rfl ?_
      refine zCl_e (ndt0_t (r2 c).1) (by decide) ?_
      by_cases k1 : p < 0
      · refine zBrT hp k1 ?_
        exact ⟨rfl, S, rfl, sH_r S, hT⟩
      · refine zBrF hp k1 ?_
        refine zBrF ⟨hp, by simp only [rI]; omega⟩ (by omega) ?_
        exact ⟨rfl, S, rfl, sH_r S, hT⟩
  · rw [if_neg c]
    refine zEv_run gX9_write 40 [] rfl ?_
    refine zCl_e (ndt0_f (r1 (Decidable.not_not.mp c))) (by decide) ?_
    exact ⟨rfl, S, rfl, sH_r S, hT⟩
set_option maxHeartbeats 1000000 in
set_option maxRecDepth 100000 in
theorem cpour0 (hv : vX S v) (hT : tX S T) : zEv X 12 mX9_pour [zR 0, zI 0] (cX S ++ t) (zTt S t (zIr (pPour v T 0).1) (pPour v T 0).2) := by
  unfold pPour
  rw [if_pos (by omega)]
  have hb := hT.1 0
  have hR : tR (S.1 18) (S.1 19) (S.1 20) (S.2.1 10) (T 0) := hT.2.1
  obtain ⟨r1, r2, r3, r4⟩ := hR
  have h4 := hv.1.2.2.2.2.1
  have e4 : S.1 16 = v.1 4 := hv.2.2.2.2.2.1
  have h1 := hv.1.2.1
  have e1 : S.1 13 = v.1 1 := hv.2.2.1
  have h2 := hv.1.2.2.1
  have e2 : S.1 14 = v.1 2 := hv.2.2.2.1
  by_cases c : ¬ (T 0).1 = -1
  · rw [if_pos c]
    have r5 := (r2 c).2
    have lp : ∀ (k : Nat) (i : Int) (f : Nat → Int), 0 ≤ i → f = vPu v (T 0).1 (T 0).2.2 i → (∀ j, rL (f j)) → i + k = min (T 0).2.1 (v.1 4) → zWP X mX9_pour 12 (zTt S t (.inl (some (zI (min (T 0).2.1 (v.1 4))))) (tUp T 0 ((T 0).1, (T 0).2.1, vPu v (T 0).1 (T 0).2.2 (min (T 0).2.1 (v.1 4))))) 24 [some (zR 0), some (zI 0), some (zR 20), some (zI (min (T 0).2.1 (v.1 4))), some (zI i)] [] (cX (sA S 10 f) ++ t) 0 0 := by
      intro k
      induction k with
      | zero =>
        intro i f i0 hf hr hk
        refine zWP_run gX9_pour 60 [24] ?_
        refine zBrT (by simp only [rI]; omega) (by omega) ?_
        refine ⟨rfl, _, rfl, sH_A _ _ (by omega), tB_up hT.1 _ ⟨hb.1, hb.2.1, ?_⟩, ?_, (by (try dsimp only); rw [tUp_o T _ (by decide)]; exact hT.2.2.1), (by (try dsimp only); rw [tUp_o T _ (by decide)]; exact hT.2.2.2.1), (by (try dsimp only); rw [tUp_o T _ (by decide)]; exact hT.2.2.2.2)⟩
        · intro q
          show rL (vPu v (T 0).1 (T 0).2.2 (min (T 0).2.1 (v.1 4)) q)
          rw [← show i = min (T 0).2.1 (v.1 4) by omega, ← hf]
          exact hr q
        · (try dsimp only); rw [tUp_s]
          refine ⟨r1, r2, r3, ?_⟩
          show f = vPu v (T 0).1 (T 0).2.2 (min (T 0).2.1 (v.1 4))
          rw [hf, show i = min (T 0).2.1 (v.1 4) by omega]
      | succ k ih =>
        intro i f i0 hf hr hk
        have hv2 : vX (sA S 10 f) v := hv
        have hfb := hv.1.2.2.2.2.2.2 i i0 (by omega)
        have a3 : (sA S 10 f).1 20 = (T 0).2.1 := r3
        have a5 : (sA S 10 f).1 19 = (T 0).1 := r5
        refine zWP_run gX9_pour 60 [24] ?_
        refine zBrF (by simp only [rI]; omega) (by omega) ?_
        refine zCl_e (gfk hv2 i0 (by omega)) (by decide) ?_
        refine mVc_i (by simp only [rI]; omega) ?_
        refine zCl_e (yput0 (S := sA S 10 f) (by omega) i0 (by omega) (by omega)) (by decide) ?_
        have k3 := ih (i + 1) (va_up f i.toNat (tCut ((sA S 10 f).1 19) (v.2.2.2.2.1 i))) (by omega) (by rw [vPu_s v _ _ i0, ← hf, a5]) (tUp_rL hr _ (tCut_b (by simp only [rL]; omega))) (by omega)
        have e9 : sA (sA S 10 f) 10 (va_up ((sA S 10 f).2.1 10) i.toNat (tCut ((sA S 10 f).1 19) (v.2.2.2.2.1 i))) = sA S 10 (va_up f i.toNat (tCut ((sA S 10 f).1 19) (v.2.2.2.2.1 i))) := by
          have e8 : (sA S 10 f).2.1 10 = f := va_up_s S.2.1 10 f
          rw [e8]
          show (S.1, va_up (va_up S.2.1 10 f) 10 _, S.2.2) = (S.1, va_up S.2.1 10 _, S.2.2)
          congr 2
          funext r
          by_cases q : r = 10
          · rw [q, va_up_s, va_up_s]
          · rw [va_up_o _ _ q, va_up_o _ _ q, va_up_o _ _ q]
        rw [e9]
        exact k3
    refine zEv_run gX9_pour 60 [24] rfl ?_
    refine zCl_e (ndt0_t (r2 c).1) (by decide) ?_
    refine mVc_i (by simp only [rI]; omega) ?_
    have e7 : min (S.1 20) (S.1 16) = min (T 0).2.1 (v.1 4) := by rw [r3, e4]
    rw [e7]
    have k4 := lp (min (T 0).2.1 (v.1 4)).toNat 0 (S.2.1 10) (by omega) (by rw [r4]; rfl) (by rw [r4]; exact hb.2.2) (by omega)
    have e9 : sA S 10 (S.2.1 10) = S := by
      show (S.1, va_up S.2.1 10 _, S.2.2) = S
      have e8 : va_up S.2.1 10 (S.2.1 10) = S.2.1 := by
        funext r
        by_cases q : r = 10
        · rw [q, va_up_s]
        · rw [va_up_o _ _ q]
      rw [e8]
    rw [e9] at k4
    exact k4
  · rw [if_neg c]
    refine zEv_run gX9_pour 40 [] rfl ?_
    refine zCl_e (ndt0_f (r1 (Decidable.not_not.mp c))) (by decide) ?_
    exact ⟨rfl, S, rfl, sH_r S, hT⟩
end Trays
