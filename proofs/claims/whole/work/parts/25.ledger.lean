/-! Ledger; Beating -/
/-- locals that are not read any more -/
def zFg : List (Option zV) → List (Option zV) → Prop
  | [], _ => True
  | none :: r, _ :: q => zFg r q
  | some a :: r, b :: q => b = some a ∧ zFg r q
  | _ :: _, [] => False
theorem zFg_ok : ∀ {L L2 : List (Option zV)}, zFg L L2 → ∀ (k : Nat) (v : zV), L[k]? = some (some v) → L2[k]? = some (some v)
  | [], _, _, k, v, h => by simp at h
  | none :: r, _ :: q, hf, k, v, h => by
    cases k with
    | zero => simp at h
    | succ k => exact zFg_ok (L := r) (L2 := q) hf k v h
  | some a :: r, b :: q, hf, k, v, h => by
    cases k with
    | zero =>
      have e : some a = some v := by simpa using h
      show some b = some (some v)
      rw [hf.1, e]
    | succ k => exact zFg_ok (L := r) (L2 := q) hf.2 k v h
  | none :: _, [], hf, _, _, _ => hf.elim
  | some _ :: _, [], hf, _, _, _ => hf.elim
theorem zWP_fg {X : mX} {M : mM} {d : Nat} {Q : zO → zH → Prop} {pc : Nat} {L L2 : List (Option zV)} {st : List zV} {h : zH} {bc bs : Nat} (k : zWP X M d Q pc L st h bc bs) (hf : zFg L L2) : zWP X M d Q pc L2 st h bc bs := by
  intro p e R s m args below meth c H locs cells slots ad a0 n0 ls hF hG hL
  refine k p e R s m args below meth c H locs cells slots ad a0 n0 ls hF hG ⟨hL.1, hL.2.1, fun i w hw => ?_⟩
  rw [zL_get] at hw
  cases hi : L[i]? with
  | none => rw [hi] at hw; simp at hw
  | some o =>
    cases o with
    | none => rw [hi] at hw; simp at hw
    | some u =>
      rw [hi] at hw
      have hw2 : zT u = w := by simpa using hw
      exact hL.2.2 i w (by rw [zL_get, zFg_ok hf i u hi]; simp [hw2])
def vIt {α : Type} (f : Int → α → α) (a : α) : Nat → α
  | 0 => a
  | k + 1 => f k (vIt f a k)
def zIt {α : Type} (f : Int → α → α) (a : α) (i : Int) : α := vIt f a i.toNat
theorem zIt_0 {α : Type} (f : Int → α → α) (a : α) : zIt f a 0 = a := rfl
theorem zIt_s {α : Type} (f : Int → α → α) (a : α) {i : Int} (h : 0 ≤ i) : zIt f a (i + 1) = f i (zIt f a i) := by
  have e : (i + 1).toNat = i.toNat + 1 := by omega
  have e2 : ((i.toNat : Nat) : Int) = i := by omega
  simp only [zIt, e, vIt, e2]
/-- an invariant of a row of steps -/
theorem zIt_i {α : Type} (f : Int → α → α) (a : α) (P : Int → α → Prop) (h0 : P 0 a) (hs : ∀ i x, 0 ≤ i → P i x → P (i + 1) (f i x)) {i : Int} (h : 0 ≤ i) : P i (zIt f a i) := by
  have hk : ∀ k : Nat, P k (vIt f a k) := by
    intro k
    induction k with
    | zero => exact h0
    | succ k ih => exact hs k _ (by omega) ih
  have := hk i.toNat
  rw [Int.toNat_of_nonneg h] at this
  exact this
/-- how often a die was thrown; by a hand; a die showed a face -/
def vTd (v : vV) (d : Int) : Int := zSum (fun k => if v.2.2.1 k = d then 1 else 0) (v.1 4)
def vTh (v : vV) (q : Int) : Int := zSum (fun k => if v.2.2.2.1 k = q then 1 else 0) (v.1 4)
def vTf (v : vV) (d f : Int) : Int := zSum (fun k => if v.2.2.1 k = d ∧ v.2.2.2.2.1 k = f then 1 else 0) (v.1 4)
def vRw (v : vV) (f : Int) : Int × Int := zIt (fun k x => (max x.1 (if v.2.2.2.2.1 k = f then x.2 + 1 else 0), if v.2.2.2.2.1 k = f then x.2 + 1 else 0)) (0, 0) (v.1 4)
def vAb (z : Int) : Int := max z (-z)
def vOff (v : vV) (d : Int) : Int := zSum (fun i => vAb (6 * vTf v d (i + 1) - vTd v d)) 6
def vLd (v : vV) : Int × Int := zIt (fun d x => if x.2 < vOff v d then (d, vOff v d) else x) (-1, 0) (v.1 1)
theorem zSum_01 {f : Int → Int} (h : ∀ i, f i = 0 ∨ f i = 1) {i n : Int} (h0 : 0 ≤ i) (hi : i ≤ n) : 0 ≤ zSum f i ∧ zSum f i ≤ n := by
  have := zSum_bd (f := f) (c := 1) (n := n) (fun i => by have := h i; omega) h0 hi (by omega)
  omega
theorem vTd_b {v : vV} (h : vVb v) (d : Int) : 0 ≤ vTd v d ∧ vTd v d ≤ 60 := by
  have := h.2.2.2.2.1
  exact zSum_01 (fun i => by by_cases c : v.2.2.1 i = d <;> simp [c]) this.1 this.2
theorem vTf_b {v : vV} (h : vVb v) (d f : Int) : 0 ≤ vTf v d f ∧ vTf v d f ≤ 60 := by
  have := h.2.2.2.2.1
  exact zSum_01 (fun i => by by_cases c : v.2.2.1 i = d ∧ v.2.2.2.2.1 i = f <;> simp [c]) this.1 this.2
theorem vOff_b {v : vV} (h : vVb v) (d : Int) : 0 ≤ vOff v d ∧ vOff v d ≤ 2160 := by
  have h0 := vTd_b h d
  have := zSum_bd (f := fun i => vAb (6 * vTf v d (i + 1) - vTd v d)) (c := 360) (i := 6) (n := 6) (fun i => by
    have h1 := vTf_b h d (i + 1)
    simp only [vAb]
    omega) (by omega) (by omega) (by omega)
  simp only [vOff]
  omega
section Ledger
variable {X : mX} {S : sS} {t : zH} {v : vV}
set_option maxHeartbeats 1000000 in
set_option maxRecDepth 100000 in
theorem ltd (hv : vX S v) {x : Int} (hx : rI x) : zEv X 3 mX3_throwsOfDie [zR 18, zI x] (cX S ++ t) (zIs (.inl (some (zI (vTd v x)))) (cX S ++ t)) := by
  have h4 := hv.1.2.2.2.2.1
  have e4 : S.1 16 = v.1 4 := hv.2.2.2.2.2.1
  have h1 := hv.1.2.1
  have e1 : S.1 13 = v.1 1 := hv.2.2.1
  have h2 := hv.1.2.2.1
  have e2 : S.1 14 = v.1 2 := hv.2.2.2.1
  have lp : ∀ (k : Nat) (i n : Int), 0 ≤ i → n = zSum (fun k => if v.2.2.1 k = x then 1 else 0) i → i + k = v.1 4 → zWP X mX3_throwsOfDie 3 (zIs (.inl (some (zI (vTd v x)))) (cX S ++ t)) 4 [some (zR 18), some (zI x), some (zI n), some (zI i)] [] (cX S ++ t) 0 0 := by
    intro k
    induction k with
    | zero =>
      intro i n g0 hn hk
      refine zWP_run gX3_throwsOfDie 80 [4] ?_
      refine zBrT (by simp only [rI]; omega) (by omega) ?_
      rw [hn, show i = v.1 4 by omega]
      exact ⟨rfl, rfl⟩
    | succ k ih =>
      intro i n g0 hn hk
      refine zWP_run gX3_throwsOfDie 80 [4] ?_
      refine zBrF (by simp only [rI]; omega) (by omega) ?_
      have hb := hv.1.2.2.2.2.2.2 i g0 (by omega)
      refine zCl_e (gdk hv g0 (by omega)) (by decide) ?_
      refine zBr ⟨by simp only [rI]; omega, hx⟩ (fun c => ?_) (fun c => ?_)
      · exact ih (i + 1) (n + 1) (by omega) (by rw [zSum_s g0, ← hn, if_pos c]) (by omega)
      · exact ih (i + 1) (n + 0) (by omega) (by rw [zSum_s g0, ← hn, if_neg c]) (by omega)
  refine zEv_run gX3_throwsOfDie 40 [4] rfl ?_
  exact lp (v.1 4).toNat 0 0 (by omega) rfl (by omega)
set_option maxHeartbeats 1000000 in
set_option maxRecDepth 100000 in
theorem lth (hv : vX S v) {x : Int} (hx : rI x) : zEv X 3 mX3_throwsOfHand [zR 18, zI x] (cX S ++ t) (zIs (.inl (some (zI (vTh v x)))) (cX S ++ t)) := by
  have h4 := hv.1.2.2.2.2.1
  have e4 : S.1 16 = v.1 4 := hv.2.2.2.2.2.1
  have h1 := hv.1.2.1
  have e1 : S.1 13 = v.1 1 := hv.2.2.1
  have h2 := hv.1.2.2.1
  have e2 : S.1 14 = v.1 2 := hv.2.2.2.1
  have lp : ∀ (k : Nat) (i n : Int), 0 ≤ i → n = zSum (fun k => if v.2.2.2.1 k = x then 1 else 0) i → i + k = v.1 4 → zWP X mX3_throwsOfHand 3 (zIs (.inl (some (zI (vTh v x)))) (cX S ++ t)) 4 [some (zR 18), some (zI x), some (zI n), some (zI i)] [] (cX S ++ t) 0 0 := by
    intro k
    induction k with
    | zero =>
      intro i n g0 hn hk
      refine zWP_run gX3_throwsOfHand 80 [4] ?_
      refine zBrT (by simp only [rI]; omega) (by omega) ?_
      rw [hn, show i = v.1 4 by omega]
      exact ⟨rfl, rfl⟩
    | succ k ih =>
      intro i n g0 hn hk
      refine zWP_run gX3_throwsOfHand 80 [4] ?_
      refine zBrF (by simp only [rI]; omega) (by omega) ?_
      have hb := hv.1.2.2.2.2.2.2 i g0 (by omega)
      refine zCl_e (ghk hv g0 (by omega)) (by decide) ?_
      refine zBr ⟨by simp only [rI]; omega, hx⟩ (fun c => ?_) (fun c => ?_)
      · exact ih (i + 1) (n + 1) (by omega) (by rw [zSum_s g0, ← hn, if_pos c]) (by omega)
      · exact ih (i + 1) (n + 0) (by omega) (by rw [zSum_s g0, ← hn, if_neg c]) (by omega)
  refine zEv_run gX3_throwsOfHand 40 [4] rfl ?_
  exact lp (v.1 4).toNat 0 0 (by omega) rfl (by omega)
set_option maxHeartbeats 1000000 in
set_option maxRecDepth 100000 in
theorem ltf (hv : vX S v) {x f : Int} (hx : rI x) (hf : rI f) : zEv X 3 mX3_timesShown [zR 18, zI x, zI f] (cX S ++ t) (zIs (.inl (some (zI (vTf v x f)))) (cX S ++ t)) := by
  have h4 := hv.1.2.2.2.2.1
  have e4 : S.1 16 = v.1 4 := hv.2.2.2.2.2.1
  have h1 := hv.1.2.1
  have e1 : S.1 13 = v.1 1 := hv.2.2.1
  have h2 := hv.1.2.2.1
  have e2 : S.1 14 = v.1 2 := hv.2.2.2.1
  have lp : ∀ (k : Nat) (i n : Int), 0 ≤ i → n = zSum (fun k => if v.2.2.1 k = x ∧ v.2.2.2.2.1 k = f then 1 else 0) i → i + k = v.1 4 → zWP X mX3_timesShown 3 (zIs (.inl (some (zI (vTf v x f)))) (cX S ++ t)) 5 [some (zR 18), some (zI x), some (zI f), some (zI n), some (zI i)] [] (cX S ++ t) 0 0 := by
    intro k
    induction k with
    | zero =>
      intro i n g0 hn hk
      refine zWP_run gX3_timesShown 80 [5] ?_
      refine zBrT (by simp only [rI]; omega) (by omega) ?_
      rw [hn, show i = v.1 4 by omega]
      exact ⟨rfl, rfl⟩
    | succ k ih =>
      intro i n g0 hn hk
      refine zWP_run gX3_timesShown 80 [5] ?_
      refine zBrF (by simp only [rI]; omega) (by omega) ?_
      have hb := hv.1.2.2.2.2.2.2 i g0 (by omega)
      refine zCl_e (gdk hv g0 (by omega)) (by decide) ?_
      refine zBr ⟨by simp only [rI]; omega, hx⟩ (fun c => ?_) (fun c => ?_)
      · refine zCl_e (gfk hv g0 (by omega)) (by decide) ?_
        refine zBr ⟨by simp only [rI]; omega, hf⟩ (fun c2 => ?_) (fun c2 => ?_)
        · exact ih (i + 1) (n + 1) (by omega) (by rw [zSum_s g0, ← hn, if_pos ⟨c, c2⟩]) (by omega)
        · exact ih (i + 1) (n + 0) (by omega) (by rw [zSum_s g0, ← hn, if_neg (fun q => c2 q.2)]) (by omega)
      · exact ih (i + 1) (n + 0) (by omega) (by rw [zSum_s g0, ← hn, if_neg (fun q => c q.1)]) (by omega)
  refine zEv_run gX3_timesShown 40 [5] rfl ?_
  exact lp (v.1 4).toNat 0 0 (by omega) rfl (by omega)
set_option maxHeartbeats 1000000 in
set_option maxRecDepth 100000 in
theorem lrow (hv : vX S v) {f : Int} (hf : rI f) : zEv X 3 mX3_longestRow [zR 18, zI f] (cX S ++ t) (zIs (.inl (some (zI ((vRw v f).1)))) (cX S ++ t)) := by
  have h4 := hv.1.2.2.2.2.1
  have e4 : S.1 16 = v.1 4 := hv.2.2.2.2.2.1
  have h1 := hv.1.2.1
  have e1 : S.1 13 = v.1 1 := hv.2.2.1
  have h2 := hv.1.2.2.1
  have e2 : S.1 14 = v.1 2 := hv.2.2.2.1
  have lp : ∀ (k : Nat) (i a b : Int), 0 ≤ i → (a, b) = zIt (fun k x => (max x.1 (if v.2.2.2.2.1 k = f then x.2 + 1 else 0), if v.2.2.2.2.1 k = f then x.2 + 1 else 0)) (0, 0) i → 0 ≤ a ∧ a ≤ i → 0 ≤ b ∧ b ≤ i → i + k = v.1 4 → zWP X mX3_longestRow 3 (zIs (.inl (some (zI ((vRw v f).1)))) (cX S ++ t)) 7 [some (zR 18), some (zI f), some (zI a), some (zI b), some (zI i)] [] (cX S ++ t) 0 0 := by
    intro k
    induction k with
    | zero =>
      intro i a b g0 hn ha hb0 hk
      refine zWP_run gX3_longestRow 80 [7] ?_
      refine zBrT (by simp only [rI]; omega) (by omega) ?_
      rw [vRw, ← show i = v.1 4 by omega, ← hn]
      exact ⟨rfl, rfl⟩
    | succ k ih =>
      intro i a b g0 hn ha hb0 hk
      refine zWP_run gX3_longestRow 80 [7] ?_
      refine zBrF (by simp only [rI]; omega) (by omega) ?_
      have hb := hv.1.2.2.2.2.2.2 i g0 (by omega)
      refine zCl_e (gfk hv g0 (by omega)) (by decide) ?_
      refine zBr ⟨by simp only [rI]; omega, hf⟩ (fun c => ?_) (fun c => ?_)
      · refine mVc_i (by simp only [rI]; omega) ?_
        exact ih (i + 1) _ _ (by omega) (by rw [zIt_s _ _ g0, ← hn, if_pos c]) (by omega) (by omega) (by omega)
      · refine mVc_i (by simp only [rI]; omega) ?_
        exact ih (i + 1) _ _ (by omega) (by rw [zIt_s _ _ g0, ← hn, if_neg c]) (by omega) (by omega) (by omega)
  refine zEv_run gX3_longestRow 40 [7] rfl ?_
  exact lp (v.1 4).toNat 0 0 0 (by omega) rfl (by omega) (by omega) (by omega)
set_option maxHeartbeats 1000000 in
set_option maxRecDepth 100000 in
theorem loff (hv : vX S v) {x : Int} (hx : rI x) : zEv X 4 mX3_howFarOff [zR 18, zI x] (cX S ++ t) (zIs (.inl (some (zI (vOff v x)))) (cX S ++ t)) := by
  have hd := vTd_b hv.1 x
  have lp : ∀ (k : Nat) (i n : Int), 0 ≤ i → n = zSum (fun i => vAb (6 * vTf v x (i + 1) - vTd v x)) i → i + k = 6 → zWP X mX3_howFarOff 4 (zIs (.inl (some (zI (vOff v x)))) (cX S ++ t)) 11 [some (zR 18), some (zI x), some (zI (vTd v x)), some (zI n), some (zI (i + 1))] [] (cX S ++ t) 0 0 := by
    intro k
    induction k with
    | zero =>
      intro i n g0 hn hk
      refine zWP_run gX3_howFarOff 80 [11] ?_
      refine zBrT (by simp only [rI]; omega) (by omega) ?_
      rw [hn, show i = 6 by omega]
      exact ⟨rfl, rfl⟩
    | succ k ih =>
      intro i n g0 hn hk
      refine zWP_run gX3_howFarOff 80 [11] ?_
      refine zBrF (by simp only [rI]; omega) (by omega) ?_
      have hb := vTf_b hv.1 x (i + 1)
      refine zCl_e (ltf hv hx (by simp only [rI]; omega)) (by decide) ?_
      refine mVc_i (by simp only [rI]; omega) ?_
      exact ih (i + 1) _ (by omega) (by rw [zSum_s g0, ← hn]; rfl) (by omega)
  refine zEv_run gX3_howFarOff 40 [11] rfl ?_
  refine zCl_e (ltd hv hx) (by decide) ?_
  exact lp 6 0 0 (by omega) rfl (by omega)
set_option maxHeartbeats 1000000 in
set_option maxRecDepth 100000 in
theorem lfar (hv : vX S v) : zEv X 5 mX3_farthestOff [zR 18] (cX S ++ t) (zIs (.inl (some (zI ((vLd v).1)))) (cX S ++ t)) := by
  have h4 := hv.1.2.2.2.2.1
  have e4 : S.1 16 = v.1 4 := hv.2.2.2.2.2.1
  have h1 := hv.1.2.1
  have e1 : S.1 13 = v.1 1 := hv.2.2.1
  have h2 := hv.1.2.2.1
  have e2 : S.1 14 = v.1 2 := hv.2.2.2.1
  have lp : ∀ (k : Nat) (i a b : Int), 0 ≤ i → (a, b) = zIt (fun d x => if x.2 < vOff v d then (d, vOff v d) else x) (-1, 0) i → 0 ≤ b ∧ b ≤ 2160 → i + k = v.1 1 → zWP X mX3_farthestOff 5 (zIs (.inl (some (zI ((vLd v).1)))) (cX S ++ t)) 6 [some (zR 18), some (zI a), some (zI b), some (zI i), none] [] (cX S ++ t) 0 0 := by
    intro k
    induction k with
    | zero =>
      intro i a b g0 hn hb0 hk
      refine zWP_run gX3_farthestOff 80 [6] ?_
      refine zBrT (by simp only [rI]; omega) (by omega) ?_
      rw [vLd, ← show i = v.1 1 by omega, ← hn]
      exact ⟨rfl, rfl⟩
    | succ k ih =>
      intro i a b g0 hn hb0 hk
      refine zWP_run gX3_farthestOff 80 [6] ?_
      refine zBrF (by simp only [rI]; omega) (by omega) ?_
      have hb := vOff_b hv.1 i
      refine zCl_e (loff hv (by simp only [rI]; omega)) (by decide) ?_
      refine zBr (by simp only [rI]; omega) (fun c => ?_) (fun c => ?_)
      · exact zWP_fg (ih (i + 1) _ _ (by omega) (by rw [zIt_s _ _ g0, ← hn, if_neg (by show ¬ b < _; omega)]) (by omega) (by omega)) (by repeat (first | exact trivial | refine ⟨rfl, ?_⟩))
      · exact zWP_fg (ih (i + 1) _ _ (by omega) (by rw [zIt_s _ _ g0, ← hn, if_pos (by show b < _; omega)]) (by omega) (by omega)) (by repeat (first | exact trivial | refine ⟨rfl, ?_⟩))
  refine zEv_run gX3_farthestOff 40 [6] rfl ?_
  exact lp (v.1 1).toNat 0 (-1) 0 (by omega) rfl (by omega) (by omega)
end Ledger
/-- ways by which a shows more than b; as many -/
def vBt (s : vS) (a b : Int) : Int := s.1 a 2 * s.1 b 1 + s.1 a 3 * (s.1 b 1 + s.1 b 2) + s.1 a 4 * (s.1 b 1 + s.1 b 2 + s.1 b 3) + s.1 a 5 * (s.1 b 1 + s.1 b 2 + s.1 b 3 + s.1 b 4) + s.1 a 6 * (s.1 b 1 + s.1 b 2 + s.1 b 3 + s.1 b 4 + s.1 b 5)
def vTi (s : vS) (a b : Int) : Int := s.1 a 1 * s.1 b 1 + s.1 a 2 * s.1 b 2 + s.1 a 3 * s.1 b 3 + s.1 a 4 * s.1 b 4 + s.1 a 5 * s.1 b 5 + s.1 a 6 * s.1 b 6
theorem mul_b {a b m n : Int} (ha : 0 ≤ a ∧ a ≤ m) (hb : 0 ≤ b ∧ b ≤ n) : 0 ≤ a * b ∧ a * b ≤ m * n := ⟨Int.mul_nonneg ha.1 hb.1, Int.mul_le_mul ha.2 hb.2 hb.1 (by omega)⟩
theorem vBt_b {s : vS} (h : vSb s) (a b : Int) : 0 ≤ vBt s a b ∧ vBt s a b ≤ 6000 := by
  have g1 := h.1 b 1
  have g2 := h.1 b 2
  have g3 := h.1 b 3
  have g4 := h.1 b 4
  have g5 := h.1 b 5
  have q2 := mul_b (h.1 a 2) g1
  have q3 := mul_b (h.1 a 3) (b := s.1 b 1 + s.1 b 2) (n := 40) (by omega)
  have q4 := mul_b (h.1 a 4) (b := s.1 b 1 + s.1 b 2 + s.1 b 3) (n := 60) (by omega)
  have q5 := mul_b (h.1 a 5) (b := s.1 b 1 + s.1 b 2 + s.1 b 3 + s.1 b 4) (n := 80) (by omega)
  have q6 := mul_b (h.1 a 6) (b := s.1 b 1 + s.1 b 2 + s.1 b 3 + s.1 b 4 + s.1 b 5) (n := 100) (by omega)
  simp only [vBt]
  omega
theorem vTi_b {s : vS} (h : vSb s) (a b : Int) : 0 ≤ vTi s a b ∧ vTi s a b ≤ 2400 := by
  have q1 := mul_b (h.1 a 1) (h.1 b 1)
  have q2 := mul_b (h.1 a 2) (h.1 b 2)
  have q3 := mul_b (h.1 a 3) (h.1 b 3)
  have q4 := mul_b (h.1 a 4) (h.1 b 4)
  have q5 := mul_b (h.1 a 5) (h.1 b 5)
  have q6 := mul_b (h.1 a 6) (h.1 b 6)
  simp only [vTi]
  omega
/-- the model's own way to count -/
theorem vBt_m (s : vS) (a b : Int) : vBt s a b = s.1 a 2 * s.1 b 1 + s.1 a 3 * s.1 b 1 + s.1 a 3 * s.1 b 2 + s.1 a 4 * s.1 b 1 + s.1 a 4 * s.1 b 2 + s.1 a 4 * s.1 b 3 + s.1 a 5 * s.1 b 1 + s.1 a 5 * s.1 b 2 + s.1 a 5 * s.1 b 3 + s.1 a 5 * s.1 b 4 + s.1 a 6 * s.1 b 1 + s.1 a 6 * s.1 b 2 + s.1 a 6 * s.1 b 3 + s.1 a 6 * s.1 b 4 + s.1 a 6 * s.1 b 5 := by
  simp only [vBt]
  grind
def vWk (v : vV) (d : Int) : Int := zSum (fun b => if vBt v.2.1 b d < vBt v.2.1 d b then 1 else 0) (v.1 1)
def vStg (v : vV) : Int × Int := zIt (fun d x => if ¬ vTot v.2.1 d = 0 ∧ x.2 < vWk v d then (d, vWk v d) else x) (-1, -1) (v.1 1)
theorem vWk_b {v : vV} (h : vVb v) (d : Int) : 0 ≤ vWk v d ∧ vWk v d ≤ 5 := by
  have := h.2.1
  have := zSum_01 (f := fun b => if vBt v.2.1 b d < vBt v.2.1 d b then 1 else 0) (fun i => by by_cases c : vBt v.2.1 i d < vBt v.2.1 d i <;> simp [c]) this.1 this.2
  exact this
section Beating
variable {X : mX} {S : sS} {t : zH} {v : vV}
set_option maxHeartbeats 1000000 in
set_option maxRecDepth 100000 in
theorem bbt (hv : vX S v) {a b : Int} (ha : 0 ≤ a ∧ a < v.1 1) (hb : 0 ≤ b ∧ b < v.1 1) : zEv X 2 mX0_waysToBeat [zR 14, zI a, zI b] (cX S ++ t) (zIs (.inl (some (zI (vBt v.2.1 a b)))) (cX S ++ t)) := by
  refine zEv_run gX0_waysToBeat 400 [] rfl ?_
  repeat (first
    | refine zBrF (by simp only [rI]; omega) (by omega) ?_
    | refine zBrT (by simp only [rI]; omega) (by omega) ?_
    | refine zCl_e (gw hv ha.1 ha.2 (by omega) (by omega)) (by decide) ?_
    | refine zCl_e (gw hv hb.1 hb.2 (by omega) (by omega)) (by decide) ?_
    | refine mVc_i (by first | omega | (simp only [rI]; omega)) ?_)
  refine ⟨?_, rfl⟩
  simp only [vBt, Int.zero_add, Int.mul_zero]
  rfl
set_option maxHeartbeats 1000000 in
set_option maxRecDepth 100000 in
theorem bti (hv : vX S v) {a b : Int} (ha : 0 ≤ a ∧ a < v.1 1) (hb : 0 ≤ b ∧ b < v.1 1) : zEv X 2 mX0_waysToTie [zR 14, zI a, zI b] (cX S ++ t) (zIs (.inl (some (zI (vTi v.2.1 a b)))) (cX S ++ t)) := by
  refine zEv_run gX0_waysToTie 400 [] rfl ?_
  repeat (first
    | refine zBrF (by simp only [rI]; omega) (by omega) ?_
    | refine zBrT (by simp only [rI]; omega) (by omega) ?_
    | refine zCl_e (gw hv ha.1 ha.2 (by omega) (by omega)) (by decide) ?_
    | refine zCl_e (gw hv hb.1 hb.2 (by omega) (by omega)) (by decide) ?_
    | refine mVc_i (by first | omega | (simp only [rI]; omega)) ?_)
  refine ⟨?_, rfl⟩
  simp only [vTi, Int.zero_add]
  rfl
set_option maxHeartbeats 1000000 in
set_option maxRecDepth 100000 in
theorem bbe (hv : vX S v) {a b : Int} (ha : 0 ≤ a ∧ a < v.1 1) (hb : 0 ≤ b ∧ b < v.1 1) : zEv X 3 mX0_isBetter [zR 14, zI a, zI b] (cX S ++ t) (zIs (.inl (some (zI (if vBt v.2.1 b a < vBt v.2.1 a b then 1 else 0)))) (cX S ++ t)) := by
  have q1 := vBt_b hv.1.2.2.2.2.2.1 a b
  have q2 := vBt_b hv.1.2.2.2.2.2.1 b a
  refine zEv_run gX0_isBetter 40 [] rfl ?_
  refine zCl_e (bbt hv ha hb) (by decide) ?_
  refine zCl_e (bbt hv hb ha) (by decide) ?_
  refine zBr (by simp only [rI]; omega) (fun c => ?_) (fun c => ?_)
  · rw [if_neg (by omega)]
    exact mVc_i (Or.inl rfl) ⟨rfl, rfl⟩
  · rw [if_pos (by omega)]
    exact mVc_i (Or.inr rfl) ⟨rfl, rfl⟩
set_option maxHeartbeats 1000000 in
set_option maxRecDepth 100000 in
theorem bwk (hv : vX S v) {a : Int} (ha : 0 ≤ a ∧ a < v.1 1) : zEv X 4 mX0_weakerOnes [zR 14, zI a] (cX S ++ t) (zIs (.inl (some (zI (vWk v a)))) (cX S ++ t)) := by
  have h4 := hv.1.2.2.2.2.1
  have e4 : S.1 16 = v.1 4 := hv.2.2.2.2.2.1
  have h1 := hv.1.2.1
  have e1 : S.1 13 = v.1 1 := hv.2.2.1
  have h2 := hv.1.2.2.1
  have e2 : S.1 14 = v.1 2 := hv.2.2.2.1
  have lp : ∀ (k : Nat) (i n : Int), 0 ≤ i → n = zSum (fun b => if vBt v.2.1 b a < vBt v.2.1 a b then 1 else 0) i → i + k = v.1 1 → zWP X mX0_weakerOnes 4 (zIs (.inl (some (zI (vWk v a)))) (cX S ++ t)) 4 [some (zR 14), some (zI a), some (zI n), some (zI i)] [] (cX S ++ t) 0 0 := by
    intro k
    induction k with
    | zero =>
      intro i n g0 hn hk
      refine zWP_run gX0_weakerOnes 80 [4] ?_
      refine zBrT (by simp only [rI]; omega) (by omega) ?_
      rw [hn, show i = v.1 1 by omega]
      exact ⟨rfl, rfl⟩
    | succ k ih =>
      intro i n g0 hn hk
      refine zWP_run gX0_weakerOnes 80 [4] ?_
      refine zBrF (by simp only [rI]; omega) (by omega) ?_
      refine zCl_e (bbe hv ha ⟨g0, by omega⟩) (by decide) ?_
      refine zBb (fun c => ?_) (fun c => ?_)
      · exact ih (i + 1) (n + 0) (by omega) (by rw [zSum_s g0, ← hn, if_neg c]) (by omega)
      · exact ih (i + 1) (n + 1) (by omega) (by rw [zSum_s g0, ← hn, if_pos c]) (by omega)
  refine zEv_run gX0_weakerOnes 40 [4] rfl ?_
  exact lp (v.1 1).toNat 0 0 (by omega) rfl (by omega)
set_option maxHeartbeats 1000000 in
set_option maxRecDepth 100000 in
theorem bstg (hv : vX S v) : zEv X 5 mX0_strongestDie [zR 14] (cX S ++ t) (zIs (.inl (some (zI ((vStg v).1)))) (cX S ++ t)) := by
  have h4 := hv.1.2.2.2.2.1
  have e4 : S.1 16 = v.1 4 := hv.2.2.2.2.2.1
  have h1 := hv.1.2.1
  have e1 : S.1 13 = v.1 1 := hv.2.2.1
  have h2 := hv.1.2.2.1
  have e2 : S.1 14 = v.1 2 := hv.2.2.2.1
  have lp : ∀ (k : Nat) (i a b : Int), 0 ≤ i → (a, b) = zIt (fun d x => if ¬ vTot v.2.1 d = 0 ∧ x.2 < vWk v d then (d, vWk v d) else x) (-1, -1) i → -1 ≤ b ∧ b ≤ 5 → i + k = v.1 1 → zWP X mX0_strongestDie 5 (zIs (.inl (some (zI ((vStg v).1)))) (cX S ++ t)) 6 [some (zR 14), some (zI a), some (zI b), some (zI i), none] [] (cX S ++ t) 0 0 := by
    intro k
    induction k with
    | zero =>
      intro i a b g0 hn hb0 hk
      refine zWP_run gX0_strongestDie 80 [6] ?_
      refine zBrT (by simp only [rI]; omega) (by omega) ?_
      rw [vStg, ← show i = v.1 1 by omega, ← hn]
      exact ⟨rfl, rfl⟩
    | succ k ih =>
      intro i a b g0 hn hb0 hk
      refine zWP_run gX0_strongestDie 80 [6] ?_
      refine zBrF (by simp only [rI]; omega) (by omega) ?_
      have hb := vWk_b hv.1 i
      refine zCl_e (bwk hv ⟨g0, by omega⟩) (by decide) ?_
      refine zCl_e (ggone hv g0 (by omega)) (by decide) ?_
      refine zBb (fun c0 => ?_) (fun c0 => ?_)
      · refine zBr (by simp only [rI]; omega) (fun c => ?_) (fun c => ?_)
        · exact zWP_fg (ih (i + 1) _ _ (by omega) (by rw [zIt_s _ _ g0, ← hn, if_neg (by intro q; have q2 : b < vWk v i := q.2; omega)]) (by omega) (by omega)) (by repeat (first | exact trivial | refine ⟨rfl, ?_⟩))
        · exact zWP_fg (ih (i + 1) _ _ (by omega) (by rw [zIt_s _ _ g0, ← hn, if_pos ⟨c0, by show b < _; omega⟩]) (by omega) (by omega)) (by repeat (first | exact trivial | refine ⟨rfl, ?_⟩))
      · exact zWP_fg (ih (i + 1) _ _ (by omega) (by rw [zIt_s _ _ g0, ← hn, if_neg (fun q => q.1 c0)]) (by omega) (by omega)) (by repeat (first | exact trivial | refine ⟨rfl, ?_⟩))
  refine zEv_run gX0_strongestDie 40 [6] rfl ?_
  exact lp (v.1 1).toNat 0 (-1) (-1) (by omega) rfl (by omega) (by omega)
end Beating
