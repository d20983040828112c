/-! Game: throws, undone ones, ants, lots -/
theorem zBb {P a b : Prop} [Decidable P] (ha : ¬ P → a) (hb : P → b) : mVc (rI (if P then 1 else 0)) (mBr ((if P then (1 : Int) else 0) = 0) a b) := by
  by_cases c : P
  · simp only [c, if_true]
    exact zBrF (by simp only [rI]; omega) (by omega) (hb c)
  · simp only [c, if_false]
    exact ⟨by simp only [rI]; omega, fun _ => ha c, fun q => (q trivial).elim⟩
theorem rI_1 : rI 1 := ⟨by omega, by omega⟩
/-- what the game and the rows for counting may change, all else stays -/
def sF (S R : sS) : Prop := (∀ i, (i < 12 ∨ 16 < i) → R.1 i = S.1 i) ∧ (∀ r, (r < 2 ∨ 9 < r) → R.2.1 r = S.2.1 r) ∧ R.2.2 = S.2.2
theorem sF_r (S : sS) : sF S S := ⟨fun _ _ => rfl, fun _ _ => rfl, rfl⟩
theorem sF_t {S R Q : sS} (h : sF S R) (k : sF R Q) : sF S Q := ⟨fun i hi => by rw [k.1 i hi, h.1 i hi], fun i hi => by rw [k.2.1 i hi, h.2.1 i hi], by rw [k.2.2, h.2.2]⟩
theorem sF_A (S : sS) {r : Nat} (f : Nat → Int) (h : 2 ≤ r ∧ r ≤ 9) : sF S (sA S r f) := ⟨fun _ _ => rfl, fun i hi => va_up_o _ _ (by omega), rfl⟩
theorem sF_I (S : sS) {r : Nat} (z : Int) (h : 12 ≤ r ∧ r ≤ 16) : sF S (sI S r z) := ⟨fun i hi => va_up_o _ _ (by omega), fun _ _ => rfl, rfl⟩
/-- the same, and the seed of the draws may change too -/
def sG (S R : sS) : Prop := (∀ i, (i < 12 ∨ 17 < i) → R.1 i = S.1 i) ∧ (∀ r, (r < 2 ∨ 9 < r) → R.2.1 r = S.2.1 r) ∧ R.2.2 = S.2.2
theorem sG_f {S R : sS} (h : sF S R) : sG S R := ⟨fun i hi => h.1 i (by omega), h.2.1, h.2.2⟩
theorem sG_r (S : sS) : sG S S := ⟨fun _ _ => rfl, fun _ _ => rfl, rfl⟩
theorem sG_t {S R Q : sS} (h : sG S R) (k : sG R Q) : sG S Q := ⟨fun i hi => by rw [k.1 i hi, h.1 i hi], fun i hi => by rw [k.2.1 i hi, h.2.1 i hi], by rw [k.2.2, h.2.2]⟩
theorem sG_A (S : sS) {r : Nat} (f : Nat → Int) (h : 2 ≤ r ∧ r ≤ 9) : sG S (sA S r f) := ⟨fun _ _ => rfl, fun i hi => va_up_o _ _ (by omega), rfl⟩
theorem sG_I (S : sS) {r : Nat} (z : Int) (h : 12 ≤ r ∧ r ≤ 17) : sG S (sI S r z) := ⟨fun i hi => va_up_o _ _ (by omega), fun _ _ => rfl, rfl⟩
def zTs (S : sS) (t : zH) (o : zO) (v : vV) : zO → zH → Prop := fun o9 h9 => o9 = o ∧ ∃ R : sS, h9 = cX R ++ t ∧ sG S R ∧ vX R v
theorem zCl_s {X : mX} {d d2 : Nat} {S : sS} {t : zH} {v : vV} {o : zO} {M2 : mM} {as : List zV} {h : zH} {K : zO → zH → Prop} (hE : zEv X d2 M2 as h (zTs S t o v)) (hd : d2 < d) (hk : ∀ R, sG S R → vX R v → K o (cX R ++ t)) : zCl X d M2 as h K := ⟨d2, _, hd, hE, fun o9 h9 q => by
  obtain ⟨rfl, R, rfl, a, b⟩ := q
  exact hk R a b⟩
def zTo (S : sS) (t : zH) (o : zO) (v : vV) : zO → zH → Prop := fun o9 h9 => o9 = o ∧ ∃ R : sS, h9 = cX R ++ t ∧ sF S R ∧ vX R v
theorem zCl_t {X : mX} {d d2 : Nat} {S : sS} {t : zH} {v : vV} {o : zO} {M2 : mM} {as : List zV} {h : zH} {K : zO → zH → Prop} (hE : zEv X d2 M2 as h (zTo S t o v)) (hd : d2 < d) (hk : ∀ R, sF S R → vX R v → K o (cX R ++ t)) : zCl X d M2 as h K := ⟨d2, _, hd, hE, fun o9 h9 q => by
  obtain ⟨rfl, R, rfl, a, b⟩ := q
  exact hk R a b⟩
theorem vRow_cg {c c2 : Nat → Int} {a a2 : Nat} {n : Int} {s : vS} (hn : n ≤ 4) (h : ∀ i, i < 39 → c2 (a2 + i) = c (a + i)) (hr : vRow c a n s) : vRow c2 a2 n s := by
  refine ⟨fun d f g0 g1 g2 g3 => ?_, ?_, fun k k0 k1 => ?_, fun k k0 k1 => ?_⟩
  · rw [h _ (by omega)]; exact hr.1 d f g0 g1 g2 g3
  · rw [h _ (by omega)]; exact hr.2.1
  · rw [h _ (by omega)]; exact hr.2.2.1 k k0 k1
  · rw [h _ (by omega)]; exact hr.2.2.2 k k0 k1
def vPush (v : vV) (d q f : Int) : vV := (fun i => if i = 4 then v.1 4 + 1 else v.1 i, v.2.1, fun k => if k = v.1 4 then d else v.2.2.1 k, fun k => if k = v.1 4 then q else v.2.2.2.1 k, fun k => if k = v.1 4 then f else v.2.2.2.2.1 k, fun k => if k = v.1 4 then v.2.1 else v.2.2.2.2.2 k)
def vWr (v : vV) (d f z : Int) : vV := if v.2.1.2.1 d = 1 then v else vW v d f (v.2.1.1 d f - min (v.2.1.1 d f) z)
def vGo (v : vV) (d q f : Int) : vV := vHt (vWr (vPush v d q f) d f (v.2.1.2.2.1 q)) q (min (v.2.1.2.2.1 q + 1) 9)
def vUn (v : vV) (n : Int) : vV := if n = 0 then v else (fun i => if i = 4 then v.1 4 - n else v.1 i, v.2.2.2.2.2 (v.1 4 - n), v.2.2)
theorem vW_b {v : vV} (h : vVb v) (d f : Int) {z : Int} (hz : 0 ≤ z ∧ z ≤ 20) : vVb (vW v d f z) := by
  obtain ⟨b0, b1, b2, b3, b4, bs, bh⟩ := h
  refine ⟨b0, b1, b2, b3, b4, ⟨fun d1 f1 => ?_, bs.2⟩, bh⟩
  show 0 ≤ (if d1 = d ∧ f1 = f then z else v.2.1.1 d1 f1) ∧ (if d1 = d ∧ f1 = f then z else v.2.1.1 d1 f1) ≤ 20
  split
  · exact hz
  · exact bs.1 d1 f1
theorem vHt_b {v : vV} (h : vVb v) (q : Int) {z : Int} (hz : 0 ≤ z ∧ z ≤ 9) : vVb (vHt v q z) := by
  obtain ⟨b0, b1, b2, b3, b4, bs, bh⟩ := h
  refine ⟨b0, b1, b2, b3, b4, ⟨bs.1, bs.2.1, fun k => ?_, bs.2.2.2⟩, bh⟩
  show 0 ≤ (if k = q then z else v.2.1.2.2.1 k) ∧ (if k = q then z else v.2.1.2.2.1 k) ≤ 9
  split
  · exact hz
  · exact bs.2.2.1 k
theorem vSl_b {v : vV} (h : vVb v) (d : Int) : vVb (vSl v d) := by
  obtain ⟨b0, b1, b2, b3, b4, bs, bh⟩ := h
  refine ⟨b0, b1, b2, b3, b4, ⟨bs.1, fun d1 => ?_, bs.2.2⟩, bh⟩
  show (if d1 = d then 1 else v.2.1.2.1 d1) = 0 ∨ (if d1 = d then 1 else v.2.1.2.1 d1) = 1
  split
  · exact Or.inr rfl
  · exact bs.2.1 d1
theorem vPush_b {v : vV} (h : vVb v) {d q f : Int} (hd : 0 ≤ d ∧ d < v.1 1) (hq : 0 ≤ q ∧ q < v.1 2) (hf : 1 ≤ f ∧ f ≤ 6) (hr : v.1 4 < 60) : vVb (vPush v d q f) := by
  obtain ⟨b0, b1, b2, b3, b4, bs, bh⟩ := h
  refine ⟨b0, b1, b2, b3, ?_, bs, fun k k0 k1 => ?_⟩
  · show 0 ≤ v.1 4 + 1 ∧ v.1 4 + 1 ≤ 60
    omega
  · have k2 : k < v.1 4 + 1 := k1
    show (0 ≤ (if k = v.1 4 then d else v.2.2.1 k) ∧ (if k = v.1 4 then d else v.2.2.1 k) < v.1 1) ∧ (0 ≤ (if k = v.1 4 then q else v.2.2.2.1 k) ∧ (if k = v.1 4 then q else v.2.2.2.1 k) < v.1 2) ∧ (1 ≤ (if k = v.1 4 then f else v.2.2.2.2.1 k) ∧ (if k = v.1 4 then f else v.2.2.2.2.1 k) ≤ 6) ∧ vSb (if k = v.1 4 then v.2.1 else v.2.2.2.2.2 k)
    by_cases c : k = v.1 4
    · simp only [c, if_true]
      exact ⟨hd, hq, hf, bs⟩
    · simp only [c, if_false]
      exact bh k k0 (by omega)
theorem vUn_b {v : vV} (h : vVb v) {n : Int} (h0 : 0 ≤ n) (h1 : n ≤ v.1 4) : vVb (vUn v n) := by
  by_cases c : n = 0
  · rw [vUn, if_pos c]; exact h
  · rw [vUn, if_neg c]
    obtain ⟨b0, b1, b2, b3, b4, bs, bh⟩ := h
    refine ⟨b0, b1, b2, b3, ?_, (bh (v.1 4 - n) (by omega) (by omega)).2.2.2, fun k k0 k1 => ?_⟩
    · show 0 ≤ v.1 4 - n ∧ v.1 4 - n ≤ 60
      omega
    · have k2 : k < v.1 4 - n := k1
      exact bh k k0 (by omega)
theorem vX_push {S : sS} {v : vV} (hv : vX S v) {d q f : Int} (hd : 0 ≤ d ∧ d < v.1 1) (hq : 0 ≤ q ∧ q < v.1 2) (hf : 1 ≤ f ∧ f ≤ 6) (hr : v.1 4 < 60) : vX (sI (sA (sA S 4 (va_cpy (S.2.1 2) (S.2.1 4) 0 (S.1 16 * 39).toNat 39)) 3 (va_up (S.2.1 3) (S.1 16).toNat (100 * d + 10 * q + f))) 16 (S.1 16 + 1)) (vPush v d q f) := by
  have hb := vPush_b hv.1 hd hq hf hr
  obtain ⟨⟨b0, b1, b2, b3, b4, bs, bh⟩, e0, e1, e2, e3, e4, hrw, hh⟩ := hv
  rw [e4]
  refine ⟨hb, e0, e1, e2, e3, rfl, hrw, fun k k0 k1 => ?_⟩
  have k2 : k < v.1 4 + 1 := k1
  show va_up (S.2.1 3) (v.1 4).toNat (100 * d + 10 * q + f) k.toNat = 100 * (if k = v.1 4 then d else v.2.2.1 k) + 10 * (if k = v.1 4 then q else v.2.2.2.1 k) + (if k = v.1 4 then f else v.2.2.2.2.1 k) ∧ vRow (va_cpy (S.2.1 2) (S.2.1 4) 0 (v.1 4 * 39).toNat 39) (39 * k.toNat) (v.1 2) (if k = v.1 4 then v.2.1 else v.2.2.2.2.2 k)
  by_cases c : k = v.1 4
  · simp only [c, if_true]
    refine ⟨va_up_s _ _ _, vRow_cg (by omega) (fun i hi => ?_) hrw⟩
    rw [va_cpy, if_pos (by omega), show 39 * (v.1 4).toNat + i - (v.1 4 * 39).toNat = i by omega]
  · simp only [c, if_false]
    have hk := hh k k0 (by omega)
    refine ⟨?_, vRow_cg (by omega) (fun i hi => ?_) hk.2⟩
    · rw [va_up_o _ _ (by omega)]; exact hk.1
    · rw [va_cpy, if_neg (by omega)]
theorem vX_un {S : sS} {v : vV} (hv : vX S v) {n : Int} (h0 : 0 < n) (h1 : n ≤ v.1 4) : vX (sA (sI S 16 (S.1 16 - n)) 2 (va_cpy (S.2.1 4) (S.2.1 2) ((S.1 16 - n) * 39).toNat 0 39)) (vUn v n) := by
  have hb := vUn_b hv.1 (by omega) h1
  rw [vUn, if_neg (by omega)] at hb ⊢
  obtain ⟨⟨b0, b1, b2, b3, b4, bs, bh⟩, e0, e1, e2, e3, e4, hrw, hh⟩ := hv
  rw [e4]
  refine ⟨hb, e0, e1, e2, e3, rfl, ?_, fun k k0 k1 => ?_⟩
  · refine vRow_cg (c := S.2.1 4) (a := 39 * (v.1 4 - n).toNat) (by show v.1 2 ≤ 4; omega) (fun i hi => ?_) (hh (v.1 4 - n) (by omega) (by omega)).2
    show va_cpy (S.2.1 4) (S.2.1 2) ((v.1 4 - n) * 39).toNat 0 39 (0 + i) = _
    rw [va_cpy, if_pos (by omega), show ((v.1 4 - n) * 39).toNat + (0 + i - 0) = 39 * (v.1 4 - n).toNat + i by omega]
  · have k2 : k < v.1 4 - n := k1
    exact hh k k0 (by omega)
section Game3
variable {X : mX} {S : sS} {t : zH} {v : vV}
theorem vWr_num (v : vV) (d f z : Int) : (vWr v d f z).1 = v.1 := by
  simp only [vWr]; split <;> rfl
theorem vWr_ht (v : vV) (d f z : Int) : (vWr v d f z).2.1.2 = v.2.1.2 := by
  simp only [vWr]; split <;> rfl
theorem vWr_b {v : vV} (h : vVb v) (d f : Int) {z : Int} (hz : 0 ≤ z) : vVb (vWr v d f z) := by
  simp only [vWr]
  split
  · exact h
  · have := h.2.2.2.2.2.1.1 d f
    exact vW_b h d f (by omega)
set_option maxHeartbeats 1000000 in
set_option maxRecDepth 100000 in
theorem gwear (hv : vX S v) {x f z : Int} (h0 : 0 ≤ x) (h1 : x < v.1 1) (h2 : 1 ≤ f) (h3 : f ≤ 6) (hz : 0 ≤ z) (hz2 : z < 2147483648) : zEv X 2 mX2_wear [zR 5, zI x, zI f, zI z] (cX S ++ t) (zTo S t (.inl (some (zI (if v.2.1.2.1 x = 1 then 0 else min (v.2.1.1 x f) z)))) (vWr v x f z)) := by
  have hs := hv.1.2.2.2.2.2.1.2.1 x
  have hw := gbd hv x f
  have b1 := hv.1.2.1
  have hrow := hv.2.2.2.2.2.2.1
  refine zEv_run gX2_wear 80 [] rfl ?_
  refine zCl_e (gd_t hv h0 h1) (by decide) ?_
  refine zBrF rI_1 (by omega) ?_
  refine mVc_i (by simp only [rI]; omega) ?_
  refine zCl_e (face_t ⟨h2, h3⟩) (by decide) ?_
  refine zBrF rI_1 (by omega) ?_
  refine zCl_e (gsalt hv h0 h1) (by decide) ?_
  refine zBr (by simp only [rI]; omega) (fun c => ?_) (fun c => ?_)
  · refine zCl_e (gw hv h0 h1 h2 h3) (by decide) ?_
    refine mVc_i (by simp only [rI]; omega) ?_
    refine mVc_i (by omega) ?_
    refine mVc_i (by omega) ?_
    have e9 := hrow.1 x f h0 (by omega) h2 h3
    rw [Nat.zero_add] at e9
    rw [vWr, if_neg (by omega), if_neg (by omega), ← e9]
    have k1 := vX_w hv h0 (by omega) h2 h3 (z := v.2.1.1 x f - min (v.2.1.1 x f) z) (by omega)
    rw [← e9] at k1
    exact ⟨rfl, _, rfl, sF_A S _ ⟨by omega, by omega⟩, k1⟩
  · rw [vWr, if_pos (by omega), if_pos (by omega)]
    exact ⟨rfl, S, rfl, sF_r S, hv⟩
def vOk (v : vV) (d q f : Int) : Prop := (0 ≤ d ∧ d < v.1 1) ∧ (0 ≤ q ∧ q < v.1 2) ∧ 1 ≤ f ∧ f ≤ 6
def vWhy (v : vV) (d q f : Int) : Int := if ¬ (0 ≤ d ∧ d < v.1 1) then 1 else if ¬ (0 ≤ q ∧ q < v.1 2) then 1 else if ¬ (1 ≤ f ∧ f ≤ 6) then 1 else if vTot v.2.1 d = 0 then 2 else if v.2.1.1 d f = 0 then 3 else if v.1 4 < 60 then 0 else 4
set_option maxHeartbeats 1000000 in
set_option maxRecDepth 100000 in
theorem gwhy (hv : vX S v) {d q f : Int} (hd : rI d) (hq : rI q) (hf : rI f) : zEv X 4 mX2_whyNot [zR 5, zI d, zI q, zI f] (cX S ++ t) (zIs (.inl (some (zI (vWhy v d q f)))) (cX S ++ t)) := by
  have hf1 := hf.1
  have hf2 := hf.2
  have hw := gbd hv d f
  refine zEv_run gX2_whyNot 80 [] rfl ?_
  simp only [vWhy]
  by_cases c1 : 0 ≤ d ∧ d < v.1 1
  · refine zCl_e (gd_t hv c1.1 c1.2) (by decide) ?_
    refine zBrF rI_1 (by omega) ?_
    rw [if_neg (by omega)]
    by_cases c2 : 0 ≤ q ∧ q < v.1 2
    · refine zCl_e (gh_t hv c2.1 c2.2) (by decide) ?_
      refine zBrF rI_1 (by omega) ?_
      refine mVc_i hf ?_
      rw [if_neg (by omega)]
      by_cases c3 : 1 ≤ f ∧ f ≤ 6
      · refine zCl_e (face_t c3) (by decide) ?_
        refine zBrF rI_1 (by omega) ?_
        rw [if_neg (by omega)]
        refine zCl_e (ggone hv c1.1 c1.2) (by decide) ?_
        refine zBb (fun c4 => ?_) (fun c4 => ?_)
        · rw [if_neg c4]
          refine zCl_e (gw hv c1.1 c1.2 c3.1 c3.2) (by decide) ?_
          refine zBr (by simp only [rI]; omega) (fun c5 => ?_) (fun c5 => ?_)
          · rw [if_pos c5]
            exact ⟨rfl, rfl⟩
          · rw [if_neg c5]
            refine zCl_e (groom hv) (by decide) ?_
            refine zBb (fun c6 => ?_) (fun c6 => ?_)
            · rw [if_neg c6]
              exact ⟨rfl, rfl⟩
            · rw [if_pos c6]
              exact ⟨rfl, rfl⟩
        · rw [if_pos c4]
          exact ⟨rfl, rfl⟩
      · refine zCl_e (face_f ⟨by omega, by omega⟩ c3) (by decide) ?_
        refine zBrT rI_0 (by omega) ?_
        rw [if_pos c3]
        exact ⟨rfl, rfl⟩
    · refine zCl_e (gh_f hv hq c2) (by decide) ?_
      refine zBrT rI_0 (by omega) ?_
      rw [if_pos c2]
      exact ⟨rfl, rfl⟩
  · refine zCl_e (gd_f hv hd c1) (by decide) ?_
    refine zBrT rI_0 (by omega) ?_
    rw [if_pos c1]
    exact ⟨rfl, rfl⟩
def vTold (v : vV) (z : Int) : Int := if z < 0 ∨ 500 ≤ z then 1 else vWhy v (z / 100) (z / 10 % 10) (z % 10)
set_option maxHeartbeats 1000000 in
set_option maxRecDepth 100000 in
theorem gwhyt (hv : vX S v) {z : Int} (hz : rL z) : zEv X 5 mX2_whyNotTold [zR 5, zJ z] (cX S ++ t) (zIs (.inl (some (zI (vTold v z)))) (cX S ++ t)) := by
  refine zEv_run gX2_whyNotTold 80 [] rfl ?_
  simp only [vTold]
  refine zBr ⟨hz, by simp only [rL]; omega⟩ (fun c1 => ?_) (fun c1 => ?_)
  · rw [if_pos (Or.inl c1)]
    exact ⟨rfl, rfl⟩
  · refine zBr ⟨hz, by simp only [rL]; omega⟩ (fun c2 => ?_) (fun c2 => ?_)
    · rw [if_neg (by omega)]
      refine mVc_i (by simp only [rI]; omega) ?_
      refine mVc_i (by simp only [rI]; omega) ?_
      refine mVc_i (by simp only [rI]; omega) ?_
      refine mVc_i (by simp only [rI]; omega) ?_
      refine zCl_e (gwhy hv (by simp only [rI]; omega) (by simp only [rI]; omega) (by simp only [rI]; omega)) (by decide) ?_
      exact ⟨rfl, rfl⟩
    · rw [if_pos (by omega)]
      exact ⟨rfl, rfl⟩
set_option maxHeartbeats 1000000 in
set_option maxRecDepth 100000 in
theorem gthrow (hv : vX S v) {d q f : Int} (hk : vOk v d q f) (hr : v.1 4 < 60) : zEv X 3 mX2_throwFace [zR 5, zI d, zI q, zI f] (cX S ++ t) (zTo S t (.inl none) (vGo v d q f)) := by
  obtain ⟨hd, hq, hf⟩ := hk
  have h4 := hv.1.2.2.2.2.1
  have h2 := hv.1.2.2.1
  have e4 : S.1 16 = v.1 4 := hv.2.2.2.2.2.1
  have hht := hv.1.2.2.2.2.2.1.2.2.1 q
  have hv1 := vX_push hv hd hq hf hr
  have f1 : sF S (sI (sA (sA S 4 (va_cpy (S.2.1 2) (S.2.1 4) 0 (S.1 16 * 39).toNat 39)) 3 (va_up (S.2.1 3) (S.1 16).toNat (100 * d + 10 * q + f))) 16 (S.1 16 + 1)) := sF_t (sF_t (sF_A S _ ⟨by omega, by omega⟩) (sF_A _ _ ⟨by omega, by omega⟩)) (sF_I _ _ ⟨by omega, by omega⟩)
  refine zEv_run gX2_throwFace 120 [] rfl ?_
  refine zCl_e (gd_t hv hd.1 hd.2) (by decide) ?_
  refine zBrF rI_1 (by omega) ?_
  refine zCl_e (gh_t hv hq.1 hq.2) (by decide) ?_
  refine zBrF rI_1 (by omega) ?_
  refine mVc_i (by simp only [rI]; omega) ?_
  refine zCl_e (face_t hf) (by decide) ?_
  refine zBrF rI_1 (by omega) ?_
  refine zCl_e (groom hv) (by decide) ?_
  refine zBb (fun c => absurd hr c) (fun _ => ?_)
  refine mVc_i (by omega) ?_
  refine mVc_i (by omega) ?_
  refine zCl_e (gheat (t := t) hv1 hq.1 hq.2) (by decide) ?_
  refine zCl_t (gwear (t := t) hv1 hd.1 hd.2 hf.1 hf.2 hht.1 (by show v.2.1.2.2.1 q < _; omega)) (by decide) ?_
  intro R f2 hv2
  have e5 : (vWr (vPush v d q f) d f (v.2.1.2.2.1 q)).2.1.2 = v.2.1.2 := by rw [vWr_ht]; rfl
  have e6 : (vWr (vPush v d q f) d f (v.2.1.2.2.1 q)).1 2 = v.1 2 := by rw [vWr_num]; rfl
  refine zCl_e (gheat (t := t) hv2 hq.1 (by rw [show (vPush v d q f).2.1.2.2.1 q = v.2.1.2.2.1 q from rfl, e6]; exact hq.2)) (by decide) ?_
  have e7 : (vWr (vPush v d q f) d f ((vPush v d q f).2.1.2.2.1 q)).2.1.2.2.1 q = v.2.1.2.2.1 q := by rw [vWr_ht]; rfl
  rw [e7]
  refine mVc_i (by simp only [rI]; omega) ?_
  refine mVc_i (by omega) ?_
  refine ⟨rfl, _, rfl, sF_t (sF_t f1 f2) (sF_A R _ ⟨by omega, by omega⟩), vX_h hv2 hq.1 (by omega) (by omega)⟩
set_option maxHeartbeats 1000000 in
set_option maxRecDepth 100000 in
theorem gtold1 (hv : vX S v) {z : Int} (h0 : 0 ≤ z) (h1 : z < 500) (hk : vOk v (z / 100) (z / 10 % 10) (z % 10)) (hr : v.1 4 < 60) : zEv X 4 mX2_throwToldOne [zR 5, zI z] (cX S ++ t) (zTo S t (.inl none) (vGo v (z / 100) (z / 10 % 10) (z % 10))) := by
  refine zEv_run gX2_throwToldOne 80 [] rfl ?_
  refine mVc_i (by simp only [rI]; omega) ?_
  refine mVc_i (by simp only [rI]; omega) ?_
  refine mVc_i (by simp only [rI]; omega) ?_
  refine mVc_i (by simp only [rI]; omega) ?_
  refine zCl_t (gthrow hv hk hr) (by decide) ?_
  intro R f1 hv1
  exact ⟨rfl, R, rfl, f1, hv1⟩
set_option maxHeartbeats 1000000 in
set_option maxRecDepth 100000 in
theorem gundo (hv : vX S v) {n : Int} (h0 : 0 ≤ n) (h1 : n ≤ v.1 4) : zEv X 1 mX2_undo [zR 5, zI n] (cX S ++ t) (zTo S t (.inl none) (vUn v n)) := by
  have h4 := hv.1.2.2.2.2.1
  have e4 : S.1 16 = v.1 4 := hv.2.2.2.2.2.1
  refine zEv_run gX2_undo 80 [] rfl ?_
  refine zBr (by simp only [rI]; omega) (fun c => ?_) (fun c => ?_)
  · rw [vUn, if_pos (by omega)]
    exact ⟨rfl, S, rfl, sF_r S, hv⟩
  · refine zBrF (by simp only [rI]; omega) (by omega) ?_
    refine mVc_i (by omega) ?_
    exact ⟨rfl, _, rfl, sF_t (sF_I S _ ⟨by omega, by omega⟩) (sF_A _ _ ⟨by omega, by omega⟩), vX_un hv (by omega) h1⟩
set_option maxHeartbeats 1000000 in
set_option maxRecDepth 100000 in
theorem gtoldk (hv : vX S v) {k : Int} (h0 : 0 ≤ k) (h1 : k < v.1 4) : zEv X 1 mX2_toldThrow [zR 5, zI k] (cX S ++ t) (zIs (.inl (some (zI (100 * v.2.2.1 k + 10 * v.2.2.2.1 k + v.2.2.2.2.1 k)))) (cX S ++ t)) := by
  have h4 := hv.1.2.2.2.2.1
  have e4 : S.1 16 = v.1 4 := hv.2.2.2.2.2.1
  have e5 := (hv.2.2.2.2.2.2.2 k h0 h1).1
  refine zEv_run gX2_toldThrow 80 [] rfl ?_
  repeat (first
    | refine zBrT (by simp only [rI]; omega) (by omega) ?_
    | refine zBrF (by simp only [rI]; omega) (by omega) ?_
    | refine mVc_i (by first | omega | (simp only [rI]; omega)) ?_)
  rw [e5]
  exact ⟨rfl, rfl⟩
set_option maxHeartbeats 1000000 in
set_option maxRecDepth 100000 in
theorem gdk (hv : vX S v) {k : Int} (h0 : 0 ≤ k) (h1 : k < v.1 4) : zEv X 2 mX2_dieOfThrow [zR 5, zI k] (cX S ++ t) (zIs (.inl (some (zI (v.2.2.1 k)))) (cX S ++ t)) := by
  have hb := hv.1.2.2.2.2.2.2 k h0 h1
  have b1 := hv.1.2.1
  have b2 := hv.1.2.2.1
  refine zEv_run gX2_dieOfThrow 40 [] rfl ?_
  refine zCl_e (gtoldk hv h0 h1) (by decide) ?_
  repeat refine mVc_i (by simp only [rI]; omega) ?_
  refine ⟨?_, rfl⟩
  congr 3
  omega
set_option maxHeartbeats 1000000 in
set_option maxRecDepth 100000 in
theorem ghk (hv : vX S v) {k : Int} (h0 : 0 ≤ k) (h1 : k < v.1 4) : zEv X 2 mX2_handOfThrow [zR 5, zI k] (cX S ++ t) (zIs (.inl (some (zI (v.2.2.2.1 k)))) (cX S ++ t)) := by
  have hb := hv.1.2.2.2.2.2.2 k h0 h1
  have b1 := hv.1.2.1
  have b2 := hv.1.2.2.1
  refine zEv_run gX2_handOfThrow 40 [] rfl ?_
  refine zCl_e (gtoldk hv h0 h1) (by decide) ?_
  repeat refine mVc_i (by simp only [rI]; omega) ?_
  refine ⟨?_, rfl⟩
  congr 3
  omega
set_option maxHeartbeats 1000000 in
set_option maxRecDepth 100000 in
theorem gfk (hv : vX S v) {k : Int} (h0 : 0 ≤ k) (h1 : k < v.1 4) : zEv X 2 mX2_faceOfThrow [zR 5, zI k] (cX S ++ t) (zIs (.inl (some (zI (v.2.2.2.2.1 k)))) (cX S ++ t)) := by
  have hb := hv.1.2.2.2.2.2.2 k h0 h1
  have b1 := hv.1.2.1
  have b2 := hv.1.2.2.1
  refine zEv_run gX2_faceOfThrow 40 [] rfl ?_
  refine zCl_e (gtoldk hv h0 h1) (by decide) ?_
  repeat refine mVc_i (by simp only [rI]; omega) ?_
  refine ⟨?_, rfl⟩
  congr 3
  omega
def vAf (v : vV) (k : Int) : Int := (v.1 3 - 1 + k) % 6 + 1
set_option maxHeartbeats 1000000 in
set_option maxRecDepth 100000 in
theorem gaf (hv : vX S v) {k : Int} (h0 : 0 ≤ k) (h1 : k < 6) : zEv X 1 mX2_faceForAnts [zR 5, zI k] (cX S ++ t) (zIs (.inl (some (zI (vAf v k)))) (cX S ++ t)) := by
  have h3 := hv.1.2.2.2.1
  have e3 : S.1 15 = v.1 3 := hv.2.2.2.2.1
  refine zEv_run gX2_faceForAnts 40 [] rfl ?_
  repeat (first
    | refine zBrT (by simp only [rI]; omega) (by omega) ?_
    | refine zBrF (by simp only [rI]; omega) (by omega) ?_
    | refine mVc_i (by first | omega | (simp only [rI]; omega)) ?_)
  rw [e3]
  exact ⟨rfl, rfl⟩
end Game3
