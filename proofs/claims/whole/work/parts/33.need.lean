/-! SugarDice: what calls ask for; the first calls -/
def zIr : Int ⊕ Nat → zO
  | .inl z => .inl (some (zI z))
  | .inr n => .inr n
def zJr : Int ⊕ Nat → zO
  | .inl z => .inl (some (zJ z))
  | .inr n => .inr n
def vFb (w : Int → Int) : Nat → Int → Int → Int
  | 0, f, _ => f
  | k + 1, f, l => if l - w f < 0 then f else vFb w k (f + 1) (l - w f)
theorem vFb_b (w : Int → Int) : ∀ (k : Nat) (f l : Int), f ≤ vFb w k f l ∧ vFb w k f l ≤ f + k
  | 0, f, l => by simp only [vFb]; omega
  | k + 1, f, l => by
    simp only [vFb]
    split
    · omega
    · have := vFb_b w k (f + 1) (l - w f)
      omega
section Need
variable {X : mX} {S : sS} {t : zH} {v : vV}
set_option maxHeartbeats 1000000 in
set_option maxRecDepth 100000 in
theorem gfb (hv : vX S v) {d z : Int} (hd : 0 ≤ d ∧ d < v.1 1) (hz : 0 ≤ z ∧ z < 65536) (ht : ¬ vTot v.2.1 d = 0) : zEv X 3 mX2_faceByDraw [zR 5, zI d, zI z] (cX S ++ t) (zIs (.inl (some (zI (vFb (v.2.1.1 d) 5 1 (z % vTot v.2.1 d))))) (cX S ++ t)) := by
  have hb := gtb hv d
  have lp : ∀ (k : Nat) (f l : Int), 1 ≤ f → f + k = 6 → -200 ≤ l + f ∧ l ≤ 200 → 0 ≤ l → zWP X mX2_faceByDraw 3 (zIs (.inl (some (zI (vFb (v.2.1.1 d) k f l)))) (cX S ++ t)) 22 [some (zR 5), some (zI d), some (zI z), some (zI (vTot v.2.1 d)), some (zI l), some (zI f)] [] (cX S ++ t) 0 0 := by
    intro k
    induction k with
    | zero =>
      intro f l f0 hk hl hl0
      refine zWP_run gX2_faceByDraw 60 [22] ?_
      refine zBrT (by simp only [rI]; omega) (by omega) ?_
      simp only [vFb]
      rw [show f = 6 by omega]
      exact ⟨rfl, rfl⟩
    | succ k ih =>
      intro f l f0 hk hl hl0
      have hw := gbd hv d f
      simp only [vFb]
      refine zWP_run gX2_faceByDraw 60 [22] ?_
      refine zBrF (by simp only [rI]; omega) (by omega) ?_
      refine zCl_e (gw hv hd.1 hd.2 f0 (by omega)) (by decide) ?_
      refine zBr (by simp only [rI]; omega) (fun c => ?_) (fun c => ?_)
      · rw [if_neg (by omega)]
        exact ih (f + 1) (l - v.2.1.1 d f) (by omega) (by omega) (by omega) (by omega)
      · rw [if_pos (by omega)]
        exact ⟨rfl, rfl⟩
  refine zEv_run gX2_faceByDraw 60 [22] rfl ?_
  have hm1 := Int.emod_nonneg z (show vTot v.2.1 d ≠ 0 from ht)
  have hm2 := Int.emod_lt_of_pos z (show 0 < vTot v.2.1 d by omega)
  refine zCl_e (gtot hv hd.1 hd.2) (by decide) ?_
  refine zBrF (by simp only [rI]; omega) (by omega) ?_
  refine mVc_i (by simp only [rI]; omega) ?_
  exact lp 5 1 (z % vTot v.2.1 d) (by omega) (by omega) (by omega) hm1
set_option maxHeartbeats 1000000 in
set_option maxRecDepth 100000 in
theorem nd_t (hv : vX S v) {d : Int} (c : 0 ≤ d ∧ d < v.1 1) : zEv X 2 mX9_needDie [zR 0, zI d] (cX S ++ t) (zIs (.inl none) (cX S ++ t)) := by
  refine zEv_run gX9_needDie 40 [] rfl ?_
  refine zCl_e (gd_t hv c.1 c.2) (by decide) ?_
  refine zBrF rI_1 (by omega) ?_
  exact ⟨rfl, rfl⟩
set_option maxHeartbeats 1000000 in
set_option maxRecDepth 100000 in
theorem nd_f (hv : vX S v) {d : Int} (hd : rI d) (c : ¬ (0 ≤ d ∧ d < v.1 1)) : zEv X 2 mX9_needDie [zR 0, zI d] (cX S ++ t) (zIs (.inr 1) (cX S ++ t)) := by
  refine zEv_run gX9_needDie 40 [] rfl ?_
  refine zCl_e (gd_f hv hd c) (by decide) ?_
  refine zBrT rI_0 rfl ?_
  exact ⟨rfl, rfl⟩
set_option maxHeartbeats 1000000 in
set_option maxRecDepth 100000 in
theorem nh_t (hv : vX S v) {q : Int} (c : 0 ≤ q ∧ q < v.1 2) : zEv X 2 mX9_needHand [zR 0, zI q] (cX S ++ t) (zIs (.inl none) (cX S ++ t)) := by
  refine zEv_run gX9_needHand 40 [] rfl ?_
  refine zCl_e (gh_t hv c.1 c.2) (by decide) ?_
  refine zBrF rI_1 (by omega) ?_
  exact ⟨rfl, rfl⟩
set_option maxHeartbeats 1000000 in
set_option maxRecDepth 100000 in
theorem nh_f (hv : vX S v) {q : Int} (hq : rI q) (c : ¬ (0 ≤ q ∧ q < v.1 2)) : zEv X 2 mX9_needHand [zR 0, zI q] (cX S ++ t) (zIs (.inr 1) (cX S ++ t)) := by
  refine zEv_run gX9_needHand 40 [] rfl ?_
  refine zCl_e (gh_f hv hq c) (by decide) ?_
  refine zBrT rI_0 rfl ?_
  exact ⟨rfl, rfl⟩
set_option maxHeartbeats 1000000 in
set_option maxRecDepth 100000 in
theorem ng_t (hv : vX S v) {d : Int} (hd : 0 ≤ d ∧ d < v.1 1) (c : ¬ vTot v.2.1 d = 0) : zEv X 4 mX9_needNotGone [zR 0, zI d] (cX S ++ t) (zIs (.inl none) (cX S ++ t)) := by
  refine zEv_run gX9_needNotGone 40 [] rfl ?_
  refine zCl_e (ggone hv hd.1 hd.2) (by decide) ?_
  refine zBb (fun _ => ?_) (fun q => absurd q c)
  exact ⟨rfl, rfl⟩
set_option maxHeartbeats 1000000 in
set_option maxRecDepth 100000 in
theorem ng_f (hv : vX S v) {d : Int} (hd : 0 ≤ d ∧ d < v.1 1) (c : ¬ (¬ vTot v.2.1 d = 0)) : zEv X 4 mX9_needNotGone [zR 0, zI d] (cX S ++ t) (zIs (.inr 2) (cX S ++ t)) := by
  refine zEv_run gX9_needNotGone 40 [] rfl ?_
  refine zCl_e (ggone hv hd.1 hd.2) (by decide) ?_
  refine zBb (fun q => absurd q c) (fun _ => ?_)
  exact ⟨rfl, rfl⟩
set_option maxHeartbeats 1000000 in
set_option maxRecDepth 100000 in
theorem nr_t (hv : vX S v)  (c : v.1 4 < 60) : zEv X 2 mX9_needRoomForThrow [zR 0] (cX S ++ t) (zIs (.inl none) (cX S ++ t)) := by
  refine zEv_run gX9_needRoomForThrow 40 [] rfl ?_
  refine zCl_e (groom hv) (by decide) ?_
  refine zBb (fun q => absurd c q) (fun _ => ?_)
  exact ⟨rfl, rfl⟩
set_option maxHeartbeats 1000000 in
set_option maxRecDepth 100000 in
theorem nr_f (hv : vX S v)  (c : ¬ (v.1 4 < 60)) : zEv X 2 mX9_needRoomForThrow [zR 0] (cX S ++ t) (zIs (.inr 2) (cX S ++ t)) := by
  refine zEv_run gX9_needRoomForThrow 40 [] rfl ?_
  refine zCl_e (groom hv) (by decide) ?_
  refine zBb (fun _ => ?_) (fun q => absurd q c)
  exact ⟨rfl, rfl⟩
set_option maxHeartbeats 1000000 in
set_option maxRecDepth 100000 in
theorem nf_t (hv : vX S v) {f : Int} (c : 1 ≤ f ∧ f ≤ 6) : zEv X 2 mX9_needFace [zR 0, zI f] (cX S ++ t) (zIs (.inl none) (cX S ++ t)) := by
  refine zEv_run gX9_needFace 40 [] rfl ?_
  refine mVc_i (by simp only [rI]; omega) ?_
  refine zCl_e (face_t c) (by decide) ?_
  refine zBrF rI_1 (by omega) ?_
  exact ⟨rfl, rfl⟩
set_option maxHeartbeats 1000000 in
set_option maxRecDepth 100000 in
theorem nf_f (hv : vX S v) {f : Int} (hf : rI f) (c : ¬ (1 ≤ f ∧ f ≤ 6)) : zEv X 2 mX9_needFace [zR 0, zI f] (cX S ++ t) (zIs (.inr 0) (cX S ++ t)) := by
  have hf1 := hf.1
  have hf2 := hf.2
  refine zEv_run gX9_needFace 40 [] rfl ?_
  refine mVc_i hf ?_
  refine zCl_e (face_f ⟨by omega, by omega⟩ c) (by decide) ?_
  refine zBrT rI_0 rfl ?_
  exact ⟨rfl, rfl⟩
set_option maxHeartbeats 1000000 in
set_option maxRecDepth 100000 in
theorem nw_t (hv : vX S v) {x a b : Int} (hx : rI x) (ha : rI a) (hb : rI b) (c : a ≤ x ∧ x ≤ b) : zEv X 1 mX9_needWhat [zR 0, zI x, zI a, zI b] (cX S ++ t) (zIs (.inl none) (cX S ++ t)) := by
  have hx1 := hx.1
  have hx2 := hx.2
  refine zEv_run gX9_needWhat 40 [] rfl ?_
  refine zBrF ⟨hx, ha⟩ (by omega) ?_
  refine zBrT ⟨hx, hb⟩ (by omega) ?_
  exact ⟨rfl, rfl⟩
set_option maxHeartbeats 1000000 in
set_option maxRecDepth 100000 in
theorem nw_f (hv : vX S v) {x a b : Int} (hx : rI x) (ha : rI a) (hb : rI b) (c : ¬ (a ≤ x ∧ x ≤ b)) : zEv X 1 mX9_needWhat [zR 0, zI x, zI a, zI b] (cX S ++ t) (zIs (.inr 0) (cX S ++ t)) := by
  have hx1 := hx.1
  have hx2 := hx.2
  refine zEv_run gX9_needWhat 40 [] rfl ?_
  by_cases c1 : x < a
  · refine zBrT ⟨hx, ha⟩ c1 ?_
    exact ⟨rfl, rfl⟩
  · refine zBrF ⟨hx, ha⟩ c1 ?_
    refine zBrF ⟨hx, hb⟩ (by omega) ?_
    exact ⟨rfl, rfl⟩
set_option maxHeartbeats 1000000 in
set_option maxRecDepth 100000 in
theorem nm_t (hv : vX S v) {x a : Int} (hx : rI x) (ha : rI a) (c : a ≤ x ∧ x ≤ 99) : zEv X 1 mX9_needMinutes [zR 0, zI x, zI a] (cX S ++ t) (zIs (.inl none) (cX S ++ t)) := by
  have hx1 := hx.1
  have hx2 := hx.2
  refine zEv_run gX9_needMinutes 40 [] rfl ?_
  refine zBrF ⟨hx, ha⟩ (by omega) ?_
  refine zBrT ⟨hx, by simp only [rI]; omega⟩ (by omega) ?_
  exact ⟨rfl, rfl⟩
set_option maxHeartbeats 1000000 in
set_option maxRecDepth 100000 in
theorem nm_f (hv : vX S v) {x a : Int} (hx : rI x) (ha : rI a) (c : ¬ (a ≤ x ∧ x ≤ 99)) : zEv X 1 mX9_needMinutes [zR 0, zI x, zI a] (cX S ++ t) (zIs (.inr 0) (cX S ++ t)) := by
  have hx1 := hx.1
  have hx2 := hx.2
  refine zEv_run gX9_needMinutes 40 [] rfl ?_
  by_cases c1 : x < a
  · refine zBrT ⟨hx, ha⟩ c1 ?_
    exact ⟨rfl, rfl⟩
  · refine zBrF ⟨hx, ha⟩ c1 ?_
    refine zBrF ⟨hx, by simp only [rI]; omega⟩ (by omega) ?_
    exact ⟨rfl, rfl⟩
set_option maxHeartbeats 1000000 in
set_option maxRecDepth 100000 in
theorem n8_t (hv : vX S v) {x a : Int} (hx : rI x) (ha : rI a) (c : a ≤ x ∧ x ≤ 8) : zEv X 1 mX9_needThrowsUpToEight [zR 0, zI x, zI a] (cX S ++ t) (zIs (.inl none) (cX S ++ t)) := by
  have hx1 := hx.1
  have hx2 := hx.2
  refine zEv_run gX9_needThrowsUpToEight 40 [] rfl ?_
  refine zBrF ⟨hx, ha⟩ (by omega) ?_
  refine zBrT ⟨hx, by simp only [rI]; omega⟩ (by omega) ?_
  exact ⟨rfl, rfl⟩
set_option maxHeartbeats 1000000 in
set_option maxRecDepth 100000 in
theorem n8_f (hv : vX S v) {x a : Int} (hx : rI x) (ha : rI a) (c : ¬ (a ≤ x ∧ x ≤ 8)) : zEv X 1 mX9_needThrowsUpToEight [zR 0, zI x, zI a] (cX S ++ t) (zIs (.inr 0) (cX S ++ t)) := by
  have hx1 := hx.1
  have hx2 := hx.2
  refine zEv_run gX9_needThrowsUpToEight 40 [] rfl ?_
  by_cases c1 : x < a
  · refine zBrT ⟨hx, ha⟩ c1 ?_
    exact ⟨rfl, rfl⟩
  · refine zBrF ⟨hx, ha⟩ c1 ?_
    refine zBrF ⟨hx, by simp only [rI]; omega⟩ (by omega) ?_
    exact ⟨rfl, rfl⟩
set_option maxHeartbeats 1000000 in
set_option maxRecDepth 100000 in
theorem n3_t (hv : vX S v) {x : Int} (hx : rI x) (c : 1 ≤ x ∧ x ≤ 3) : zEv X 1 mX9_needOneToThree [zR 0, zI x] (cX S ++ t) (zIs (.inl none) (cX S ++ t)) := by
  have hx1 := hx.1
  have hx2 := hx.2
  refine zEv_run gX9_needOneToThree 40 [] rfl ?_
  refine zBrF ⟨hx, by simp only [rI]; omega⟩ (by omega) ?_
  refine zBrT ⟨hx, by simp only [rI]; omega⟩ (by omega) ?_
  exact ⟨rfl, rfl⟩
set_option maxHeartbeats 1000000 in
set_option maxRecDepth 100000 in
theorem n3_f (hv : vX S v) {x : Int} (hx : rI x) (c : ¬ (1 ≤ x ∧ x ≤ 3)) : zEv X 1 mX9_needOneToThree [zR 0, zI x] (cX S ++ t) (zIs (.inr 0) (cX S ++ t)) := by
  have hx1 := hx.1
  have hx2 := hx.2
  refine zEv_run gX9_needOneToThree 40 [] rfl ?_
  by_cases c1 : x < 1
  · refine zBrT ⟨hx, by simp only [rI]; omega⟩ c1 ?_
    exact ⟨rfl, rfl⟩
  · refine zBrF ⟨hx, by simp only [rI]; omega⟩ c1 ?_
    refine zBrF ⟨hx, by simp only [rI]; omega⟩ (by omega) ?_
    exact ⟨rfl, rfl⟩
set_option maxHeartbeats 1000000 in
set_option maxRecDepth 100000 in
theorem ns_t (hv : vX S v) {x : Int} (hx : rI x) (c : 0 ≤ x ∧ x < 2 ^ (v.1 1).toNat) : zEv X 1 mX9_needSet [zR 0, zI x] (cX S ++ t) (zIs (.inl none) (cX S ++ t)) := by
  have hx1 := hx.1
  have hx2 := hx.2
  have h1 := hv.1.2.1
  have e1 : S.1 13 = v.1 1 := hv.2.2.1
  have es : (Int32.ofInt 1 <<< (Int32.ofInt (S.1 13) &&& 31)).toInt = 2 ^ (v.1 1).toNat := by rw [e1]; exact bt_shl h1.1 (by omega)
  refine zEv_run gX9_needSet 40 [] rfl ?_
  refine zBrF hx (by omega) ?_
  refine zBrT ⟨hx, rI_toInt _⟩ (by show x < (Int32.ofInt 1 <<< (Int32.ofInt (S.1 13) &&& 31)).toInt; rw [es]; exact c.2) ?_
  exact ⟨rfl, rfl⟩
set_option maxHeartbeats 1000000 in
set_option maxRecDepth 100000 in
theorem ns_f (hv : vX S v) {x : Int} (hx : rI x) (c : ¬ (0 ≤ x ∧ x < 2 ^ (v.1 1).toNat)) : zEv X 1 mX9_needSet [zR 0, zI x] (cX S ++ t) (zIs (.inr 0) (cX S ++ t)) := by
  have hx1 := hx.1
  have hx2 := hx.2
  have h1 := hv.1.2.1
  have e1 : S.1 13 = v.1 1 := hv.2.2.1
  have es : (Int32.ofInt 1 <<< (Int32.ofInt (S.1 13) &&& 31)).toInt = 2 ^ (v.1 1).toNat := by rw [e1]; exact bt_shl h1.1 (by omega)
  refine zEv_run gX9_needSet 40 [] rfl ?_
  by_cases c1 : x < 0
  · refine zBrT hx c1 ?_
    exact ⟨rfl, rfl⟩
  · refine zBrF hx c1 ?_
    refine zBrF ⟨hx, rI_toInt _⟩ (by show ¬ x < (Int32.ofInt 1 <<< (Int32.ofInt (S.1 13) &&& 31)).toInt; rw [es]; intro q; exact c ⟨by omega, q⟩) ?_
    exact ⟨rfl, rfl⟩
theorem set32 {v : vV} (h : vVb v) {x : Int} (c : 0 ≤ x ∧ x < 2 ^ (v.1 1).toNat) : 0 ≤ x ∧ x < 32 := by
  have := pw_pos h.2.1.1 (k := v.1 1) (by have := h.2.1; omega)
  omega
theorem vWh_5 {v : vV} (h : vVb v) (c : Int) : 0 ≤ vWh v c (v.1 1) ∧ vWh v c (v.1 1) ≤ 24883200000 := by
  have b1 := h.2.1
  have h1 := vWh_b h c b1.1
  have h2 := pcn_b c b1.1
  have h3 := p120 h2.1 (by omega)
  omega
set_option maxHeartbeats 1000000 in
set_option maxRecDepth 100000 in
theorem nn_t (hv : vX S v) {x : Int} (hx : 0 ≤ x ∧ x < 32) (c : ¬ vWh v x (v.1 1) = 0) : zEv X 4 mX9_needNoneGone [zR 0, zI x] (cX S ++ t) (zIs (.inl none) (cX S ++ t)) := by
  have hb := vWh_5 hv.1 x
  refine zEv_run gX9_needNoneGone 40 [] rfl ?_
  refine zCl_e (owh hv hx) (by decide) ?_
  refine zBrF (by simp only [rL]; omega) c ?_
  exact ⟨rfl, rfl⟩
set_option maxHeartbeats 1000000 in
set_option maxRecDepth 100000 in
theorem nn_f (hv : vX S v) {x : Int} (hx : 0 ≤ x ∧ x < 32) (c : ¬ (¬ vWh v x (v.1 1) = 0)) : zEv X 4 mX9_needNoneGone [zR 0, zI x] (cX S ++ t) (zIs (.inr 2) (cX S ++ t)) := by
  have hb := vWh_5 hv.1 x
  refine zEv_run gX9_needNoneGone 40 [] rfl ?_
  refine zCl_e (owh hv hx) (by decide) ?_
  refine zBrT (by simp only [rL]; omega) (by omega) ?_
  exact ⟨rfl, rfl⟩
def pSet (v : vV) (x : Int) : Nat := if 0 ≤ x ∧ x < 2 ^ (v.1 1).toNat then (if vWh v x (v.1 1) = 0 then 2 else 3) else 0
set_option maxHeartbeats 1000000 in
set_option maxRecDepth 100000 in
theorem nsg_t (hv : vX S v) {x : Int} (hx : rI x) (c : 0 ≤ x ∧ x < 2 ^ (v.1 1).toNat) (c2 : ¬ vWh v x (v.1 1) = 0) : zEv X 5 mX9_needSetNotGone [zR 0, zI x] (cX S ++ t) (zIs (.inl none) (cX S ++ t)) := by
  refine zEv_run gX9_needSetNotGone 40 [] rfl ?_
  refine zCl_e (ns_t hv hx c) (by decide) ?_
  refine zCl_e (nn_t hv (set32 hv.1 c) c2) (by decide) ?_
  exact ⟨rfl, rfl⟩
set_option maxHeartbeats 1000000 in
set_option maxRecDepth 100000 in
theorem nsg_f (hv : vX S v) {x : Int} (hx : rI x) (c : ¬ (0 ≤ x ∧ x < 2 ^ (v.1 1).toNat)) : zEv X 5 mX9_needSetNotGone [zR 0, zI x] (cX S ++ t) (zIs (.inr 0) (cX S ++ t)) := by
  refine zEv_run gX9_needSetNotGone 40 [] rfl ?_
  refine zCl_e (ns_f hv hx c) (by decide) ?_
  exact ⟨rfl, rfl⟩
set_option maxHeartbeats 1000000 in
set_option maxRecDepth 100000 in
theorem nsg_g (hv : vX S v) {x : Int} (hx : rI x) (c : 0 ≤ x ∧ x < 2 ^ (v.1 1).toNat) (c2 : vWh v x (v.1 1) = 0) : zEv X 5 mX9_needSetNotGone [zR 0, zI x] (cX S ++ t) (zIs (.inr 2) (cX S ++ t)) := by
  refine zEv_run gX9_needSetNotGone 40 [] rfl ?_
  refine zCl_e (ns_t hv hx c) (by decide) ?_
  refine zCl_e (nn_f hv (set32 hv.1 c) (fun q => q c2)) (by decide) ?_
  exact ⟨rfl, rfl⟩
set_option maxHeartbeats 1000000 in
set_option maxRecDepth 100000 in
theorem n2_t (hv : vX S v) {a b : Int} (ha : 0 ≤ a ∧ a < v.1 1) (hb : 0 ≤ b ∧ b < v.1 1) (ga : ¬ vTot v.2.1 a = 0) (gb : ¬ vTot v.2.1 b = 0) : zEv X 5 mX9_needTwoDice [zR 0, zI a, zI b] (cX S ++ t) (zIs (.inl none) (cX S ++ t)) := by
  refine zEv_run gX9_needTwoDice 40 [] rfl ?_
  refine zCl_e (nd_t hv ha) (by decide) ?_
  refine zCl_e (nd_t hv hb) (by decide) ?_
  refine zCl_e (ng_t hv ha ga) (by decide) ?_
  refine zCl_e (ng_t hv hb gb) (by decide) ?_
  exact ⟨rfl, rfl⟩
set_option maxHeartbeats 1000000 in
set_option maxRecDepth 100000 in
theorem n2_f (hv : vX S v) {a b : Int} (ra : rI a) (rb : rI b) (c : ¬ ((0 ≤ a ∧ a < v.1 1) ∧ 0 ≤ b ∧ b < v.1 1)) : zEv X 5 mX9_needTwoDice [zR 0, zI a, zI b] (cX S ++ t) (zIs (.inr 1) (cX S ++ t)) := by
  refine zEv_run gX9_needTwoDice 40 [] rfl ?_
  by_cases ca : 0 ≤ a ∧ a < v.1 1
  · refine zCl_e (nd_t hv ca) (by decide) ?_
    refine zCl_e (nd_f hv rb (fun q => c ⟨ca, q⟩)) (by decide) ?_
    exact ⟨rfl, rfl⟩
  · refine zCl_e (nd_f hv ra ca) (by decide) ?_
    exact ⟨rfl, rfl⟩
set_option maxHeartbeats 1000000 in
set_option maxRecDepth 100000 in
theorem n2_g (hv : vX S v) {a b : Int} (ha : 0 ≤ a ∧ a < v.1 1) (hb : 0 ≤ b ∧ b < v.1 1) (c : vTot v.2.1 a = 0 ∨ vTot v.2.1 b = 0) : zEv X 5 mX9_needTwoDice [zR 0, zI a, zI b] (cX S ++ t) (zIs (.inr 2) (cX S ++ t)) := by
  refine zEv_run gX9_needTwoDice 40 [] rfl ?_
  refine zCl_e (nd_t hv ha) (by decide) ?_
  refine zCl_e (nd_t hv hb) (by decide) ?_
  by_cases ca : vTot v.2.1 a = 0
  · refine zCl_e (ng_f hv ha (fun q => q ca)) (by decide) ?_
    exact ⟨rfl, rfl⟩
  · refine zCl_e (ng_t hv ha ca) (by decide) ?_
    refine zCl_e (ng_f hv hb (fun q => q (by rcases c with c | c; exact absurd c ca; exact c))) (by decide) ?_
    exact ⟨rfl, rfl⟩
set_option maxHeartbeats 1000000 in
set_option maxRecDepth 100000 in
theorem nfc0_t (hm : 0 ≤ S.1 20 ∧ S.1 20 ≤ 30) (hr : ∀ j, rL (S.2.1 10 j)) (c : tH (S.1 20) (S.2.1 10) = 1) : zEv X 3 mX9_needFaces [zR 0, zR 20] (cX S ++ t) (zIs (.inl none) (cX S ++ t)) := by
  refine zEv_run gX9_needFaces 40 [] rfl ?_
  refine zCl_e (yholds0 hm hr) (by decide) ?_
  rw [c]
  refine zBrF rI_1 (by omega) ?_
  exact ⟨rfl, rfl⟩
set_option maxHeartbeats 1000000 in
set_option maxRecDepth 100000 in
theorem nfc0_f (hm : 0 ≤ S.1 20 ∧ S.1 20 ≤ 30) (hr : ∀ j, rL (S.2.1 10 j)) (c : tH (S.1 20) (S.2.1 10) = 0) : zEv X 3 mX9_needFaces [zR 0, zR 20] (cX S ++ t) (zIs (.inr 0) (cX S ++ t)) := by
  refine zEv_run gX9_needFaces 40 [] rfl ?_
  refine zCl_e (yholds0 hm hr) (by decide) ?_
  rw [c]
  refine zBrT rI_0 rfl ?_
  exact ⟨rfl, rfl⟩
set_option maxHeartbeats 1000000 in
set_option maxRecDepth 100000 in
theorem any0  : zEv X 1 mX9_anyTray [zR 0, zI 0] (cX S ++ t) (zIs (.inl (some (zR 20))) (cX S ++ t)) := by
  refine zEv_run gX9_anyTray 40 [] rfl ?_
  repeat (first
    | refine zBrT (by simp only [rI]; omega) (by omega) ?_
    | refine zBrF (by simp only [rI]; omega) (by omega) ?_
    | refine mVc_i (by first | omega | (simp only [rI]; omega)) ?_)
  exact ⟨rfl, rfl⟩
set_option maxHeartbeats 1000000 in
set_option maxRecDepth 100000 in
theorem ndt0_t (c : S.1 18 = 0) : zEv X 2 mX9_neededTray [zR 0, zI 0] (cX S ++ t) (zIs (.inl (some (zR 20))) (cX S ++ t)) := by
  refine zEv_run gX9_neededTray 40 [] rfl ?_
  refine zCl_e (any0) (by decide) ?_
  refine zBrT (by simp only [rI]; omega) c ?_
  exact ⟨rfl, rfl⟩
set_option maxHeartbeats 1000000 in
set_option maxRecDepth 100000 in
theorem ndt0_f (c : S.1 18 = 1) : zEv X 2 mX9_neededTray [zR 0, zI 0] (cX S ++ t) (zIs (.inr 2) (cX S ++ t)) := by
  refine zEv_run gX9_neededTray 40 [] rfl ?_
  refine zCl_e (any0) (by decide) ?_
  refine zBrF (by simp only [rI]; omega) (by omega) ?_
  exact ⟨rfl, rfl⟩
set_option maxHeartbeats 1000000 in
set_option maxRecDepth 100000 in
theorem nfc1_t (hm : 0 ≤ S.1 23 ∧ S.1 23 ≤ 30) (hr : ∀ j, rL (S.2.1 11 j)) (c : tH (S.1 23) (S.2.1 11) = 1) : zEv X 3 mX9_needFaces [zR 0, zR 22] (cX S ++ t) (zIs (.inl none) (cX S ++ t)) := by
  refine zEv_run gX9_needFaces 40 [] rfl ?_
  refine zCl_e (yholds1 hm hr) (by decide) ?_
  rw [c]
  refine zBrF rI_1 (by omega) ?_
  exact ⟨rfl, rfl⟩
set_option maxHeartbeats 1000000 in
set_option maxRecDepth 100000 in
theorem nfc1_f (hm : 0 ≤ S.1 23 ∧ S.1 23 ≤ 30) (hr : ∀ j, rL (S.2.1 11 j)) (c : tH (S.1 23) (S.2.1 11) = 0) : zEv X 3 mX9_needFaces [zR 0, zR 22] (cX S ++ t) (zIs (.inr 0) (cX S ++ t)) := by
  refine zEv_run gX9_needFaces 40 [] rfl ?_
  refine zCl_e (yholds1 hm hr) (by decide) ?_
  rw [c]
  refine zBrT rI_0 rfl ?_
  exact ⟨rfl, rfl⟩
set_option maxHeartbeats 1000000 in
set_option maxRecDepth 100000 in
theorem any1  : zEv X 1 mX9_anyTray [zR 0, zI 1] (cX S ++ t) (zIs (.inl (some (zR 22))) (cX S ++ t)) := by
  refine zEv_run gX9_anyTray 40 [] rfl ?_
  repeat (first
    | refine zBrT (by simp only [rI]; omega) (by omega) ?_
    | refine zBrF (by simp only [rI]; omega) (by omega) ?_
    | refine mVc_i (by first | omega | (simp only [rI]; omega)) ?_)
  exact ⟨rfl, rfl⟩
set_option maxHeartbeats 1000000 in
set_option maxRecDepth 100000 in
theorem ndt1_t (c : S.1 21 = 0) : zEv X 2 mX9_neededTray [zR 0, zI 1] (cX S ++ t) (zIs (.inl (some (zR 22))) (cX S ++ t)) := by
  refine zEv_run gX9_neededTray 40 [] rfl ?_
  refine zCl_e (any1) (by decide) ?_
  refine zBrT (by simp only [rI]; omega) c ?_
  exact ⟨rfl, rfl⟩
set_option maxHeartbeats 1000000 in
set_option maxRecDepth 100000 in
theorem ndt1_f (c : S.1 21 = 1) : zEv X 2 mX9_neededTray [zR 0, zI 1] (cX S ++ t) (zIs (.inr 2) (cX S ++ t)) := by
  refine zEv_run gX9_neededTray 40 [] rfl ?_
  refine zCl_e (any1) (by decide) ?_
  refine zBrF (by simp only [rI]; omega) (by omega) ?_
  exact ⟨rfl, rfl⟩
set_option maxHeartbeats 1000000 in
set_option maxRecDepth 100000 in
theorem nfc2_t (hm : 0 ≤ S.1 26 ∧ S.1 26 ≤ 30) (hr : ∀ j, rL (S.2.1 12 j)) (c : tH (S.1 26) (S.2.1 12) = 1) : zEv X 3 mX9_needFaces [zR 0, zR 24] (cX S ++ t) (zIs (.inl none) (cX S ++ t)) := by
  refine zEv_run gX9_needFaces 40 [] rfl ?_
  refine zCl_e (yholds2 hm hr) (by decide) ?_
  rw [c]
  refine zBrF rI_1 (by omega) ?_
  exact ⟨rfl, rfl⟩
set_option maxHeartbeats 1000000 in
set_option maxRecDepth 100000 in
theorem nfc2_f (hm : 0 ≤ S.1 26 ∧ S.1 26 ≤ 30) (hr : ∀ j, rL (S.2.1 12 j)) (c : tH (S.1 26) (S.2.1 12) = 0) : zEv X 3 mX9_needFaces [zR 0, zR 24] (cX S ++ t) (zIs (.inr 0) (cX S ++ t)) := by
  refine zEv_run gX9_needFaces 40 [] rfl ?_
  refine zCl_e (yholds2 hm hr) (by decide) ?_
  rw [c]
  refine zBrT rI_0 rfl ?_
  exact ⟨rfl, rfl⟩
set_option maxHeartbeats 1000000 in
set_option maxRecDepth 100000 in
theorem any2  : zEv X 1 mX9_anyTray [zR 0, zI 2] (cX S ++ t) (zIs (.inl (some (zR 24))) (cX S ++ t)) := by
  refine zEv_run gX9_anyTray 40 [] rfl ?_
  repeat (first
    | refine zBrT (by simp only [rI]; omega) (by omega) ?_
    | refine zBrF (by simp only [rI]; omega) (by omega) ?_
    | refine mVc_i (by first | omega | (simp only [rI]; omega)) ?_)
  exact ⟨rfl, rfl⟩
set_option maxHeartbeats 1000000 in
set_option maxRecDepth 100000 in
theorem ndt2_t (c : S.1 24 = 0) : zEv X 2 mX9_neededTray [zR 0, zI 2] (cX S ++ t) (zIs (.inl (some (zR 24))) (cX S ++ t)) := by
  refine zEv_run gX9_neededTray 40 [] rfl ?_
  refine zCl_e (any2) (by decide) ?_
  refine zBrT (by simp only [rI]; omega) c ?_
  exact ⟨rfl, rfl⟩
set_option maxHeartbeats 1000000 in
set_option maxRecDepth 100000 in
theorem ndt2_f (c : S.1 24 = 1) : zEv X 2 mX9_neededTray [zR 0, zI 2] (cX S ++ t) (zIs (.inr 2) (cX S ++ t)) := by
  refine zEv_run gX9_neededTray 40 [] rfl ?_
  refine zCl_e (any2) (by decide) ?_
  refine zBrF (by simp only [rI]; omega) (by omega) ?_
  exact ⟨rfl, rfl⟩
set_option maxHeartbeats 1000000 in
set_option maxRecDepth 100000 in
theorem nfc3_t (hm : 0 ≤ S.1 29 ∧ S.1 29 ≤ 30) (hr : ∀ j, rL (S.2.1 13 j)) (c : tH (S.1 29) (S.2.1 13) = 1) : zEv X 3 mX9_needFaces [zR 0, zR 26] (cX S ++ t) (zIs (.inl none) (cX S ++ t)) := by
  refine zEv_run gX9_needFaces 40 [] rfl ?_
  refine zCl_e (yholds3 hm hr) (by decide) ?_
  rw [c]
  refine zBrF rI_1 (by omega) ?_
  exact ⟨rfl, rfl⟩
set_option maxHeartbeats 1000000 in
set_option maxRecDepth 100000 in
theorem nfc3_f (hm : 0 ≤ S.1 29 ∧ S.1 29 ≤ 30) (hr : ∀ j, rL (S.2.1 13 j)) (c : tH (S.1 29) (S.2.1 13) = 0) : zEv X 3 mX9_needFaces [zR 0, zR 26] (cX S ++ t) (zIs (.inr 0) (cX S ++ t)) := by
  refine zEv_run gX9_needFaces 40 [] rfl ?_
  refine zCl_e (yholds3 hm hr) (by decide) ?_
  rw [c]
  refine zBrT rI_0 rfl ?_
  exact ⟨rfl, rfl⟩
set_option maxHeartbeats 1000000 in
set_option maxRecDepth 100000 in
theorem any3  : zEv X 1 mX9_anyTray [zR 0, zI 3] (cX S ++ t) (zIs (.inl (some (zR 26))) (cX S ++ t)) := by
  refine zEv_run gX9_anyTray 40 [] rfl ?_
  repeat (first
    | refine zBrT (by simp only [rI]; omega) (by omega) ?_
    | refine zBrF (by simp only [rI]; omega) (by omega) ?_
    | refine mVc_i (by first | omega | (simp only [rI]; omega)) ?_)
  exact ⟨rfl, rfl⟩
set_option maxHeartbeats 1000000 in
set_option maxRecDepth 100000 in
theorem ndt3_t (c : S.1 27 = 0) : zEv X 2 mX9_neededTray [zR 0, zI 3] (cX S ++ t) (zIs (.inl (some (zR 26))) (cX S ++ t)) := by
  refine zEv_run gX9_neededTray 40 [] rfl ?_
  refine zCl_e (any3) (by decide) ?_
  refine zBrT (by simp only [rI]; omega) c ?_
  exact ⟨rfl, rfl⟩
set_option maxHeartbeats 1000000 in
set_option maxRecDepth 100000 in
theorem ndt3_f (c : S.1 27 = 1) : zEv X 2 mX9_neededTray [zR 0, zI 3] (cX S ++ t) (zIs (.inr 2) (cX S ++ t)) := by
  refine zEv_run gX9_neededTray 40 [] rfl ?_
  refine zCl_e (any3) (by decide) ?_
  refine zBrF (by simp only [rI]; omega) (by omega) ?_
  exact ⟨rfl, rfl⟩
set_option maxHeartbeats 1000000 in
set_option maxRecDepth 100000 in
theorem any_f {x : Int} (hx : rI x) (c : ¬ (0 ≤ x ∧ x ≤ 3)) : zEv X 1 mX9_anyTray [zR 0, zI x] (cX S ++ t) (zIs (.inr 1) (cX S ++ t)) := by
  have hx1 := hx.1
  have hx2 := hx.2
  refine zEv_run gX9_anyTray 40 [] rfl ?_
  by_cases c1 : x < 0
  · refine zBrT hx c1 ?_
    exact ⟨rfl, rfl⟩
  · refine zBrF hx c1 ?_
    refine zBrF (by simp only [rI]; omega) (by omega) ?_
    exact ⟨rfl, rfl⟩
set_option maxHeartbeats 1000000 in
set_option maxRecDepth 100000 in
theorem ndt_f {x : Int} (hx : rI x) (c : ¬ (0 ≤ x ∧ x ≤ 3)) : zEv X 2 mX9_neededTray [zR 0, zI x] (cX S ++ t) (zIs (.inr 1) (cX S ++ t)) := by
  refine zEv_run gX9_neededTray 40 [] rfl ?_
  refine zCl_e (any_f hx c) (by decide) ?_
  exact ⟨rfl, rfl⟩
set_option maxHeartbeats 1000000 in
set_option maxRecDepth 100000 in
theorem nim_t {x : Int} (c : 0 ≤ x ∧ x < 3) : zEv X 1 mX9_needImagePlace [zR 0, zI x] (cX S ++ t) (zIs (.inl none) (cX S ++ t)) := by
  refine zEv_run gX9_needImagePlace 40 [] rfl ?_
  repeat (first
    | refine zBrT (by simp only [rI]; omega) (by omega) ?_
    | refine zBrF (by simp only [rI]; omega) (by omega) ?_
    | refine mVc_i (by first | omega | (simp only [rI]; omega)) ?_)
  exact ⟨rfl, rfl⟩
set_option maxHeartbeats 1000000 in
set_option maxRecDepth 100000 in
theorem nim_f {x : Int} (hx : rI x) (c : ¬ (0 ≤ x ∧ x < 3)) : zEv X 1 mX9_needImagePlace [zR 0, zI x] (cX S ++ t) (zIs (.inr 1) (cX S ++ t)) := by
  have hx1 := hx.1
  have hx2 := hx.2
  refine zEv_run gX9_needImagePlace 40 [] rfl ?_
  by_cases c1 : x < 0
  · refine zBrT hx c1 ?_
    exact ⟨rfl, rfl⟩
  · refine zBrF hx c1 ?_
    refine zBrF (by simp only [rI]; omega) (by omega) ?_
    exact ⟨rfl, rfl⟩
end Need
