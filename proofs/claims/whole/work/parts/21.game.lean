section Game
variable {X : mX} {S : sS} {t : zH} {v : vV}
set_option maxHeartbeats 4000000 in
set_option maxRecDepth 100000 in
theorem gd_t (hv : vX S v) {x : Int} (h0 : 0 ≤ x) (h1 : x < v.1 1) : zEv X 1 mX2_hasDie [zR 5, zI x] (cX S ++ t) (zIs (.inl (some (zI (1)))) (cX S ++ t)) := by
  obtain ⟨hb, -, e1, e2, e3, e4, hrow, -⟩ := hv
  obtain ⟨b0, b1, b2, b3, b4, bs, -⟩ := hb
  refine zEv_run gX2_hasDie 60 [] rfl ?_
  repeat (first
    | refine zBrT (by simp only [rI]; omega) (by omega) ?_
    | refine zBrF (by simp only [rI]; omega) (by omega) ?_
    | refine mVc_i (by first | omega | (simp only [rI]; omega)) ?_)
  exact ⟨rfl, rfl⟩
set_option maxHeartbeats 4000000 in
set_option maxRecDepth 100000 in
theorem gd_f (hv : vX S v) {x : Int} (hx : rI x) (h0 : ¬ (0 ≤ x ∧ x < v.1 1)) : zEv X 1 mX2_hasDie [zR 5, zI x] (cX S ++ t) (zIs (.inl (some (zI (0)))) (cX S ++ t)) := by
  obtain ⟨hb, -, e1, e2, e3, e4, hrow, -⟩ := hv
  obtain ⟨b0, b1, b2, b3, b4, bs, -⟩ := hb
  have hx1 := hx.1
  have hx2 := hx.2
  refine zEv_run gX2_hasDie 60 [] rfl ?_
  by_cases hn : x < 0
  · refine zBrT hx hn ?_
    exact mVc_i (Or.inl rfl) ⟨rfl, rfl⟩
  · refine zBrF hx hn ?_
    refine zBrT ⟨hx, by simp only [rI]; omega⟩ (by omega) ?_
    exact mVc_i (Or.inl rfl) ⟨rfl, rfl⟩
set_option maxHeartbeats 4000000 in
set_option maxRecDepth 100000 in
theorem gh_t (hv : vX S v) {x : Int} (h0 : 0 ≤ x) (h1 : x < v.1 2) : zEv X 1 mX2_hasHand [zR 5, zI x] (cX S ++ t) (zIs (.inl (some (zI (1)))) (cX S ++ t)) := by
  obtain ⟨hb, -, e1, e2, e3, e4, hrow, -⟩ := hv
  obtain ⟨b0, b1, b2, b3, b4, bs, -⟩ := hb
  refine zEv_run gX2_hasHand 60 [] rfl ?_
  repeat (first
    | refine zBrT (by simp only [rI]; omega) (by omega) ?_
    | refine zBrF (by simp only [rI]; omega) (by omega) ?_
    | refine mVc_i (by first | omega | (simp only [rI]; omega)) ?_)
  exact ⟨rfl, rfl⟩
set_option maxHeartbeats 4000000 in
set_option maxRecDepth 100000 in
theorem gh_f (hv : vX S v) {x : Int} (hx : rI x) (h0 : ¬ (0 ≤ x ∧ x < v.1 2)) : zEv X 1 mX2_hasHand [zR 5, zI x] (cX S ++ t) (zIs (.inl (some (zI (0)))) (cX S ++ t)) := by
  obtain ⟨hb, -, e1, e2, e3, e4, hrow, -⟩ := hv
  obtain ⟨b0, b1, b2, b3, b4, bs, -⟩ := hb
  have hx1 := hx.1
  have hx2 := hx.2
  refine zEv_run gX2_hasHand 60 [] rfl ?_
  by_cases hn : x < 0
  · refine zBrT hx hn ?_
    exact mVc_i (Or.inl rfl) ⟨rfl, rfl⟩
  · refine zBrF hx hn ?_
    refine zBrT ⟨hx, by simp only [rI]; omega⟩ (by omega) ?_
    exact mVc_i (Or.inl rfl) ⟨rfl, rfl⟩
set_option maxHeartbeats 4000000 in
set_option maxRecDepth 100000 in
theorem gw (hv : vX S v) {x f : Int} (h0 : 0 ≤ x) (h1 : x < v.1 1) (h2 : 1 ≤ f) (h3 : f ≤ 6) : zEv X 1 mX2_weight [zR 5, zI x, zI f] (cX S ++ t) (zIs (.inl (some (zI (v.2.1.1 x f)))) (cX S ++ t)) := by
  obtain ⟨hb, -, e1, e2, e3, e4, hrow, -⟩ := hv
  obtain ⟨b0, b1, b2, b3, b4, bs, -⟩ := hb
  refine zEv_run gX2_weight 60 [] rfl ?_
  repeat (first
    | refine zBrT (by simp only [rI]; omega) (by omega) ?_
    | refine zBrF (by simp only [rI]; omega) (by omega) ?_
    | refine mVc_i (by first | omega | (simp only [rI]; omega)) ?_)
  refine ⟨?_, rfl⟩
  rw [← hrow.1 x f h0 (by omega) h2 h3, Nat.zero_add]
set_option maxHeartbeats 4000000 in
set_option maxRecDepth 100000 in
theorem gtot (hv : vX S v) {x : Int} (h0 : 0 ≤ x) (h1 : x < v.1 1) : zEv X 2 mX2_total [zR 5, zI x] (cX S ++ t) (zIs (.inl (some (zI (vTot v.2.1 x)))) (cX S ++ t)) := by
  refine zEv_run gX2_total 200 [] rfl ?_
  repeat (first
    | refine zBrT (by simp only [rI]; omega) (by omega) ?_
    | refine zBrF (by simp only [rI]; omega) (by omega) ?_
    | refine zCl_e (gw hv (by omega) (by omega) (by omega) (by omega)) (by decide) ?_
    | refine mVc_i (by first | omega | (simp only [rI]; omega)) ?_)
  refine ⟨?_, rfl⟩
  simp only [vTot, Int.zero_add]
  rfl
theorem gbd (hv : vX S v) (d f : Int) : 0 ≤ v.2.1.1 d f ∧ v.2.1.1 d f ≤ 20 := hv.1.2.2.2.2.2.1.1 d f
theorem gtb (hv : vX S v) (d : Int) : 0 ≤ vTot v.2.1 d ∧ vTot v.2.1 d ≤ 120 := vTot_b hv.1.2.2.2.2.2.1 d
set_option maxHeartbeats 4000000 in
set_option maxRecDepth 100000 in
theorem ggone (hv : vX S v) {x : Int} (h0 : 0 ≤ x) (h1 : x < v.1 1) : zEv X 3 mX2_isGone [zR 5, zI x] (cX S ++ t) (zIs (.inl (some (zI (if vTot v.2.1 x = 0 then 1 else 0)))) (cX S ++ t)) := by
  have hb := gtb hv x
  refine zEv_run gX2_isGone 60 [] rfl ?_
  refine zCl_e (gtot hv h0 h1) (by decide) ?_
  refine zBr (by simp only [rI]; omega) (fun c => ?_) (fun c => ?_)
  · refine mVc_i (Or.inr rfl) ⟨?_, rfl⟩
    rw [if_pos c]
  · refine mVc_i (Or.inl rfl) ⟨?_, rfl⟩
    rw [if_neg c]
set_option maxHeartbeats 4000000 in
set_option maxRecDepth 100000 in
theorem gsalt (hv : vX S v) {x : Int} (h0 : 0 ≤ x) (h1 : x < v.1 1) : zEv X 1 mX2_isSalt [zR 5, zI x] (cX S ++ t) (zIs (.inl (some (zI (v.2.1.2.1 x)))) (cX S ++ t)) := by
  obtain ⟨hb, -, e1, e2, e3, e4, hrow, -⟩ := hv
  obtain ⟨b0, b1, b2, b3, b4, bs, -⟩ := hb
  have hq := vBit bs h0 (d := x) (by omega)
  have hs := bs.2.1 x
  have e9 := hrow.2.1
  rw [Nat.zero_add] at e9
  have e10 := bt_shr (c := S.2.1 2 30) (k := x) (by omega) (by omega) h0 (by omega)
  rw [e9, hq.1] at e10
  refine zEv_run gX2_isSalt 60 [] rfl ?_
  refine mVc_i (by first | omega | (simp only [rI]; omega)) ?_
  refine zBr ⟨?_, by simp only [rI]; omega⟩ (fun c => ?_) (fun c => ?_)
  · show rI ((Int32.ofInt ((Int32.ofInt (S.2.1 2 30) >>> (Int32.ofInt x &&& 31)).toInt) &&& Int32.ofInt 1).toInt)
    rw [e9, e10]
    simp only [rI]
    omega
  · have c2 : (Int32.ofInt ((Int32.ofInt (S.2.1 2 30) >>> (Int32.ofInt x &&& 31)).toInt) &&& Int32.ofInt 1).toInt = 1 := c
    rw [e9, e10] at c2
    exact mVc_i (Or.inr rfl) ⟨by rw [c2], rfl⟩
  · have c2 : ¬ (Int32.ofInt ((Int32.ofInt (S.2.1 2 30) >>> (Int32.ofInt x &&& 31)).toInt) &&& Int32.ofInt 1).toInt = 1 := c
    rw [e9, e10] at c2
    have c3 : v.2.1.2.1 x = 0 := by omega
    exact mVc_i (Or.inl rfl) ⟨by rw [c3], rfl⟩
set_option maxHeartbeats 4000000 in
set_option maxRecDepth 100000 in
theorem gheat (hv : vX S v) {x : Int} (h0 : 0 ≤ x) (h1 : x < v.1 2) : zEv X 2 mX2_heat [zR 5, zI x] (cX S ++ t) (zIs (.inl (some (zI (v.2.1.2.2.1 x)))) (cX S ++ t)) := by
  have hv0 := hv
  obtain ⟨hb, -, e1, e2, e3, e4, hrow, -⟩ := hv
  obtain ⟨b0, b1, b2, b3, b4, bs, -⟩ := hb
  refine zEv_run gX2_heat 60 [] rfl ?_
  repeat (first
    | refine zBrT (by simp only [rI]; omega) (by omega) ?_
    | refine zBrF (by simp only [rI]; omega) (by omega) ?_
    | refine zCl_e (gh_t hv0 (by omega) (by omega)) (by decide) ?_
    | refine mVc_i (by first | omega | (simp only [rI]; omega)) ?_)
  refine ⟨?_, rfl⟩
  rw [← hrow.2.2.1 x h0 (by omega), Nat.zero_add]
set_option maxHeartbeats 4000000 in
set_option maxRecDepth 100000 in
theorem glot (hv : vX S v) {x : Int} (h0 : 0 ≤ x) (h1 : x < v.1 2) : zEv X 2 mX2_dieByLot [zR 5, zI x] (cX S ++ t) (zIs (.inl (some (zI (v.2.1.2.2.2 x)))) (cX S ++ t)) := by
  have hv0 := hv
  obtain ⟨hb, -, e1, e2, e3, e4, hrow, -⟩ := hv
  obtain ⟨b0, b1, b2, b3, b4, bs, -⟩ := hb
  refine zEv_run gX2_dieByLot 60 [] rfl ?_
  repeat (first
    | refine zBrT (by simp only [rI]; omega) (by omega) ?_
    | refine zBrF (by simp only [rI]; omega) (by omega) ?_
    | refine zCl_e (gh_t hv0 (by omega) (by omega)) (by decide) ?_
    | refine mVc_i (by first | omega | (simp only [rI]; omega)) ?_)
  refine ⟨?_, rfl⟩
  rw [← hrow.2.2.2 x h0 h1, Nat.zero_add]
set_option maxHeartbeats 4000000 in
set_option maxRecDepth 100000 in
theorem groom (hv : vX S v) : zEv X 1 mX2_hasRoomForThrow [zR 5] (cX S ++ t) (zIs (.inl (some (zI (if v.1 4 < 60 then 1 else 0)))) (cX S ++ t)) := by
  obtain ⟨hb, -, e1, e2, e3, e4, hrow, -⟩ := hv
  obtain ⟨b0, b1, b2, b3, b4, bs, -⟩ := hb
  refine zEv_run gX2_hasRoomForThrow 60 [] rfl ?_
  refine zBr (by simp only [rI]; omega) (fun c => ?_) (fun c => ?_)
  · refine mVc_i (Or.inl rfl) ⟨?_, rfl⟩
    rw [if_neg (by omega)]
  · refine mVc_i (Or.inr rfl) ⟨?_, rfl⟩
    rw [if_pos (by omega)]
end Game
