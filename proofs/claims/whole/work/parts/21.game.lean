section Game
variable {X : mX} {S : sS} {t : zH}
set_option maxHeartbeats 4000000 in
set_option maxRecDepth 100000 in
theorem ev_hasDie_t {x : Int} (h0 : 0 ≤ x) (h1 : x < S.1 13) (h2 : S.1 13 ≤ 5) : zEv X 1 mX2_hasDie [zR 5, zI x] (cX S ++ t) (zIs (.inl (some (zI 1))) (cX S ++ t)) := by
  refine zEv_run gX2_hasDie 40 [] rfl ?_
  refine zBrF (by simp only [rI]; omega) (by omega) ?_
  refine zBrF (by simp only [rI]; omega) (by omega) ?_
  exact mVc_i (Or.inr rfl) ⟨rfl, rfl⟩
set_option maxHeartbeats 4000000 in
set_option maxRecDepth 100000 in
theorem ev_weight {x f : Int} (h0 : 0 ≤ x) (h1 : x < S.1 13) (h2 : S.1 13 ≤ 5) (h3 : 1 ≤ f) (h4 : f ≤ 6) : zEv X 1 mX2_weight [zR 5, zI x, zI f] (cX S ++ t) (zIs (.inl (some (zI (S.2.1 2 (x * 6 + f - 1).toNat)))) (cX S ++ t)) := by
  refine zEv_run gX2_weight 60 [] rfl ?_
  repeat (first
    | refine zBrT (by simp only [rI]; omega) (by omega) ?_
    | refine zBrF (by simp only [rI]; omega) (by omega) ?_
    | refine mVc_i (by first | omega | (simp only [rI]; omega)) ?_)
  exact ⟨rfl, rfl⟩
set_option maxHeartbeats 400000 in
set_option maxRecDepth 100000 in
theorem ev_total {x : Int} (h0 : 0 ≤ x) (h1 : x < S.1 13) (h2 : S.1 13 ≤ 5) : zEv X 2 mX2_total [zR 5, zI x] (cX S ++ t) (zIs (.inl (some (zI (S.2.1 2 (x * 6 + 1 - 1).toNat + S.2.1 2 (x * 6 + 2 - 1).toNat + S.2.1 2 (x * 6 + 3 - 1).toNat + S.2.1 2 (x * 6 + 4 - 1).toNat + S.2.1 2 (x * 6 + 5 - 1).toNat + S.2.1 2 (x * 6 + 6 - 1).toNat)))) (cX S ++ t)) := by
  refine zEv_run gX2_total 200 [] rfl ?_
  refine zBrF (by simp only [rI]; omega) (by omega) ?_
  refine zCl_e (ev_weight (by omega) (by omega) (by omega) (by omega) (by omega)) (by decide) ?_
  refine zBrF (by simp only [rI]; omega) (by omega) ?_
  refine zCl_e (ev_weight (by omega) (by omega) (by omega) (by omega) (by omega)) (by decide) ?_
  sorry
end Game
