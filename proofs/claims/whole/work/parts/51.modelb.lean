/-! the reference: whose hands wore it; told throws -/
/-- die d with the weights w -/
def vWd (v : vV) (d : Int) (w : Int → Int) : vV := (v.1, (fun d1 f => if d1 = d then w f else v.2.1.1 d1 f, v.2.1.2), v.2.2)
theorem vWd_r (v : vV) (d : Int) : vWd v d (v.2.1.1 d) = v := by
  have e : (fun d1 f => if d1 = d then v.2.1.1 d f else v.2.1.1 d1 f) = v.2.1.1 := by
    funext d1 f
    split
    · rename_i c; rw [c]
    · rfl
  simp only [vWd, e]
theorem vWd_w (v : vV) (d : Int) (w : Int → Int) (f z : Int) : vW (vWd v d w) d f z = vWd v d (fun f1 => if f1 = f then z else w f1) := by
  have e : (fun d1 f1 => if d1 = d ∧ f1 = f then z else if d1 = d then w f1 else v.2.1.1 d1 f1) = fun d1 f1 => if d1 = d then (if f1 = f then z else w f1) else v.2.1.1 d1 f1 := by
    funext d1 f1
    by_cases c : d1 = d
    · rw [if_pos c, if_pos c]
      by_cases c2 : f1 = f
      · rw [if_pos ⟨c, c2⟩, if_pos c2]
      · rw [if_neg (fun q => c2 q.2), if_neg c2]
    · rw [if_neg (fun q => c q.1), if_neg c, if_neg c]
  simp only [vWd, vW, e]
def sum6 (w : Int → Int) : Int := w 1 + w 2 + w 3 + w 4 + w 5 + w 6
theorem sum6_up (w : Int → Int) {f z : Int} (hf : 1 ≤ f ∧ f ≤ 6) : sum6 (fun f1 => if f1 = f then z else w f1) = sum6 w - w f + z := by
  have : f = 1 ∨ f = 2 ∨ f = 3 ∨ f = 4 ∨ f = 5 ∨ f = 6 := by omega
  simp only [sum6]
  rcases this with rfl | rfl | rfl | rfl | rfl | rfl <;> simp only [Int.reduceEq, if_true, if_false] <;> omega
theorem vSc_no {f : Int → Int} {tt key : Int} (h : ∀ r, f r ≠ tt) : ∀ (k : Nat) (r n : Int), vSc f tt key k r n = if key = -1 then n else -1 := by
  intro k
  induction k with
  | zero => intro r n; rfl
  | succ k ih => intro r n; rw [vSc, if_neg (h r), ih]
section Mdle
variable {X : mX} {S : sS} {K : kK} {t : zH} {v : vV} {T : tT}
set_option maxHeartbeats 1000000 in
set_option maxRecDepth 100000 in
theorem kwr (hk : kVn (K.2 0) v (v.1 4)) (hT : kTr K T) {d x row tt : Int} (hd : 0 ≤ d ∧ d < v.1 1) (c1 : 0 ≤ x ∧ x ≤ 3) (hff : (1 ≤ (T x).2.1 ∧ (T x).2.1 ≤ 5) ∧ ∀ i : Int, 0 ≤ i → i < (T x).2.1 → 1 ≤ (T x).2.2 i.toNat ∧ (T x).2.2 i.toNat ≤ 6) (htt : rI tt) : zEv X 4 mX10_wears [zR 29, zI d, zI x, zI row, zI tt] (cX S ++ (cM K ++ t)) (fun o9 h9 => ∃ c f : Nat → Int, o9 = .inl (some (zI (if 0 ≤ tt ∧ vTh0 v (T x).2.2 (T x).2.1 d row = tt then 1 else 0))) ∧ (∀ j, ¬ ((5 + 7 * d).toNat ≤ j ∧ j < (5 + 7 * d).toNat + 6) → c j = K.2 0 j) ∧ h9 = cX S ++ (cM (kA (kA K 0 c) 11 f) ++ t)) := by
  have b1 := hk.1.2.1
  have b2 := hk.1.2.2.1
  have b4 := hk.1.2.2.2.2.1
  have em := (hT.2 x c1.1 (by omega)).2.1
  have hs := hk.1.2.2.2.2.2.1.2.1 d
  have htt1 := htt.1
  have htt2 := htt.2
  have l1 : ∀ (k : Nat) (i : Int) (c f : Nat → Int) (w hh : Int → Int), 0 ≤ i → i + k = (T x).2.1 → kV c (vWd v d w) → (∀ j, ¬ ((5 + 7 * d).toNat ≤ j ∧ j < (5 + 7 * d).toNat + 6) → c j = K.2 0 j) → (∀ q : Int, 0 ≤ q → q < 4 → f q.toNat = hh q) → (∀ q, 0 ≤ w q ∧ w q ≤ 20) → (∀ q, 0 ≤ hh q ∧ hh q ≤ 9) → vTh0 v (T x).2.2 (T x).2.1 d row = vTb v (T x).2.2 (T x).2.1 d row k i w hh (sum6 w) → zWP X mX10_wears 4 (fun o9 h9 => ∃ c f : Nat → Int, o9 = .inl (some (zI (if 0 ≤ tt ∧ vTh0 v (T x).2.2 (T x).2.1 d row = tt then 1 else 0))) ∧ (∀ j, ¬ ((5 + 7 * d).toNat ≤ j ∧ j < (5 + 7 * d).toNat + 6) → c j = K.2 0 j) ∧ h9 = cX S ++ (cM (kA (kA K 0 c) 11 f) ++ t)) 35 [some (zR 29), some (zI d), some (zI x), some (zI row), some (zI tt), some (zI i), none, none] [] (cX S ++ (cM (kA (kA K 0 c) 11 f) ++ t)) 0 0 := by
    intro k
    induction k with
    | zero =>
      intro i c f w hh i0 hk0 hv2 hfr hq bw bq hev
      have b6 : 0 ≤ sum6 w ∧ sum6 w ≤ 120 := by
        have := bw 1
        have := bw 2
        have := bw 3
        have := bw 4
        have := bw 5
        have := bw 6
        simp only [sum6]
        omega
      refine zWP_run gX10_wears 80 [35] ?_
      refine mVc_i (by omega) ?_
      refine zBrT (by show rI i ∧ rI (K.2 13 x.toNat); rw [em]; simp only [rI]; omega) (by show K.2 13 x.toNat ≤ i; omega) ?_
      refine zCl_e (kto (K := kA (kA K 0 c) 11 f) hv2 hd) (by decide) ?_
      have et : vTot (vWd v d w).2.1 d = sum6 w := by
        show (if d = d then w 1 else _) + (if d = d then w 2 else _) + (if d = d then w 3 else _) + (if d = d then w 4 else _) + (if d = d then w 5 else _) + (if d = d then w 6 else _) = _
        simp only [if_true, sum6]
      rw [et]
      have e9 : vTh0 v (T x).2.2 (T x).2.1 d row = sum6 w := hev
      refine zBr (by first | (simp only [rI]; omega) | (simp only [rL]; omega)) (fun q => ?_) (fun q => ?_)
      · exact mVc_i (Or.inr rfl) ⟨c, f, by rw [if_pos ⟨by omega, by omega⟩], hfr, rfl⟩
      · exact mVc_i (Or.inl rfl) ⟨c, f, by rw [if_neg (fun z => q (by omega))], hfr, rfl⟩
    | succ k ih =>
      intro i c f w hh i0 hk0 hv2 hfr hq bw bq hev
      have hfi := hff.2 i i0 (by omega)
      have hnb := hnd_b row (2 * ((T x).2.1 - 1 - i))
      have bw1 := bw ((T x).2.2 i.toNat)
      have bq1 := bq (hnd row (2 * ((T x).2.1 - 1 - i)))
      have eh : (Int32.ofInt ((Int32.ofInt row >>> (Int32.ofInt (2 * (K.2 13 x.toNat - 1 - i)) &&& 31)).toInt) &&& Int32.ofInt 3).toInt = (hnd row (2 * ((T x).2.1 - 1 - i))) := by rw [em]; rfl
      have ewt : (vWd v d w).2.1.1 d ((T x).2.2 i.toNat) = w ((T x).2.2 i.toNat) := by
        show (if d = d then w ((T x).2.2 i.toNat) else _) = _
        rw [if_pos rfl]
      have eqh := hq (hnd row (2 * ((T x).2.1 - 1 - i))) hnb.1 hnb.2
      simp only [vTb] at hev
      have hop : zWP X mX10_wears 4 (fun o9 h9 => ∃ c f : Nat → Int, o9 = .inl (some (zI (if 0 ≤ tt ∧ vTh0 v (T x).2.2 (T x).2.1 d row = tt then 1 else 0))) ∧ (∀ j, ¬ ((5 + 7 * d).toNat ≤ j ∧ j < (5 + 7 * d).toNat + 6) → c j = K.2 0 j) ∧ h9 = cX S ++ (cM (kA (kA K 0 c) 11 f) ++ t)) 65 [some (zR 29), some (zI d), some (zI x), some (zI row), some (zI tt), some (zI i), some (zI (hnd row (2 * ((T x).2.1 - 1 - i)))), none] [] (cX S ++ (cM (kA (kA K 0 c) 11 f) ++ t)) 0 0 := by
        refine zWP_run gX10_wears 120 [35, 139] ?_
        refine zCl_e (kfo (K := kA (kA K 0 c) 11 f) hT c1 (by omega)) (by decide) ?_
        refine mVc_i (by simp only [rI]; omega) ?_
        by_cases ch : (hnd row (2 * ((T x).2.1 - 1 - i))) < v.1 2
        rotate_left
        · rw [if_pos ch] at hev
          refine zCl_e (khan_f (K := kA (kA K 0 c) 11 f) hv2 (x := (hnd row (2 * ((T x).2.1 - 1 - i)))) (by simp only [rL]; omega) (fun z => ch z.2)) (by decide) ?_
          refine zBrT (by first | (simp only [rI]; omega) | (simp only [rL]; omega)) (by omega) ?_
          exact mVc_i (Or.inl rfl) ⟨c, f, by rw [if_neg (fun z => by omega)], hfr, rfl⟩
        rw [if_neg (fun z => z ch)] at hev
        refine zCl_e (khan_t (K := kA (kA K 0 c) 11 f) hv2 (x := (hnd row (2 * ((T x).2.1 - 1 - i)))) (by simp only [rL]; omega) ⟨hnb.1, ch⟩) (by decide) ?_
        refine zBrF (by first | (simp only [rI]; omega) | (simp only [rL]; omega)) (by omega) ?_
        refine zCl_e (kw (K := kA (kA K 0 c) 11 f) hv2 hd hfi) (by decide) ?_
        rw [ewt]
        by_cases cw : w ((T x).2.2 i.toNat) = 0
        · rw [if_pos cw] at hev
          refine zBrT (by first | (simp only [rI]; omega) | (simp only [rL]; omega)) cw ?_
          exact mVc_i (Or.inl rfl) ⟨c, f, by rw [if_neg (fun z => by omega)], hfr, rfl⟩
        rw [if_neg cw] at hev
        refine zBrF (by first | (simp only [rI]; omega) | (simp only [rL]; omega)) cw ?_
        have cont : ∀ (c2 : Nat → Int) (lost : Int), lost = (if v.2.1.2.1 d = 1 then 0 else min (w ((T x).2.2 i.toNat)) (hh (hnd row (2 * ((T x).2.1 - 1 - i))))) → kV c2 (vWd v d (fun f1 => if f1 = ((T x).2.2 i.toNat) then w ((T x).2.2 i.toNat) - lost else w f1)) → (∀ j, ¬ ((5 + 7 * d).toNat ≤ j ∧ j < (5 + 7 * d).toNat + 6) → c2 j = K.2 0 j) → zWP X mX10_wears 4 (fun o9 h9 => ∃ c f : Nat → Int, o9 = .inl (some (zI (if 0 ≤ tt ∧ vTh0 v (T x).2.2 (T x).2.1 d row = tt then 1 else 0))) ∧ (∀ j, ¬ ((5 + 7 * d).toNat ≤ j ∧ j < (5 + 7 * d).toNat + 6) → c j = K.2 0 j) ∧ h9 = cX S ++ (cM (kA (kA K 0 c) 11 f) ++ t)) 139 [some (zR 29), some (zI d), some (zI x), some (zI row), some (zI tt), some (zI i), some (zI (hnd row (2 * ((T x).2.1 - 1 - i)))), some (zI ((T x).2.2 i.toNat))] [] (cX S ++ (cM (kA (kA K 0 c2) 11 f) ++ t)) 0 0 := by
          intro c2 lost hl hv3 hfr3
          have bl : 0 ≤ lost ∧ lost ≤ w ((T x).2.2 i.toNat) := by rw [hl]; split <;> omega
          rw [← hl] at hev
          refine zWP_run gX10_wears 80 [35] ?_
          refine mVc_i (by omega) ?_
          refine mVc_i (by show rI 9 ∧ rI (f (hnd row (2 * ((T x).2.1 - 1 - i))).toNat + 1); rw [eqh]; simp only [rI]; omega) ?_
          refine mVc_i (by omega) ?_
          have k3 := ih (i + 1) c2 (va_up f (hnd row (2 * ((T x).2.1 - 1 - i))).toNat (min 9 (f (hnd row (2 * ((T x).2.1 - 1 - i))).toNat + 1))) (fun f1 => if f1 = ((T x).2.2 i.toNat) then w ((T x).2.2 i.toNat) - lost else w f1) (fun q => if q = (hnd row (2 * ((T x).2.1 - 1 - i))) then min (hh (hnd row (2 * ((T x).2.1 - 1 - i))) + 1) 9 else hh q) (by omega) (by omega) hv3 hfr3 (fun q q0 q1 => by
            by_cases e : q = (hnd row (2 * ((T x).2.1 - 1 - i)))
            · rw [if_pos e, e, va_up_s, eqh]; omega
            · rw [if_neg e, va_up_o _ _ (by omega)]; exact hq q q0 q1) (fun q => by
            split
            · omega
            · exact bw q) (fun q => by
            split
            · omega
            · exact bq q) (by rw [hev, sum6_up w hfi, show sum6 w - w ((T x).2.2 i.toNat) + (w ((T x).2.2 i.toNat) - lost) = sum6 w - lost by omega])
          exact zWP_fg k3 (by repeat (first | exact trivial | refine ⟨rfl, ?_⟩))
        refine zCl_e (ksa (K := kA (kA K 0 c) 11 f) hv2 hd) (by decide) ?_
        refine zBb (P := v.2.1.2.1 d = 1) (fun cs => ?_) (fun cs => ?_)
        · refine zCl_e (kw (K := kA (kA K 0 c) 11 f) hv2 hd hfi) (by decide) ?_
          rw [ewt]
          refine mVc_i (by omega) ?_
          refine mVc_i (by show rI 0 ∧ rI (w ((T x).2.2 i.toNat) - f (hnd row (2 * ((T x).2.1 - 1 - i))).toNat); rw [eqh]; simp only [rI]; omega) ?_
          refine mVc_i (by omega) ?_
          have e1 : max 0 (w ((T x).2.2 i.toNat) - f (hnd row (2 * ((T x).2.1 - 1 - i))).toNat) = w ((T x).2.2 i.toNat) - min (w ((T x).2.2 i.toNat)) (hh (hnd row (2 * ((T x).2.1 - 1 - i)))) := by rw [eqh]; omega
          have h7 := kV_w hv2 hd.1 (by omega) hfi.1 hfi.2 (z := w ((T x).2.2 i.toNat) - min (w ((T x).2.2 i.toNat)) (hh (hnd row (2 * ((T x).2.1 - 1 - i))))) (by omega)
          rw [vWd_w] at h7
          have k4 := cont (va_up c (5 + 7 * d + ((T x).2.2 i.toNat) - 1).toNat (max 0 (w ((T x).2.2 i.toNat) - f (hnd row (2 * ((T x).2.1 - 1 - i))).toNat))) (min (w ((T x).2.2 i.toNat)) (hh (hnd row (2 * ((T x).2.1 - 1 - i))))) (by rw [if_neg cs]) (by rw [e1]; exact h7) (fun j hj => by rw [va_up_o _ _ (by omega)]; exact hfr j hj)
          exact k4
        · have k4 := cont c 0 (by rw [if_pos cs]) (by
            have e2 : (fun f1 => if f1 = ((T x).2.2 i.toNat) then w ((T x).2.2 i.toNat) - 0 else w f1) = w := by
              funext f1
              split
              · rename_i z; rw [z, Int.sub_zero]
              · rfl
            rw [e2]
            exact hv2) hfr
          exact k4
      refine zWP_run gX10_wears 120 [35, 65] ?_
      refine mVc_i (by omega) ?_
      refine zBrF (by show rI i ∧ rI (K.2 13 x.toNat); rw [em]; simp only [rI]; omega) (by show ¬ K.2 13 x.toNat ≤ i; omega) ?_
      refine mVc_i (by omega) ?_
      rw [← eh] at hop
      exact hop
  have l0 : ∀ (k : Nat) (i : Int) (f : Nat → Int), 0 ≤ i → i + k = 4 → (∀ q : Int, 0 ≤ q → q < i → f q.toNat = v.2.1.2.2.1 q) → zWP X mX10_wears 4 (fun o9 h9 => ∃ c f : Nat → Int, o9 = .inl (some (zI (if 0 ≤ tt ∧ vTh0 v (T x).2.2 (T x).2.1 d row = tt then 1 else 0))) ∧ (∀ j, ¬ ((5 + 7 * d).toNat ≤ j ∧ j < (5 + 7 * d).toNat + 6) → c j = K.2 0 j) ∧ h9 = cX S ++ (cM (kA (kA K 0 c) 11 f) ++ t)) 3 [some (zR 29), some (zI d), some (zI x), some (zI row), some (zI tt), some (zI i), none, none] [] (cX S ++ (cM (kA (kA K 0 (K.2 0)) 11 f) ++ t)) 0 0 := by
    intro k
    induction k with
    | zero =>
      intro i f i0 hk0 hf
      refine zWP_run gX10_wears 80 [3, 35] ?_
      refine zBrT (by first | (simp only [rI]; omega) | (simp only [rL]; omega)) (by omega) ?_
      exact l1 (T x).2.1.toNat 0 (K.2 0) f (v.2.1.1 d) v.2.1.2.2.1 (by omega) (by omega) (by rw [vWd_r]; exact hk) (fun _ _ => rfl) (fun q q0 q1 => hf q q0 (by omega)) (fun q => hk.1.2.2.2.2.2.1.1 d q) (fun q => hk.1.2.2.2.2.2.1.2.2.1 q) rfl
    | succ k ih =>
      intro i f i0 hk0 hf
      have e := hk.2.2.1.2.2.1 i i0 (by omega)
      rw [Nat.zero_add] at e
      refine zWP_run gX10_wears 80 [3, 35] ?_
      refine zBrF (by first | (simp only [rI]; omega) | (simp only [rL]; omega)) (by omega) ?_
      refine mVc_i (by omega) ?_
      refine mVc_i (by omega) ?_
      exact ih (i + 1) (va_up f i.toNat (K.2 0 (40 + i).toNat)) (by omega) (by omega) (fun q q0 q1 => by
        by_cases z : q = i
        · rw [z, va_up_s, e]
        · rw [va_up_o _ _ (by omega)]; exact hf q q0 (by omega))
  refine zEv_run gX10_wears 80 [3] rfl ?_
  have k9 := l0 4 0 (K.2 11) (by omega) (by omega) (fun q q0 q1 => by omega)
  rw [kA_same, kA_same] at k9
  exact k9
set_option maxHeartbeats 1000000 in
set_option maxRecDepth 100000 in
theorem kWorn (hk : kVn (K.2 0) v (v.1 4)) (hT : kTr K T) {d x tt key : Int} (hd : rI d) (hx : rI x) (htt : rI tt) (hkey : rI key) : zEv X 10 mX10_worn [zR 29, zI d, zI x, zI tt, zI key] (cX S ++ (cM K ++ t)) (kTp S K t (kcd [1, 2, 0]) (pWorn v T d x tt key)) := by
  unfold pWorn pFaces
  have b1 := hk.1.2.1
  have b2 := hk.1.2.2.1
  have b4 := hk.1.2.2.2.2.1
  have hd1 := hd.1
  have hd2 := hd.2
  have hx1 := hx.1
  have hx2 := hx.2
  have htt1 := htt.1
  have htt2 := htt.2
  have hkey1 := hkey.1
  have hkey2 := hkey.2
  by_cases c0 : 0 ≤ d ∧ d < v.1 1
  · rw [if_pos c0]
    by_cases c1 : 0 ≤ x ∧ x ≤ 3
    · rw [if_pos c1]
      by_cases c2 : ¬ (T x).1 = -1
      · rw [if_pos c2]
        by_cases c3 : tH (T x).2.1 (T x).2.2 = 1
        · rw [if_pos c3]
          have hff := tH_f c3
          have em := (hT.2 x c1.1 (by omega)).2.1
          have hmn := hff.1
          have esh := bt_shl (k := 2 * (T x).2.1) (by omega) (by omega)
          have p10 : 0 < (2 : Int) ^ (2 * (T x).2.1).toNat ∧ (2 : Int) ^ (2 * (T x).2.1).toNat ≤ 1024 := by
            have : (T x).2.1 = 1 ∨ (T x).2.1 = 2 ∨ (T x).2.1 = 3 ∨ (T x).2.1 = 4 ∨ (T x).2.1 = 5 := by omega
            rcases this with e | e | e | e | e <;> rw [e] <;> decide
          have lp : ∀ (k : Nat) (r n : Int) (R : kK), 0 ≤ r → r + k = 2 ^ (2 * (T x).2.1).toNat → 0 ≤ n ∧ n ≤ r → kF K R → R.1 0 = 0 → kV (R.2 0) v → (∀ i : Int, 0 ≤ i → i < 6 → R.2 6 i.toNat = v.2.1.1 d (i + 1)) → zWP X mX10_worn 10 (kTp S K t (kcd [1, 2, 0]) (.inl (vSc (fun r => if 0 ≤ tt then vTh0 v (T x).2.2 (T x).2.1 d r else tt + 1) tt key k r n), v)) 42 [some (zR 29), some (zI d), some (zI x), some (zI tt), some (zI key), some (zI n), some (zI r), none] [] (cX S ++ (cM R ++ t)) 0 0 := by
            intro k
            induction k with
            | zero =>
              intro r n R r0 hk0 hn hf R0 hr hrow
              have em2 : R.2 13 x.toNat = (T x).2.1 := by rw [hf.2 13 (by omega)]; exact em
              refine zWP_run gX10_worn 80 [42] ?_
              refine mVc_i (by omega) ?_
              refine zBrT ⟨by simp only [rI]; omega, rI_toInt _⟩ (by show (Int32.ofInt 1 <<< (Int32.ofInt (2 * R.2 13 x.toNat) &&& 31)).toInt ≤ r; rw [em2, esh]; omega) ?_
              simp only [vSc]
              refine zBr (by first | (simp only [rI]; omega) | (simp only [rL]; omega)) (fun q => ?_) (fun q => ?_)
              · rw [if_pos q]
                exact ⟨_, R, rfl, rfl, hf, hr, rfl, R0⟩
              · rw [if_neg q]
                exact ⟨_, R, rfl, rfl, hf, hr, rfl, R0⟩
            | succ k ih =>
              intro r n R r0 hk0 hn hf R0 hr hrow
              have hT2 := kTr_F hf hT
              have em2 : R.2 13 x.toNat = (T x).2.1 := by rw [hf.2 13 (by omega)]; exact em
              refine zWP_run gX10_worn 80 [42] ?_
              refine mVc_i (by omega) ?_
              refine zBrF ⟨by simp only [rI]; omega, rI_toInt _⟩ (by show ¬ (Int32.ofInt 1 <<< (Int32.ofInt (2 * R.2 13 x.toNat) &&& 31)).toInt ≤ r; rw [em2, esh]; omega) ?_
              refine zCl_i (kwr hr hT2 c0 c1 hff htt) (by decide) ?_
              rintro o9 h9 ⟨c, f, rfl, hfr, rfl⟩
              refine zCl_i (kputs (K := kA (kA R 0 c) 11 f) (d := d) (by omega)) (by decide) ?_
              rintro o9 h9 ⟨rfl, c5, e1, e2, rfl⟩
              have hv5 : kV c5 v := kV_back hr c0 hrow e1 (fun j hj => by rw [e2 j hj]; exact hfr j hj)
              have hf5 : kF K (kA (kA (kA R 0 c) 11 f) 0 c5) := kF_t hf (kF_t (kF_t (kF_A _ _ (by omega)) (kF_A _ _ (by omega))) (kF_A _ _ (by omega)))
              have hP : (0 ≤ tt ∧ vTh0 v (T x).2.2 (T x).2.1 d r = tt) ↔ (fun r => if 0 ≤ tt then vTh0 v (T x).2.2 (T x).2.1 d r else tt + 1) r = tt := by
                show _ ↔ (if 0 ≤ tt then vTh0 v (T x).2.2 (T x).2.1 d r else tt + 1) = tt
                by_cases z : 0 ≤ tt
                · rw [if_pos z]; exact ⟨fun q => q.2, fun q => ⟨z, q⟩⟩
                · rw [if_neg z]; exact ⟨fun q => absurd q.1 z, fun q => by omega⟩
              simp only [vSc]
              refine zBb (P := 0 ≤ tt ∧ vTh0 v (T x).2.2 (T x).2.1 d r = tt) (fun q => ?_) (fun q => ?_)
              · rw [if_neg (fun z => q (hP.mpr z))]
                exact zWP_fg (ih (r + 1) n (kA (kA (kA R 0 c) 11 f) 0 c5) (by omega) (by omega) (by omega) hf5 R0 hv5 hrow) (by repeat (first | exact trivial | refine ⟨rfl, ?_⟩))
              · rw [if_pos (hP.mp q)]
                refine zBr (by first | (simp only [rI]; omega) | (simp only [rL]; omega)) (fun q2 => ?_) (fun q2 => ?_)
                · rw [if_pos q2]
                  exact ⟨_, _, rfl, rfl, hf5, hv5, rfl, R0⟩
                · rw [if_neg q2]
                  exact zWP_fg (ih (r + 1) (n + 1) (kA (kA (kA R 0 c) 11 f) 0 c5) (by omega) (by omega) (by omega) hf5 R0 hv5 hrow) (by repeat (first | exact trivial | refine ⟨rfl, ?_⟩))
          have ev : vWn v (T x).2.2 (T x).2.1 d tt key = vSc (fun r => if 0 ≤ tt then vTh0 v (T x).2.2 (T x).2.1 d r else tt + 1) tt key (2 ^ (2 * (T x).2.1).toNat) 0 0 := by
            unfold vWn
            by_cases z : 0 ≤ tt
            · rw [if_neg (by omega)]
              have : (fun r => if 0 ≤ tt then vTh0 v (T x).2.2 (T x).2.1 d r else tt + 1) = vTh0 v (T x).2.2 (T x).2.1 d := by funext r; rw [if_pos z]
              rw [this]
            · rw [if_pos (by omega), vSc_no (f := (fun r => if 0 ≤ tt then vTh0 v (T x).2.2 (T x).2.1 d r else tt + 1)) (fun r => by rw [if_neg z]; omega)]
              rfl
          rw [ev]
          refine zEv_run gX10_worn 80 [42] rfl ?_
          refine mVc_i (by first | omega | (simp only [rI]; omega) | (simp only [rL]; omega)) ?_
          refine zCl_e (kdie_t (K := K) hk (by simp only [rL]; omega) c0) (by decide) ?_
          refine zBrF (by first | (simp only [rI]; omega) | (simp only [rL]; omega)) (by omega) ?_
          refine zCl_e (kff_t hT hx c1 c2 c3) (by decide) ?_
          refine zBrT (by first | (simp only [rI]; omega) | (simp only [rL]; omega)) (by omega) ?_
          refine zCl_i (klay (K := kI K 0 0) hk c0) (by decide) ?_
          rintro o9 h9 ⟨rfl, r, hr, rfl⟩
          have h9 : ((2 ^ (2 * (T x).2.1).toNat : Nat) : Int) = (2 : Int) ^ (2 * (T x).2.1).toNat := by simp
          exact lp (2 ^ (2 * (T x).2.1).toNat) 0 0 (kA (kI K 0 0) 6 r) (by omega) (by omega) (by omega) (kF_t (kF_t (kF_r K) (kF_I _ _ (by omega))) (kF_A _ _ (by omega))) rfl hk hr
        · rw [if_neg c3]
          refine zEv_run gX10_worn 80 [42] rfl ?_
          refine mVc_i (by first | omega | (simp only [rI]; omega) | (simp only [rL]; omega)) ?_
          refine zCl_e (kdie_t (K := K) hk (by simp only [rL]; omega) c0) (by decide) ?_
          refine zBrF (by first | (simp only [rI]; omega) | (simp only [rL]; omega)) (by omega) ?_
          refine zCl_e (kff_3 hT hx c1 c2 c3) (by decide) ?_
          refine zBrF (by first | (simp only [rI]; omega) | (simp only [rL]; omega)) (by omega) ?_
          exact ⟨0, kI K 0 3, rfl, rfl, kF_t (kF_r K) (kF_I _ _ (by omega)), hk, rfl⟩
      · rw [if_neg c2]
        refine zEv_run gX10_worn 80 [42] rfl ?_
        refine mVc_i (by first | omega | (simp only [rI]; omega) | (simp only [rL]; omega)) ?_
        refine zCl_e (kdie_t (K := K) hk (by simp only [rL]; omega) c0) (by decide) ?_
        refine zBrF (by first | (simp only [rI]; omega) | (simp only [rL]; omega)) (by omega) ?_
        refine zCl_e (kff_2 hT hx c1 (Decidable.not_not.mp c2)) (by decide) ?_
        refine zBrF (by first | (simp only [rI]; omega) | (simp only [rL]; omega)) (by omega) ?_
        exact ⟨0, kI K 0 2, rfl, rfl, kF_t (kF_r K) (kF_I _ _ (by omega)), hk, rfl⟩
    · rw [if_neg c1]
      refine zEv_run gX10_worn 80 [42] rfl ?_
      refine mVc_i (by first | omega | (simp only [rI]; omega) | (simp only [rL]; omega)) ?_
      refine zCl_e (kdie_t (K := K) hk (by simp only [rL]; omega) c0) (by decide) ?_
      refine zBrF (by first | (simp only [rI]; omega) | (simp only [rL]; omega)) (by omega) ?_
      refine zCl_e (kff_1 hx c1) (by decide) ?_
      refine zBrF (by first | (simp only [rI]; omega) | (simp only [rL]; omega)) (by omega) ?_
      exact ⟨0, kI K 0 1, rfl, rfl, kF_t (kF_r K) (kF_I _ _ (by omega)), hk, rfl⟩
  · rw [if_neg c0]
    refine zEv_run gX10_worn 80 [42] rfl ?_
    refine mVc_i (by first | omega | (simp only [rI]; omega) | (simp only [rL]; omega)) ?_
    refine zCl_e (kdie_f (K := K) hk (by simp only [rL]; omega) c0) (by decide) ?_
    refine zBrT (by first | (simp only [rI]; omega) | (simp only [rL]; omega)) (by omega) ?_
    refine zBrF (by first | (simp only [rI]; omega) | (simp only [rL]; omega)) (by omega) ?_
    exact ⟨0, kI K 0 1, rfl, rfl, kF_t (kF_r K) (kF_I _ _ (by omega)), hk, rfl⟩
end Mdle
