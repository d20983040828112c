/-! the class reads lines; table, feed, fault, count -/
/-- all that is known between two lines' words -/
def cP (S : sS) (B : Int → Int) (n : Int) (q : pT) (fr : pF) : Prop := cT S B n ∧ cQ S q ∧ cFr S fr
/-- how a piece of a line ends: read, or the fault noted -/
def cRs (S : sS) (t : zH) (B : Int → Int) (n : Int) (r : pR) : zO → zH → Prop := fun o9 h9 => ∃ R : sS, h9 = cX R ++ t ∧ sP S R ∧ ((r.1 = 0 ∧ o9 = .inl (some (zI 1)) ∧ cP R B n r.2.2.1 r.2.2.2) ∨ (¬ r.1 = 0 ∧ o9 = .inl (some (zI 0)) ∧ R.1 5 = r.1 ∧ R.1 6 = r.2.1 ∧ 0 ≤ R.1 10 ∧ R.1 10 ≤ 8))
section Rdr
variable {X : mX} {S : sS} {t : zH} {B : Int → Int} {n m : Int} {q : pT} {fr : pF}
set_option maxHeartbeats 1000000 in
set_option maxRecDepth 100000 in
theorem xif {k : Int} (hr : 0 ≤ S.1 10 ∧ S.1 10 ≤ 8) : zEv X 1 mX5_isFaulty [zR 3, zI k] (cX S ++ t) (zIs (.inl (some (zI (0)))) (cX (sI (sI S 5 (if S.1 10 = 8 then 1 else k)) 6 (S.1 9)) ++ t)) := by
  refine zEv_run gX5_isFaulty 40 [] rfl ?_
  refine zBr (by first | (simp only [rI]; omega) | (simp only [rL]; omega)) (fun c => ?_) (fun c => ?_)
  · rw [if_pos c]
    exact mVc_i (Or.inl rfl) ⟨rfl, rfl⟩
  · rw [if_neg c]
    exact mVc_i (Or.inl rfl) ⟨rfl, rfl⟩
theorem xfl {k : Int} (hp : cP S B n q fr) (hq : pTk B n q) : zEv X 1 mX5_isFaulty [zR 3, zI k] (cX S ++ t) (fun o9 h9 => o9 = .inl (some (zI 0)) ∧ ∃ R : sS, h9 = cX R ++ t ∧ sP S R ∧ R.1 5 = (if q.2.2.1 = 8 then 1 else k) ∧ R.1 6 = q.2.1 ∧ 0 ≤ R.1 10 ∧ R.1 10 ≤ 8) := by
  have hb := pTk_b hq
  have e := hp.2.1
  have k9 := xif (X := X) (t := t) (S := S) (k := k) (by rw [e.2.2.1]; omega)
  refine zEv_w k9 ?_
  rintro o9 h9 ⟨rfl, rfl⟩
  refine ⟨rfl, _, rfl, sP_t (sP_I S _ (by omega)) (sP_I _ _ (by omega)), ?_, ?_, ?_⟩
  · show (if S.1 10 = 8 then 1 else k) = _
    rw [e.2.2.1]
  · show S.1 9 = _
    exact e.2.1
  · show 0 ≤ S.1 10 ∧ S.1 10 ≤ 8
    rw [e.2.2.1]
    omega
set_option maxHeartbeats 1000000 in
set_option maxRecDepth 100000 in
theorem xrn (hp : cP S B n q fr) (hq : pTk B n q) {lo hi : Int} (hl : rI lo) (hh : rI hi) : zEv X 2 mX5_readsNumber [zR 3, zI lo, zI hi] (cX S ++ t) (fun o9 h9 => ∃ R : sS, h9 = cX R ++ t ∧ sP S R ∧ ((pNk q lo hi = 0 ∧ o9 = .inl (some (zI 1)) ∧ R = S) ∨ (¬ pNk q lo hi = 0 ∧ o9 = .inl (some (zI 0)) ∧ R.1 5 = pNk q lo hi ∧ R.1 6 = q.2.1 ∧ 0 ≤ R.1 10 ∧ R.1 10 ≤ 8))) := by
  have hb := pTk_b hq
  have e := hp.2.1
  have hno := pNo_b q
  refine zEv_run gX5_readsNumber 60 [30] rfl ?_
  by_cases c : q.2.2.1 = 2
  rotate_left
  · have ek : pNk q lo hi = pNo q := by rw [pNk, if_pos c]
    rw [ek]
    refine zBrF (by rw [e.2.2.1]; simp only [rI]; omega) (by rw [e.2.2.1]; exact c) ?_
    refine zCl_i (xfl (k := 2) hp hq) (by decide) ?_
    rintro o9 h9 ⟨rfl, R, rfl, f1, r5, r6⟩
    refine mVc_i (Or.inl rfl) ⟨R, rfl, f1, Or.inr ⟨by omega, rfl, ?_, r6⟩⟩
    rw [r5]
    rfl
  · have ev := e.2.2.2 c
    refine zBrT (by rw [e.2.2.1]; simp only [rI]; omega) (by rw [e.2.2.1]; exact c) ?_
    have bad : (q.2.2.2 < lo ∨ hi < q.2.2.2) → zWP X mX5_readsNumber 2 (fun o9 h9 => ∃ R : sS, h9 = cX R ++ t ∧ sP S R ∧ ((pNk q lo hi = 0 ∧ o9 = .inl (some (zI 1)) ∧ R = S) ∨ (¬ pNk q lo hi = 0 ∧ o9 = .inl (some (zI 0)) ∧ R.1 5 = pNk q lo hi ∧ R.1 6 = q.2.1 ∧ 0 ≤ R.1 10 ∧ R.1 10 ≤ 8))) 30 [some (zR 3), some (zI lo), some (zI hi)] [] (cX S ++ t) 0 0 := by
      intro z
      have ek : pNk q lo hi = 3 := by rw [pNk, if_neg (fun y => y c), if_pos z]
      rw [ek]
      refine zWP_run gX5_readsNumber 60 [] ?_
      refine zCl_i (xfl (k := 3) hp hq) (by decide) ?_
      rintro o9 h9 ⟨rfl, R, rfl, f1, r5, r6⟩
      refine mVc_i (Or.inl rfl) ⟨R, rfl, f1, Or.inr ⟨by omega, rfl, ?_, r6⟩⟩
      rw [r5, if_neg (by omega)]
    refine zBr ⟨by rw [ev]; simp only [rI]; omega, hl⟩ (fun z => ?_) (fun z => ?_)
    · rw [ev] at z
      exact bad (Or.inl z)
    · rw [ev] at z
      refine zBr ⟨by rw [ev]; simp only [rI]; omega, hh⟩ (fun z2 => ?_) (fun z2 => ?_)
      · rw [ev] at z2
        have ek : pNk q lo hi = 0 := by rw [pNk, if_neg (fun y => y c), if_neg (by omega)]
        exact mVc_i (Or.inr rfl) ⟨S, rfl, sP_r S, Or.inl ⟨ek, rfl, rfl⟩⟩
      · rw [ev] at z2
        exact bad (Or.inr (by omega))
/-- the next token, all else as it was -/
theorem xnx {fr2 : pF} (hB : ∀ a, -128 ≤ B a ∧ B a ≤ 127) (hc : cT S B n) (h8 : S.1 8 = q.1) (hq : pTk B n q) (hf : cFr S fr2) : zEv X 8 mX5_nextToken [zR 3] (cX S ++ t) (fun o9 h9 => o9 = .inl none ∧ ∃ R : sS, h9 = cX R ++ t ∧ sP S R ∧ cP R B n (tok B n q.1) fr2) := by
  have hb := pTk_b hq
  refine zEv_w (xnt (X := X) (t := t) hB hc h8 hb.1) ?_
  rintro o9 h9 ⟨rfl, R, rfl, f1, hr⟩
  exact ⟨rfl, R, rfl, sP_K f1, cT_K f1 hc, hr, cFr_K f1 hf⟩
theorem cT_P {S R : sS} {B : Int → Int} {n : Int} (h : sP S R) (h7 : R.1 7 = S.1 7) (k : cT S B n) : cT R B n := by
  unfold cT
  rw [h.1 0 (by omega), h7, h.2.1 0 (by omega)]
  exact k
theorem cFr_d {S : sS} {fr : pF} (h : cFr S fr) {f z : Int} (hd : 0 ≤ fr.1 1 ∧ fr.1 1 < 5) (hs : vSb fr.2) (hf : 1 ≤ f ∧ f ≤ 6) (hz : 0 ≤ z ∧ z ≤ 20) : cFr (sA S 1 (va_up (S.2.1 1) (S.1 2 * 6 + f - 1).toNat z)) (fr.1, sWt fr.2 (fr.1 1) f z) := by
  obtain ⟨h1, h2, h3, h4, h5, h6, h7⟩ := h
  refine ⟨h1, h2, h3, h4, h5, h6, ?_⟩
  rw [h2]
  exact vRow_w hs h7 hd.1 hd.2 hf.1 hf.2 hz
set_option maxHeartbeats 1000000 in
set_option maxRecDepth 100000 in
theorem xrd (hB : ∀ a, -128 ≤ B a ∧ B a ≤ 127) (hp : cP S B n q fr) (hq : pTk B n q) (hf : pFb m fr) (h3 : q.2.2.1 = 3) : zEv X 9 mX5_readsDie [zR 3] (cX S ++ t) (cRs S t B n (pDl B n q fr)) := by
  obtain ⟨f0, f1, f2, f3, fs⟩ := hf
  have e2 : S.1 2 = fr.1 1 := hp.2.2.2.1
  unfold pDl
  refine zEv_run gX5_readsDie 60 [22] rfl ?_
  by_cases c5 : 5 ≤ fr.1 1
  · rw [if_pos c5]
    refine zBrF (by rw [e2]; simp only [rI]; omega) (by rw [e2]; omega) ?_
    refine zCl_i (xfl (k := 4) hp hq) (by decide) ?_
    rintro o9 h9 ⟨rfl, R, rfl, f1, r5, r6⟩
    refine mVc_i (Or.inl rfl) ⟨R, rfl, ‹sP S R›, Or.inr ⟨by simp only; omega, rfl, ?_, r6⟩⟩
    rw [r5, if_neg (by omega)]
  rw [if_neg c5]
  refine zBrT (by rw [e2]; simp only [rI]; omega) (by rw [e2]; omega) ?_
  refine zCl_i (xnx hB hp.1 hp.2.1.1 hq hp.2.2) (by decide) ?_
  rintro o9 h9 ⟨rfl, R0, rfl, g0, hp0⟩
  have lp : ∀ (k : Nat) (f tt : Int) (q1 : pT) (s : vS) (R : sS), 1 ≤ f → f + k = 7 → 0 ≤ tt ∧ tt ≤ 20 * f → pTk B n q1 → vSb s → sP S R → cP R B n q1 (fr.1, s) → zWP X mX5_readsDie 9 (cRs S t B n (pDq B n (pDi B n (fr.1 1) k f tt q1 s) fr)) 22 [some (zR 3), some (zI tt), some (zI f), none] [] (cX R ++ t) 0 0 := by
    intro k
    induction k with
    | zero =>
      intro f tt q1 s R h1 hk ht hq1 hs g1 hp1
      have e2R : R.1 2 = fr.1 1 := hp1.2.2.2.1
      have hb1 := pTk_b hq1
      simp only [pDi]
      unfold pDq
      rw [if_neg (fun z => z rfl)]
      refine zWP_run gX5_readsDie 80 [22] ?_
      refine zBrT (by first | (simp only [rI]; omega) | (simp only [rL]; omega)) (by omega) ?_
      by_cases c4 : q1.2.2.1 = 4
      · rw [if_pos c4]
        refine zBrT (by rw [hp1.2.1.2.2.1]; simp only [rI]; omega) (by rw [hp1.2.1.2.2.1]; exact c4) ?_
        refine mVc_i (by omega) ?_
        refine mVc_i (by omega) ?_
        have esh : (Int32.ofInt 1 <<< (Int32.ofInt (R.1 2) &&& 31)).toInt = 2 ^ (fr.1 1).toNat := by rw [e2R]; exact bt_shl f1.1 (by omega)
        obtain ⟨r1, r2, r3, r4, r5, r6, r7⟩ := hp1.2.2
        have hfr : cFr (sA R 1 (va_up (R.2.1 1) 30 (Int32.ofInt (R.2.1 1 30) ||| Int32.ofInt ((Int32.ofInt 1 <<< (Int32.ofInt (R.1 2) &&& 31)).toInt)).toInt)) (fr.1, sSl s (fr.1 1) 1) := by
          refine ⟨r1, r2, r3, r4, r5, r6, ?_⟩
          rw [esh]
          exact vRow_s hs r7 f1.1 (by omega)
        refine zCl_i (xnx (S := sA R 1 (va_up (R.2.1 1) 30 (Int32.ofInt (R.2.1 1 30) ||| Int32.ofInt ((Int32.ofInt 1 <<< (Int32.ofInt (R.1 2) &&& 31)).toInt)).toInt)) hB (cT_P (sP_A R _) rfl hp1.1) hp1.2.1.1 hq1 hfr) (by decide) ?_
        rintro o9 h9 ⟨rfl, R2, rfl, g2, hp2⟩
        have e2R2 : R2.1 2 = fr.1 1 := hp2.2.2.2.1
        refine mVc_i (Or.inr rfl) ⟨sI R2 2 (R2.1 2 + 1), rfl, sP_t (sP_t g1 (sP_t (sP_A R _) g2)) (sP_I _ _ (by omega)), Or.inl ⟨rfl, rfl, cT_P (sP_I _ _ (by omega)) rfl hp2.1, hp2.2.1, ?_⟩⟩
        obtain ⟨a1, a2, a3, a4, a5, a6, a7⟩ := hp2.2.2
        exact ⟨a1, (by show R2.1 2 + 1 = fr.1 1 + 1; rw [e2R2]), a3, a4, a5, a6, a7⟩
      · rw [if_neg c4]
        refine zBrF (by rw [hp1.2.1.2.2.1]; simp only [rI]; omega) (by rw [hp1.2.1.2.2.1]; exact c4) ?_
        obtain ⟨a1, a2, a3, a4, a5, a6, a7⟩ := hp1.2.2
        exact mVc_i (Or.inr rfl) ⟨sI R 2 (R.1 2 + 1), rfl, sP_t g1 (sP_I _ _ (by omega)), Or.inl ⟨rfl, rfl, cT_P (sP_I _ _ (by omega)) rfl hp1.1, hp1.2.1, a1, (by show R.1 2 + 1 = fr.1 1 + 1; rw [e2R]), a3, a4, a5, a6, a7⟩⟩
    | succ k ih =>
      intro f tt q1 s R h1 hk ht hq1 hs g1 hp1
      have e2R : R.1 2 = fr.1 1 := hp1.2.2.2.1
      have hb1 := pTk_b hq1
      have rest : ∀ le : Int, le = (if f = 6 ∧ tt = 0 then 1 else 0) → 0 ≤ le ∧ le ≤ 1 → zWP X mX5_readsDie 9 (cRs S t B n (pDq B n (pDi B n (fr.1 1) (k + 1) f tt q1 s) fr)) 43 [some (zR 3), some (zI tt), some (zI f), none] [zI le] (cX R ++ t) 0 0 := by
        intro le hle ble
        refine zWP_run gX5_readsDie 80 [22] ?_
        refine zCl_i (xrn hp1 hq1 (lo := le) (hi := 20) (by simp only [rI]; omega) (by simp only [rI]; omega)) (by decide) ?_
        rintro o9 h9 ⟨R2, rfl, g2, hcase⟩
        simp only [pDi]
        rw [← hle]
        rcases hcase with ⟨hz, rfl, rfl⟩ | ⟨hz, rfl, r5, r6⟩
        · rw [if_neg (fun z => z hz)]
          have h2 := pNk_0 hz
          have ev : R2.1 11 = q1.2.2.2 := hp1.2.1.2.2.2 h2.1
          refine zBrF (by first | (simp only [rI]; omega) | (simp only [rL]; omega)) (by omega) ?_
          refine mVc_i (by rw [e2R]; omega) ?_
          have hfr := cFr_d (fr := (fr.1, s)) hp1.2.2 (f := f) (z := q1.2.2.2) ⟨f1.1, by show fr.1 1 < 5; omega⟩ hs ⟨h1, by omega⟩ ⟨by omega, by omega⟩
          rw [← ev] at hfr
          refine zCl_i (xnx (S := sA R2 1 (va_up (R2.2.1 1) (R2.1 2 * 6 + f - 1).toNat (R2.1 11))) hB (cT_P (sP_A R2 _) rfl hp1.1) hp1.2.1.1 hq1 hfr) (by decide) ?_
          rintro o9 h9 ⟨rfl, R3, rfl, g3, hp3⟩
          rw [ev] at hp3
          have k9 := ih (f + 1) (tt + q1.2.2.2) (tok B n q1.1) (sWt s (fr.1 1) f q1.2.2.2) R3 (by omega) (by omega) (by omega) (pTk_t hq1) (sWt_b hs _ _ (by omega)) (sP_t g1 (sP_t (sP_A R2 _) g3)) hp3
          rw [← ev] at k9
          have k10 := zWP_fg k9 (L2 := [some (zR 3), some (zI (tt + R2.1 11)), some (zI (f + 1)), some (zI le)]) (by repeat (first | exact trivial | refine ⟨rfl, ?_⟩))
          rw [← ev]
          exact k10
        · rw [if_pos hz]
          unfold pDq
          rw [if_pos hz]
          refine zBrT (by first | (simp only [rI]; omega) | (simp only [rL]; omega)) (by omega) ?_
          exact mVc_i (Or.inl rfl) ⟨R2, rfl, sP_t g1 g2, Or.inr ⟨hz, rfl, r5, r6⟩⟩
      refine zWP_run gX5_readsDie 80 [22, 43] ?_
      refine zBrF (by first | (simp only [rI]; omega) | (simp only [rL]; omega)) (by omega) ?_
      by_cases c6 : f = 6
      · refine zBrT (by first | (simp only [rI]; omega) | (simp only [rL]; omega)) c6 ?_
        by_cases ct : tt = 0
        · refine zBrT (by first | (simp only [rI]; omega) | (simp only [rL]; omega)) ct ?_
          exact rest 1 (by rw [if_pos ⟨c6, ct⟩]) (by omega)
        · refine zBrF (by first | (simp only [rI]; omega) | (simp only [rL]; omega)) ct ?_
          exact rest 0 (by rw [if_neg (fun z => ct z.2)]) (by omega)
      · refine zBrF (by first | (simp only [rI]; omega) | (simp only [rL]; omega)) c6 ?_
        exact rest 0 (by rw [if_neg (fun z => c6 z.1)]) (by omega)
  exact lp 6 1 0 (tok B n q.1) fr.2 R0 (by omega) (by omega) (by omega) (pTk_t hq) fs g0 hp0
set_option maxHeartbeats 1000000 in
set_option maxRecDepth 100000 in
theorem xrh (hB : ∀ a, -128 ≤ B a ∧ B a ≤ 127) (hp : cP S B n q fr) (hq : pTk B n q) (hf : pFb m fr) (h3 : q.2.2.1 = 5) : zEv X 9 mX5_readsHand [zR 3] (cX S ++ t) (cRs S t B n (pHl B n q fr)) := by
  obtain ⟨f0, f1, f2, f3, fs⟩ := hf
  have e3 : S.1 3 = fr.1 2 := hp.2.2.2.2.1
  unfold pHl
  refine zEv_run gX5_readsHand 60 [] rfl ?_
  by_cases c5 : 4 ≤ fr.1 2
  · rw [if_pos c5]
    refine zBrF (by rw [e3]; simp only [rI]; omega) (by rw [e3]; omega) ?_
    refine zCl_i (xfl (k := 4) hp hq) (by decide) ?_
    rintro o9 h9 ⟨rfl, R, rfl, f1, r5, r6⟩
    refine mVc_i (Or.inl rfl) ⟨R, rfl, ‹sP S R›, Or.inr ⟨by simp only; omega, rfl, ?_, r6⟩⟩
    rw [r5, if_neg (by omega)]
  rw [if_neg c5]
  refine zBrT (by rw [e3]; simp only [rI]; omega) (by rw [e3]; omega) ?_
  refine zCl_i (xnx hB hp.1 hp.2.1.1 hq hp.2.2) (by decide) ?_
  rintro o9 h9 ⟨rfl, R0, rfl, g0, hp0⟩
  have hq1 := pTk_t hq
  have e3R : R0.1 3 = fr.1 2 := hp0.2.2.2.2.1
  refine zCl_i (xrn hp0 hq1 (lo := 0) (hi := 9) (by simp only [rI]; omega) (by simp only [rI]; omega)) (by decide) ?_
  rintro o9 h9 ⟨R2, rfl, g2, hcase⟩
  unfold pHq
  rcases hcase with ⟨hz, rfl, rfl⟩ | ⟨hz, rfl, r5, r6⟩
  · rw [if_neg (fun z => z hz)]
    have h2 := pNk_0 hz
    have ev : R2.1 11 = (tok B n q.1).2.2.2 := hp0.2.1.2.2.2 h2.1
    refine zBrF (by first | (simp only [rI]; omega) | (simp only [rL]; omega)) (by omega) ?_
    refine mVc_i (by rw [e3R]; omega) ?_
    obtain ⟨a1, a2, a3, a4, a5, a6, a7⟩ := hp0.2.2
    have hfr : cFr (sI (sA R2 1 (va_up (R2.2.1 1) (31 + R2.1 3).toNat (R2.1 11))) 3 (R2.1 3 + 1)) (pN fr.1 2 (fr.1 2 + 1), sHt fr.2 (fr.1 2) (tok B n q.1).2.2.2) := by
      refine ⟨a1, a2, ?_, a4, a5, a6, ?_⟩
      · show R2.1 3 + 1 = fr.1 2 + 1
        rw [e3R]
      · show vRow (va_up (R2.2.1 1) (31 + R2.1 3).toNat (R2.1 11)) 0 4 _
        rw [e3R, ev]
        exact vRow_h fs a7 f2.1 (by omega) h2.2
    refine zCl_i (xnx (q := tok B n q.1) (S := sI (sA R2 1 (va_up (R2.2.1 1) (31 + R2.1 3).toNat (R2.1 11))) 3 (R2.1 3 + 1)) hB (cT_P (sP_t (sP_A R2 _) (sP_I _ _ (by omega))) rfl hp0.1) hp0.2.1.1 hq1 hfr) (by decide) ?_
    rintro o9 h9 ⟨rfl, R3, rfl, g3, hp3⟩
    exact mVc_i (Or.inr rfl) ⟨R3, rfl, sP_t g0 (sP_t (sP_t (sP_A R2 _) (sP_I _ _ (by omega))) g3), Or.inl ⟨rfl, rfl, hp3⟩⟩
  · rw [if_pos hz]
    refine zBrT (by first | (simp only [rI]; omega) | (simp only [rL]; omega)) (by omega) ?_
    exact mVc_i (Or.inl rfl) ⟨R2, rfl, sP_t g0 g2, Or.inr ⟨hz, rfl, r5, r6⟩⟩
set_option maxHeartbeats 1000000 in
set_option maxRecDepth 100000 in
theorem xra (hB : ∀ a, -128 ≤ B a ∧ B a ≤ 127) (hp : cP S B n q fr) (hq : pTk B n q) (hf : pFb m fr) : zEv X 9 mX5_readsAnts [zR 3] (cX S ++ t) (cRs S t B n (pAq B n (tok B n q.1) fr)) := by
  obtain ⟨f0, f1, f2, f3, fs⟩ := hf
  refine zEv_run gX5_readsAnts 60 [] rfl ?_
  refine zCl_i (xnx hB hp.1 hp.2.1.1 hq hp.2.2) (by decide) ?_
  rintro o9 h9 ⟨rfl, R0, rfl, g0, hp0⟩
  have hq1 := pTk_t hq
  refine zCl_i (xrn hp0 hq1 (lo := 1) (hi := 6) (by simp only [rI]; omega) (by simp only [rI]; omega)) (by decide) ?_
  rintro o9 h9 ⟨R2, rfl, g2, hcase⟩
  unfold pAq
  rcases hcase with ⟨hz, rfl, rfl⟩ | ⟨hz, rfl, r5, r6⟩
  · rw [if_neg (fun z => z hz)]
    have h2 := pNk_0 hz
    have ev : R2.1 11 = (tok B n q.1).2.2.2 := hp0.2.1.2.2.2 h2.1
    refine zBrF (by first | (simp only [rI]; omega) | (simp only [rL]; omega)) (by omega) ?_
    obtain ⟨a1, a2, a3, a4, a5, a6, a7⟩ := hp0.2.2
    have hfr : cFr (sI R2 4 (R2.1 11)) (pN fr.1 3 (tok B n q.1).2.2.2, fr.2) := ⟨a1, a2, a3, ev, a5, a6, a7⟩
    refine zCl_i (xnx (q := tok B n q.1) (S := sI R2 4 (R2.1 11)) hB (cT_P (sP_I _ _ (by omega)) rfl hp0.1) hp0.2.1.1 hq1 hfr) (by decide) ?_
    rintro o9 h9 ⟨rfl, R3, rfl, g3, hp3⟩
    exact mVc_i (Or.inr rfl) ⟨R3, rfl, sP_t g0 (sP_t (sP_I _ _ (by omega)) g3), Or.inl ⟨rfl, rfl, hp3⟩⟩
  · rw [if_pos hz]
    refine zBrT (by first | (simp only [rI]; omega) | (simp only [rL]; omega)) (by omega) ?_
    exact mVc_i (Or.inl rfl) ⟨R2, rfl, sP_t g0 g2, Or.inr ⟨hz, rfl, r5, r6⟩⟩
set_option maxHeartbeats 1000000 in
set_option maxRecDepth 100000 in
theorem xrl (hB : ∀ a, -128 ≤ B a ∧ B a ≤ 127) (hp : cP S B n q fr) (hq : pTk B n q) (hf : pFb m fr) : zEv X 10 mX5_readsLine [zR 3] (cX S ++ t) (fun o9 h9 => ∃ R : sS, h9 = cX R ++ t ∧ sP S R ∧ (((pLn B n q fr).1 = 0 ∧ o9 = .inl (some (zI 1)) ∧ cP (sI R 1 (R.1 1 + 1)) B n (pLn B n q fr).2.2.1 (pLn B n q fr).2.2.2) ∨ (¬ (pLn B n q fr).1 = 0 ∧ o9 = .inl (some (zI 0)) ∧ R.1 5 = (pLn B n q fr).1 ∧ R.1 6 = (pLn B n q fr).2.1 ∧ 0 ≤ R.1 10 ∧ R.1 10 ≤ 8))) := by
  have hb := pTk_b hq
  have e := hp.2.1
  have hok := pPr_ok hq hf
  have tail : ∀ (o9 : zO) (R : sS), sP S R → (((pPr B n q fr).1 = 0 ∧ o9 = .inl (some (zI 1)) ∧ cP R B n (pPr B n q fr).2.2.1 (pPr B n q fr).2.2.2) ∨ (¬ (pPr B n q fr).1 = 0 ∧ o9 = .inl (some (zI 0)) ∧ R.1 5 = (pPr B n q fr).1 ∧ R.1 6 = (pPr B n q fr).2.1 ∧ 0 ≤ R.1 10 ∧ R.1 10 ≤ 8)) → ∃ w : Int, o9 = .inl (some (zI w)) ∧ zWP X mX5_readsLine 10 (fun o9 h9 => ∃ R : sS, h9 = cX R ++ t ∧ sP S R ∧ (((pLn B n q fr).1 = 0 ∧ o9 = .inl (some (zI 1)) ∧ cP (sI R 1 (R.1 1 + 1)) B n (pLn B n q fr).2.2.1 (pLn B n q fr).2.2.2) ∨ (¬ (pLn B n q fr).1 = 0 ∧ o9 = .inl (some (zI 0)) ∧ R.1 5 = (pLn B n q fr).1 ∧ R.1 6 = (pLn B n q fr).2.1 ∧ 0 ≤ R.1 10 ∧ R.1 10 ≤ 8))) 66 [some (zR 3), some (zI w)] [] (cX R ++ t) 0 0 := by
    intro o9 R g1 hcase
    unfold pLn
    rcases hcase with ⟨hz, rfl, hp1⟩ | ⟨hz, rfl, r5, r6⟩
    · refine ⟨1, rfl, ?_⟩
      have h3 := hok.2.2 hz
      have hb1 := pTk_b h3.1
      have e1 := hp1.2.1
      rw [if_neg (fun z => z hz)]
      unfold pSg
      refine zWP_run gX5_readsLine 60 [] ?_
      refine zBrF (by first | (simp only [rI]; omega) | (simp only [rL]; omega)) (by omega) ?_
      by_cases c : (pPr B n q fr).2.2.1.2.2.1 = 1
      · rw [if_neg (fun z => z c)]
        refine zBrT (by rw [e1.2.2.1]; simp only [rI]; omega) (by rw [e1.2.2.1]; exact c) ?_
        refine zCl_i (xnx hB hp1.1 e1.1 h3.1 hp1.2.2) (by decide) ?_
        rintro o9 h9 ⟨rfl, R2, rfl, g2, hp2⟩
        obtain ⟨a1, a2, a3, a4, a5, a6, a7⟩ := hp2.2.2
        exact mVc_i (Or.inr rfl) ⟨R2, rfl, sP_t g1 g2, Or.inl ⟨rfl, rfl, cT_P (sP_I _ _ (by omega)) rfl hp2.1, hp2.2.1, (by show R2.1 1 + 1 = (pPr B n q fr).2.2.2.1 0 + 1; rw [a1]), a2, a3, a4, a5, a6, a7⟩⟩
      · rw [if_pos c]
        have hno := pNo_b (pPr B n q fr).2.2.1
        refine zBrF (by rw [e1.2.2.1]; simp only [rI]; omega) (by rw [e1.2.2.1]; exact c) ?_
        refine zCl_i (xfl (k := 2) hp1 h3.1) (by decide) ?_
        rintro o9 h9 ⟨rfl, R2, rfl, g2, r5, r6⟩
        exact mVc_i (Or.inl rfl) ⟨R2, rfl, sP_t g1 g2, Or.inr ⟨by simp only; omega, rfl, r5, r6⟩⟩
    · refine ⟨0, rfl, ?_⟩
      rw [if_pos hz]
      refine zWP_run gX5_readsLine 60 [] ?_
      refine zBrT (by first | (simp only [rI]; omega) | (simp only [rL]; omega)) (by omega) ?_
      exact mVc_i (Or.inl rfl) ⟨R, rfl, g1, Or.inr ⟨hz, rfl, r5, r6⟩⟩
  have other : ¬ q.2.2.1 = 3 → ¬ q.2.2.1 = 5 → ¬ q.2.2.1 = 6 → zWP X mX5_readsLine 10 (fun o9 h9 => ∃ R : sS, h9 = cX R ++ t ∧ sP S R ∧ (((pLn B n q fr).1 = 0 ∧ o9 = .inl (some (zI 1)) ∧ cP (sI R 1 (R.1 1 + 1)) B n (pLn B n q fr).2.2.1 (pLn B n q fr).2.2.2) ∨ (¬ (pLn B n q fr).1 = 0 ∧ o9 = .inl (some (zI 0)) ∧ R.1 5 = (pLn B n q fr).1 ∧ R.1 6 = (pLn B n q fr).2.1 ∧ 0 ≤ R.1 10 ∧ R.1 10 ≤ 8))) 60 [some (zR 3), none] [] (cX S ++ t) 0 0 := by
    intro c3 c5 c6
    have ep : pPr B n q fr = (pNo q, q.2.1, q, fr) := by rw [pPr, if_neg c3, if_neg c5, if_neg c6]
    have hno := pNo_b q
    refine zWP_run gX5_readsLine 60 [66] ?_
    refine zCl_i (xfl (k := 2) hp hq) (by decide) ?_
    rintro o9 h9 ⟨rfl, R, rfl, g1, r5, r6⟩
    obtain ⟨w, hw, k9⟩ := tail (.inl (some (zI 0))) R g1 (Or.inr ⟨by rw [ep]; simp only; omega, rfl, by rw [ep]; exact r5, by rw [ep]; exact r6⟩)
    cases hw
    exact k9
  refine zEv_run gX5_readsLine 60 [60, 66] rfl ?_
  refine mVc_i (by rw [e.2.2.1]; simp only [rI]; omega) ⟨fun z => ?_, fun z => ?_, fun z => ?_, fun z => ?_, fun z => ?_, trivial⟩
  · rw [e.2.2.1] at z
    exact other (by omega) (by omega) (by omega)
  · rw [e.2.2.1] at z
    have ep : pPr B n q fr = pDl B n q fr := by rw [pPr, if_pos z]
    refine zCl_i (xrd hB hp hq hf z) (by decide) ?_
    rintro o9 h9 ⟨R, rfl, g1, hcase⟩
    rw [← ep] at hcase
    obtain ⟨w, rfl, k9⟩ := tail o9 R g1 hcase
    exact k9
  · rw [e.2.2.1] at z
    exact other (by omega) (by omega) (by omega)
  · rw [e.2.2.1] at z
    have ep : pPr B n q fr = pHl B n q fr := by rw [pPr, if_neg (by omega), if_pos (by omega)]
    refine zCl_i (xrh hB hp hq hf (by omega)) (by decide) ?_
    rintro o9 h9 ⟨R, rfl, g1, hcase⟩
    rw [← ep] at hcase
    obtain ⟨w, rfl, k9⟩ := tail o9 R g1 hcase
    exact k9
  · rw [e.2.2.1] at z
    have ep : pPr B n q fr = pAq B n (tok B n q.1) fr := by rw [pPr, if_neg (by omega), if_neg (by omega), if_pos (by omega)]
    refine zCl_i (xra hB hp hq hf) (by decide) ?_
    rintro o9 h9 ⟨R, rfl, g1, hcase⟩
    rw [← ep] at hcase
    obtain ⟨w, rfl, k9⟩ := tail o9 R g1 hcase
    exact k9
set_option maxHeartbeats 1000000 in
set_option maxRecDepth 100000 in
theorem xcl  : zEv X 1 mX5_clear [zR 3] (cX S ++ t) (fun o9 h9 => o9 = .inl none ∧ ∃ R : sS, h9 = cX R ++ t ∧ sP S R ∧ cFr R pF0 ∧ R.1 8 = 0 ∧ R.1 7 = S.1 7) := by
  have lp : ∀ (k : Nat) (i : Int) (f : Nat → Int), 0 ≤ i → i + k = 39 → (∀ j : Int, 0 ≤ j → j < i → f j.toNat = if j < 35 then 0 else -1) → zWP X mX5_clear 1 (fun o9 h9 => o9 = .inl none ∧ ∃ R : sS, h9 = cX R ++ t ∧ sP S R ∧ cFr R pF0 ∧ R.1 8 = 0 ∧ R.1 7 = S.1 7) 2 [some (zR 3), some (zI i)] [] (cX (sA S 1 f) ++ t) 0 0 := by
    intro k
    induction k with
    | zero =>
      intro i f i0 hk hf
      refine zWP_run gX5_clear 80 [2] ?_
      refine zBrT (by first | (simp only [rI]; omega) | (simp only [rL]; omega)) (by omega) ?_
      refine ⟨rfl, sI (sI (sI (sI (sI (sI (sI (sA S 1 f) 1 0) 2 0) 3 0) 4 5) 5 0) 6 (-1)) 8 0, rfl, sP_t (sP_t (sP_t (sP_t (sP_t (sP_t (sP_t (sP_A S f) (sP_I _ _ (by omega))) (sP_I _ _ (by omega))) (sP_I _ _ (by omega))) (sP_I _ _ (by omega))) (sP_I _ _ (by omega))) (sP_I _ _ (by omega))) (sP_I _ _ (by omega)), ⟨rfl, rfl, rfl, rfl, rfl, rfl, ?_⟩, rfl, rfl⟩
      show vRow f 0 4 pF0.2
      refine ⟨fun d f1 d0 d1 f0 f2 => ?_, ?_, fun q q0 q1 => ?_, fun q q0 q1 => ?_⟩
      · rw [Nat.zero_add, hf (d * 6 + f1 - 1) (by omega) (by omega), if_pos (by omega)]
        rfl
      · have := hf 30 (by omega) (by omega)
        rw [if_pos (by omega)] at this
        exact this
      · rw [Nat.zero_add, hf (31 + q) (by omega) (by omega), if_pos (by omega)]
        rfl
      · rw [Nat.zero_add, hf (35 + q) (by omega) (by omega), if_neg (by omega)]
        rfl
    | succ k ih =>
      intro i f i0 hk hf
      refine zWP_run gX5_clear 80 [2] ?_
      refine zBrF (by first | (simp only [rI]; omega) | (simp only [rL]; omega)) (by omega) ?_
      refine zBr (by first | (simp only [rI]; omega) | (simp only [rL]; omega)) (fun c => ?_) (fun c => ?_)
      · refine mVc_i (by omega) ?_
        exact ih (i + 1) (va_up f i.toNat (-1)) (by omega) (by omega) (fun j j0 j1 => by
          by_cases e : j = i
          · rw [e, va_up_s, if_neg (by omega)]
          · rw [va_up_o _ _ (by omega)]; exact hf j j0 (by omega))
      · refine mVc_i (by omega) ?_
        exact ih (i + 1) (va_up f i.toNat 0) (by omega) (by omega) (fun j j0 j1 => by
          by_cases e : j = i
          · rw [e, va_up_s, if_pos (by omega)]
          · rw [va_up_o _ _ (by omega)]; exact hf j j0 (by omega))
  refine zEv_run gX5_clear 60 [2] rfl ?_
  have e9 : sA S 1 (S.2.1 1) = S := by
    show (S.1, va_up S.2.1 1 (S.2.1 1), S.2.2) = S
    have : va_up S.2.1 1 (S.2.1 1) = S.2.1 := by
      funext j
      simp only [va_up]
      split
      · rename_i c; rw [c]
      · rfl
    rw [this]
  have k9 := lp 39 0 (S.2.1 1) (by omega) (by omega) (fun j j0 j1 => by omega)
  rw [e9] at k9
  exact k9
set_option maxHeartbeats 1000000 in
set_option maxRecDepth 100000 in
theorem xread (hB : ∀ a, -128 ≤ B a ∧ B a ≤ 127) (hl : n ≤ S.1 0 ∧ S.1 0 ≤ 600) (hn : 0 ≤ n) (hb : ∀ a : Int, 0 ≤ a → a < n → S.2.1 0 a.toNat = B a) : zEv X 11 mX5_read [zR 3, zI n] (cX S ++ t) (fun o9 h9 => o9 = .inl none ∧ ∃ R : sS, h9 = cX R ++ t ∧ sP S R ∧ R.1 5 = (pTb B n).1 ∧ ((pTb B n).1 = 0 → R.1 6 = -1 ∧ cFr R (pTb B n).2.2.2) ∧ (¬ (pTb B n).1 = 0 → R.1 6 = (pTb B n).2.1)) := by
  have lp : ∀ (k : Nat) (i m : Int) (q : pT) (fr : pF) (R : sS), 0 ≤ i → i + k = n → sP S R → cP R B n q fr → pTk B n q → pFb m fr → pTb B n = pRd B n k q fr → zWP X mX5_read 11 (fun o9 h9 => o9 = .inl none ∧ ∃ R : sS, h9 = cX R ++ t ∧ sP S R ∧ R.1 5 = (pTb B n).1 ∧ ((pTb B n).1 = 0 → R.1 6 = -1 ∧ cFr R (pTb B n).2.2.2) ∧ (¬ (pTb B n).1 = 0 → R.1 6 = (pTb B n).2.1)) 15 [some (zR 3), some (zI n), some (zI i)] [] (cX R ++ t) 0 0 := by
    intro k
    induction k with
    | zero =>
      intro i m q fr R i0 hk g1 hp hq hf he
      refine zWP_run gX5_read 60 [15] ?_
      refine zBrT (by first | (simp only [rI]; omega) | (simp only [rL]; omega)) (by omega) ?_
      rw [he]
      exact ⟨rfl, R, rfl, g1, hp.2.2.2.2.2.2.1, fun _ => ⟨hp.2.2.2.2.2.2.2.1, hp.2.2⟩, fun z => absurd rfl z⟩
    | succ k ih =>
      intro i m q fr R i0 hk g1 hp hq hf he
      have hbq := pTk_b hq
      have e5 : R.1 5 = 0 := hp.2.2.2.2.2.2.1
      refine zWP_run gX5_read 60 [15] ?_
      refine zBrF (by first | (simp only [rI]; omega) | (simp only [rL]; omega)) (by omega) ?_
      simp only [pRd] at he
      by_cases c0 : q.2.2.1 = 0
      · rw [if_pos c0] at he
        refine zBrT (by rw [hp.2.1.2.2.1]; simp only [rI]; omega) (by rw [hp.2.1.2.2.1]; exact c0) ?_
        rw [he]
        exact ⟨rfl, R, rfl, g1, e5, fun _ => ⟨hp.2.2.2.2.2.2.2.1, hp.2.2⟩, fun z => absurd rfl z⟩
      · rw [if_neg c0] at he
        refine zBrF (by rw [hp.2.1.2.2.1]; simp only [rI]; omega) (by rw [hp.2.1.2.2.1]; exact c0) ?_
        refine zBrT (by rw [e5]; simp only [rI]; omega) e5 ?_
        have hln := pLn_ok hq hf
        refine zCl_i (xrl hB hp hq hf) (by decide) ?_
        rintro o9 h9 ⟨R2, rfl, g2, hcase⟩
        rcases hcase with ⟨hz, rfl, hp2⟩ | ⟨hz, rfl, r5, r6⟩
        · rw [if_neg (fun z => z hz)] at he
          have h3 := hln.2.2 hz
          refine zBrF (by first | (simp only [rI]; omega) | (simp only [rL]; omega)) (by omega) ?_
          exact ih (i + 1) (m + 1) _ _ (sI R2 1 (R2.1 1 + 1)) (by omega) (by omega) (sP_t (sP_t g1 g2) (sP_I _ _ (by omega))) hp2 h3.1 h3.2.1 he
        · rw [if_pos hz] at he
          refine zBrT (by first | (simp only [rI]; omega) | (simp only [rL]; omega)) (by omega) ?_
          -- the loop ends at its next test
          refine zWP_run gX5_read 60 [] ?_
          by_cases ce : n ≤ i + 1
          · refine zBrT (by first | (simp only [rI]; omega) | (simp only [rL]; omega)) (by omega) ?_
            rw [he]
            exact ⟨rfl, R2, rfl, sP_t g1 g2, r5, fun z => absurd z hz, fun _ => r6.1⟩
          · refine zBrF (by first | (simp only [rI]; omega) | (simp only [rL]; omega)) (by omega) ?_
            refine zBr ?_ (fun z => ?_) (fun z => ?_)
            · have := r6.2
              simp only [rI]
              omega
            · rw [he]
              exact ⟨rfl, R2, rfl, sP_t g1 g2, r5, fun z => absurd z hz, fun _ => r6.1⟩
            · have hln1 := hln.1
              refine zBrF (by rw [r5]; simp only [rI]; omega) (by rw [r5]; exact hz) ?_
              rw [he]
              exact ⟨rfl, R2, rfl, sP_t g1 g2, r5, fun z => absurd z hz, fun _ => r6.1⟩
  refine zEv_run gX5_read 60 [15] rfl ?_
  refine zCl_i (xcl) (by decide) ?_
  rintro o9 h9 ⟨rfl, R, rfl, g1, hfr, h8, h7⟩
  have hct : cT (sI R 7 n) B n := by
    refine ⟨?_, hn, ?_, rfl⟩
    · show n ≤ R.1 0 ∧ R.1 0 ≤ 600
      rw [g1.1 0 (by omega)]
      exact hl
    · show ∀ a : Int, 0 ≤ a → a < n → R.2.1 0 a.toNat = B a
      rw [g1.2.1 0 (by omega)]
      exact hb
  refine zCl_i (xnt (S := sI R 7 n) (a := 0) hB hct h8 (by omega)) (by decide) ?_
  rintro o9 h9 ⟨rfl, R2, rfl, f2, hcq⟩
  exact lp n.toNat 0 0 (tok B n 0) pF0 R2 (by omega) (by omega) (sP_t (sP_t g1 (sP_I _ _ (by omega))) (sP_K f2)) ⟨cT_K f2 hct, hcq, cFr_K f2 hfr⟩ ⟨0, by omega, by omega, rfl⟩ pF0_b rfl
end Rdr
