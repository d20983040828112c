/-! the reference reads a table: lines, the table -/
section Km
variable {X : mX} {S : sS} {K : kK} {t : zH} {B : Int → Int} {n m : Int} {q : pT} {fr : pF}
set_option maxHeartbeats 1000000 in
set_option maxRecDepth 100000 in
theorem yrh (hB : ∀ a, 0 ≤ B a ∧ B a ≤ 255) (hp : kPp K B n q fr) (hq : pTk B n q) (hf : pFb m fr) (h3 : q.2.2.1 = 5) : zEv X 8 mX10_readHand [zR 29] (cX S ++ (cM (K) ++ t)) (kRs S K t B n (pHl B n q fr)) := by
  obtain ⟨f0, f1, f2, f3, fs⟩ := hf
  have e1 : K.2 1 2 = fr.1 2 := hp.2.2.2.2.2.1
  have e7 := hp.2.2.1
  have hqb := pTk_b hq
  unfold pHl
  refine zEv_run gX10_readHand 80 [] rfl ?_
  refine mVc_i (by omega) ?_
  by_cases c5 : 4 ≤ fr.1 2
  · rw [if_pos c5]
    refine zBrT (by show rI (K.2 1 2) ∧ rI 4; rw [e1]; simp only [rI]; omega) (by show K.2 1 2 = 4; omega) ?_
    refine zCl_i (yfl (k := 4) hp (by omega)) (by decide) ?_
    rintro o9 h9 ⟨rfl, R, rfl, g1, hbd⟩
    rw [if_neg (by omega)] at hbd
    have hb7 := hbd.1
    refine zBrF (by rw [hb7]; simp only [rI]; omega) (by rw [hb7]; omega) ?_
    exact ⟨rfl, R, rfl, g1, Or.inr ⟨by simp only; omega, hbd⟩⟩
  rw [if_neg c5]
  refine zBrF (by show rI (K.2 1 2) ∧ rI 4; rw [e1]; simp only [rI]; omega) (by show ¬ K.2 1 2 = 4; omega) ?_
  refine zBrT (by rw [e7]; simp only [rI]; omega) e7 ?_
  refine zCl_i (ynx hB hp.1 (hp.2.1.1 (by omega)) hq hp.2.2) (by decide) ?_
  rintro o9 h9 ⟨rfl, R0, rfl, g0, hp0⟩
  have hq1 := pTk_t hq
  refine zCl_i (ynu hB hp0 hq1 (lo := 0) (hi := 9) (by omega) (by omega)) (by decide) ?_
  rintro o9 h9 ⟨R2, rfl, g2, hcase⟩
  unfold pHq
  rcases hcase with ⟨hz, rfl, hp2⟩ | ⟨hz, rfl, hbd⟩
  · rw [if_neg (fun z => z hz)]
    have e72 := hp2.2.2.1
    have e12 : R2.2 1 2 = fr.1 2 := hp2.2.2.2.2.2.1
    refine zBrT (by rw [e72]; simp only [rI]; omega) e72 ?_
    refine mVc_i (by omega) ?_
    refine mVc_i (by show 0 ≤ 40 + R2.2 1 2 ∧ 40 + R2.2 1 2 < 48; omega) ?_
    refine mVc_i (by omega) ?_
    refine mVc_i (by omega) ?_
    obtain ⟨a0, a1, a2, a3, a4, a5, a6⟩ := hp2.2.2
    have a7 := kRow_h a6 (z := (tok B n q.1).2.2.2) f2.1 (show fr.1 2 < 4 by omega)
    rw [← e12] at a7
    refine ⟨rfl, kA (kA R2 1 (va_up (R2.2 1) (40 + R2.2 1 2).toNat (tok B n q.1).2.2.2)) 1 (va_up (va_up (R2.2 1) (40 + R2.2 1 2).toNat (tok B n q.1).2.2.2) 2 (va_up (R2.2 1) (40 + R2.2 1 2).toNat (tok B n q.1).2.2.2 2 + 1)), rfl, kP_t (kP_t g0 g2) (kP_t (kP_A _ _) (kP_A _ _)), Or.inl ⟨rfl, kT_P (kP_t (kP_A R2 _) (kP_A _ _)) rfl hp2.1, hp2.2.1, a0, ?_, ?_, ?_, ?_, ?_, ?_⟩⟩
    · show va_up (va_up (R2.2 1) (40 + R2.2 1 2).toNat (tok B n q.1).2.2.2) 2 (va_up (R2.2 1) (40 + R2.2 1 2).toNat (tok B n q.1).2.2.2 2 + 1) 0 = fr.1 0
      rw [va_up_o _ _ (by omega), va_up_o _ _ (by omega)]; exact a1
    · show va_up (va_up (R2.2 1) (40 + R2.2 1 2).toNat (tok B n q.1).2.2.2) 2 (va_up (R2.2 1) (40 + R2.2 1 2).toNat (tok B n q.1).2.2.2 2 + 1) 1 = fr.1 1
      rw [va_up_o _ _ (by omega), va_up_o _ _ (by omega)]; exact a2
    · show va_up (va_up (R2.2 1) (40 + R2.2 1 2).toNat (tok B n q.1).2.2.2) 2 (va_up (R2.2 1) (40 + R2.2 1 2).toNat (tok B n q.1).2.2.2 2 + 1) 2 = fr.1 2 + 1
      rw [va_up_s, va_up_o _ _ (by omega), e12]
    · show va_up (va_up (R2.2 1) (40 + R2.2 1 2).toNat (tok B n q.1).2.2.2) 2 (va_up (R2.2 1) (40 + R2.2 1 2).toNat (tok B n q.1).2.2.2 2 + 1) 3 = fr.1 3
      rw [va_up_o _ _ (by omega), va_up_o _ _ (by omega)]; exact a4
    · show va_up (va_up (R2.2 1) (40 + R2.2 1 2).toNat (tok B n q.1).2.2.2) 2 (va_up (R2.2 1) (40 + R2.2 1 2).toNat (tok B n q.1).2.2.2 2 + 1) 4 = 0
      rw [va_up_o _ _ (by omega), va_up_o _ _ (by omega)]; exact a5
    · have a8 := kRow_l a7 (i := 2) (by omega) (va_up (R2.2 1) (40 + R2.2 1 2).toNat (tok B n q.1).2.2.2 2 + 1)
      show kRow (va_up (va_up (R2.2 1) (40 + R2.2 1 2).toNat (tok B n q.1).2.2.2) 2 (va_up (R2.2 1) (40 + R2.2 1 2).toNat (tok B n q.1).2.2.2 2 + 1)) 0 4 (sHt fr.2 (fr.1 2) (tok B n q.1).2.2.2)
      rw [← e12]
      exact a8
  · rw [if_pos hz]
    have hkb := pNk_b (tok B n q.1) 0 9
    have hb7 := hbd.1
    refine zBrF (by rw [hb7]; simp only [rI]; omega) (by rw [hb7]; exact hz) ?_
    exact ⟨rfl, R2, rfl, kP_t g0 g2, Or.inr ⟨hz, hbd⟩⟩
set_option maxHeartbeats 1000000 in
set_option maxRecDepth 100000 in
theorem yrl (hB : ∀ a, 0 ≤ B a ∧ B a ≤ 255) (hp : kPp K B n q fr) (hq : pTk B n q) (hf : pFb m fr) (hzs : pZs fr) : zEv X 9 mX10_readLine [zR 29] (cX S ++ (cM (K) ++ t)) (kRs S K t B n (pLn B n q fr)) := by
  have hqb := pTk_b hq
  have hok := pPr_ok hq hf
  have e := hp.2.1
  have tail : ∀ R : kK, kP K R → (((pPr B n q fr).1 = 0 ∧ kPp R B n (pPr B n q fr).2.2.1 (pPr B n q fr).2.2.2) ∨ (¬ (pPr B n q fr).1 = 0 ∧ kBd R (pPr B n q fr).1 (pPr B n q fr).2.1)) → zWP X mX10_readLine 9 (kRs S K t B n (pLn B n q fr)) 62 [some (zR 29)] [] (cX S ++ (cM (R) ++ t)) 0 0 := by
    intro R g1 hcase
    unfold pLn
    rcases hcase with ⟨hz, hp1⟩ | ⟨hz, hbd⟩
    · have h3 := hok.2.2 hz
      have hb1 := pTk_b h3.1
      have e1 := hp1.2.1
      have htb := tkm_b (pPr B n q fr).2.2.1.2.2.1
      have e71 := hp1.2.2.1
      rw [if_neg (fun z => z hz)]
      unfold pSg
      refine zWP_run gX10_readLine 80 [] ?_
      by_cases c : (pPr B n q fr).2.2.1.2.2.1 = 1
      · rw [if_neg (fun z => z c)]
        refine zBrT (by rw [e1.2.2.1]; simp only [rI]; omega) (by rw [e1.2.2.1]; exact tkm_3.mpr c) ?_
        refine zBrT (by rw [e71]; simp only [rI]; omega) e71 ?_
        refine zCl_i (ynx hB hp1.1 (e1.1 (by omega)) h3.1 hp1.2.2) (by decide) ?_
        rintro o9 h9 ⟨rfl, R2, rfl, g2, hp2⟩
        have e72 := hp2.2.2.1
        refine zBrT (by rw [e72]; simp only [rI]; omega) e72 ?_
        refine mVc_i (by omega) ?_
        refine mVc_i (by omega) ?_
        obtain ⟨a0, a1, a2, a3, a4, a5, a6⟩ := hp2.2.2
        refine ⟨rfl, kA R2 1 (va_up (R2.2 1) 0 (R2.2 1 0 + 1)), rfl, kP_t (kP_t g1 g2) (kP_A _ _), Or.inl ⟨rfl, kT_P (kP_A R2 _) rfl hp2.1, hp2.2.1, a0, ?_, ?_, ?_, ?_, ?_, kRow_l a6 (by omega) _⟩⟩
        · show va_up (R2.2 1) 0 (R2.2 1 0 + 1) 0 = (pPr B n q fr).2.2.2.1 0 + 1
          rw [va_up_s, a1]
        · show va_up (R2.2 1) 0 (R2.2 1 0 + 1) 1 = _
          rw [va_up_o _ _ (by omega)]; exact a2
        · show va_up (R2.2 1) 0 (R2.2 1 0 + 1) 2 = _
          rw [va_up_o _ _ (by omega)]; exact a3
        · show va_up (R2.2 1) 0 (R2.2 1 0 + 1) 3 = _
          rw [va_up_o _ _ (by omega)]; exact a4
        · show va_up (R2.2 1) 0 (R2.2 1 0 + 1) 4 = 0
          rw [va_up_o _ _ (by omega)]; exact a5
      · rw [if_pos c]
        have hno := pNo_b (pPr B n q fr).2.2.1
        refine zBrF (by rw [e1.2.2.1]; simp only [rI]; omega) (by rw [e1.2.2.1]; exact fun z => c (tkm_3.mp z)) ?_
        refine zCl_i (yfl (k := 2) hp1 (by omega)) (by decide) ?_
        rintro o9 h9 ⟨rfl, R2, rfl, g2, hbd⟩
        have hb7 : R2.1 7 = pNo (pPr B n q fr).2.2.1 := hbd.1
        refine zBrF (by rw [hb7]; simp only [rI]; omega) (by rw [hb7]; omega) ?_
        refine zBrF (by rw [hb7]; simp only [rI]; omega) (by rw [hb7]; omega) ?_
        exact ⟨rfl, R2, rfl, kP_t g1 g2, Or.inr ⟨by simp only; omega, hbd⟩⟩
    · rw [if_pos hz]
      have hb7 := hbd.1
      have hb5 := hbd.2.2
      have ho1 := hok.1
      refine zWP_run gX10_readLine 80 [] ?_
      refine zBr (by simp only [rI]; omega) (fun c => ?_) (fun c => ?_)
      · refine zBrF (by rw [hb7]; simp only [rI]; omega) (by rw [hb7]; exact hz) ?_
        refine zBrF (by rw [hb7]; simp only [rI]; omega) (by rw [hb7]; exact hz) ?_
        exact ⟨rfl, R, rfl, g1, Or.inr ⟨hz, hbd⟩⟩
      · refine zCl_e (ybl1 (k := 2) (by rw [hb7]; omega)) (by decide) ?_
        refine zBrF (by rw [hb7]; simp only [rI]; omega) (by rw [hb7]; exact hz) ?_
        refine zBrF (by rw [hb7]; simp only [rI]; omega) (by rw [hb7]; exact hz) ?_
        exact ⟨rfl, R, rfl, g1, Or.inr ⟨hz, hbd⟩⟩
  refine zEv_run gX10_readLine 80 [62] rfl ?_
  refine zCl_e (yiw hB hp hq (i := 0) (by omega)) (by decide) ?_
  by_cases c3 : q.2.2.1 = 3
  · rw [if_pos (show q.2.2.1 = 3 + ((0 : Nat) : Int) by omega)]
    have ep : pPr B n q fr = pDl B n q fr := by rw [pPr, if_pos c3]
    refine zBrF rI_1 (by omega) ?_
    refine zCl_i (yrdi hB hp hq hf hzs c3) (by decide) ?_
    rintro o9 h9 ⟨rfl, R, rfl, g1, hcase⟩
    rw [← ep] at hcase
    exact tail R g1 hcase
  rw [if_neg (show ¬ q.2.2.1 = 3 + ((0 : Nat) : Int) by omega)]
  refine zBrT rI_0 rfl ?_
  refine zCl_e (yiw hB hp hq (i := 2) (by omega)) (by decide) ?_
  by_cases c5 : q.2.2.1 = 5
  · rw [if_pos (show q.2.2.1 = 3 + ((2 : Nat) : Int) by omega)]
    have ep : pPr B n q fr = pHl B n q fr := by rw [pPr, if_neg c3, if_pos c5]
    refine zBrF rI_1 (by omega) ?_
    refine zCl_i (yrh hB hp hq hf c5) (by decide) ?_
    rintro o9 h9 ⟨rfl, R, rfl, g1, hcase⟩
    rw [← ep] at hcase
    exact tail R g1 hcase
  rw [if_neg (show ¬ q.2.2.1 = 3 + ((2 : Nat) : Int) by omega)]
  refine zBrT rI_0 rfl ?_
  refine zCl_i (ytk hB hp hq (i := 3) (by omega)) (by decide) ?_
  rintro o9 h9 ⟨R, rfl, g1, hcase⟩
  rcases hcase with ⟨hz, rfl, hp1⟩ | ⟨hz, rfl, rfl⟩
  · have c6 : q.2.2.1 = 6 := hz
    have ep : pPr B n q fr = pAq B n (tok B n q.1) fr := by rw [pPr, if_neg c3, if_neg c5, if_pos c6]
    have hq1 := pTk_t hq
    refine zBrF rI_1 (by omega) ?_
    refine zCl_i (ynu hB hp1 hq1 (lo := 1) (hi := 6) (by omega) (by omega)) (by decide) ?_
    rintro o9 h9 ⟨R2, rfl, g2, hcase⟩
    unfold pAq at ep
    rcases hcase with ⟨hz, rfl, hp2⟩ | ⟨hz, rfl, hbd⟩
    · rw [if_neg (fun z => z hz)] at ep
      refine mVc_i (by omega) ?_
      obtain ⟨a0, a1, a2, a3, a4, a5, a6⟩ := hp2.2.2
      refine tail (kA R2 1 (va_up (R2.2 1) 3 (tok B n q.1).2.2.2)) (kP_t (kP_t g1 g2) (kP_A _ _)) (Or.inl ⟨by rw [ep], ?_⟩)
      rw [ep]
      refine ⟨kT_P (kP_A R2 _) rfl hp2.1, hp2.2.1, a0, ?_, ?_, ?_, ?_, ?_, kRow_l a6 (by omega) _⟩
      · show va_up (R2.2 1) 3 (tok B n q.1).2.2.2 0 = fr.1 0
        rw [va_up_o _ _ (by omega)]; exact a1
      · show va_up (R2.2 1) 3 (tok B n q.1).2.2.2 1 = fr.1 1
        rw [va_up_o _ _ (by omega)]; exact a2
      · show va_up (R2.2 1) 3 (tok B n q.1).2.2.2 2 = fr.1 2
        rw [va_up_o _ _ (by omega)]; exact a3
      · show va_up (R2.2 1) 3 (tok B n q.1).2.2.2 3 = (tok B n q.1).2.2.2
        rw [va_up_s]
      · show va_up (R2.2 1) 3 (tok B n q.1).2.2.2 4 = 0
        rw [va_up_o _ _ (by omega)]; exact a5
    · rw [if_pos hz] at ep
      refine mVc_i (by omega) ?_
      exact tail (kA R2 1 (va_up (R2.2 1) 3 1)) (kP_t (kP_t g1 g2) (kP_A _ _)) (Or.inr ⟨by rw [ep]; exact hz, by rw [ep]; exact hbd⟩)
  · have c6 : ¬ q.2.2.1 = 6 := hz
    have ep : pPr B n q fr = (pNo q, q.2.1, q, fr) := by rw [pPr, if_neg c3, if_neg c5, if_neg c6]
    have hno := pNo_b q
    refine zBrT rI_0 rfl ?_
    refine zCl_i (yfl (k := 2) hp (by omega)) (by decide) ?_
    rintro o9 h9 ⟨rfl, R2, rfl, g2, hbd⟩
    exact tail R2 (kP_t g1 g2) (Or.inr ⟨by rw [ep]; simp only; omega, by rw [ep]; exact hbd⟩)
set_option maxHeartbeats 1000000 in
set_option maxRecDepth 100000 in
theorem ybg  : zEv X 1 mX10_begins [zR 31] (cX S ++ (cM (K) ++ t)) (fun o9 h9 => o9 = .inl none ∧ ∃ c : Nat → Int, h9 = cX S ++ (cM (kA K 1 c) ++ t) ∧ (∀ j : Int, 0 ≤ j → j < 48 → c j.toNat = if j = 3 then 5 else if j < 44 then 0 else -1)) := by
  have lp : ∀ (k : Nat) (i : Int) (f : Nat → Int), 0 ≤ i → i + k = 48 → (∀ j : Int, 0 ≤ j → j < i → f j.toNat = if j < 44 then 0 else -1) → zWP X mX10_begins 1 (fun o9 h9 => o9 = .inl none ∧ ∃ c : Nat → Int, h9 = cX S ++ (cM (kA K 1 c) ++ t) ∧ (∀ j : Int, 0 ≤ j → j < 48 → c j.toNat = if j = 3 then 5 else if j < 44 then 0 else -1)) 2 [some (zR 31), some (zI i)] [] (cX S ++ (cM (kA K 1 f) ++ t)) 0 0 := by
    intro k
    induction k with
    | zero =>
      intro i f i0 hk hf
      refine zWP_run gX10_begins 80 [2] ?_
      refine zBrT (by simp only [rI]; omega) (by omega) ?_
      refine mVc_i (by omega) ?_
      refine ⟨rfl, va_up f 3 5, rfl, fun j j0 j1 => ?_⟩
      by_cases e : j = 3
      · rw [if_pos e, e]; rfl
      · rw [if_neg e, va_up_o _ _ (by omega)]
        exact hf j j0 (by omega)
    | succ k ih =>
      intro i f i0 hk hf
      refine zWP_run gX10_begins 80 [2] ?_
      refine zBrF (by simp only [rI]; omega) (by omega) ?_
      refine zBr (by simp only [rI]; omega) (fun c => ?_) (fun c => ?_)
      · refine mVc_i (by omega) ?_
        exact ih (i + 1) (va_up f i.toNat 0) (by omega) (by omega) (fun j j0 j1 => by
          by_cases e : j = i
          · rw [e, va_up_s, if_pos (by omega)]
          · rw [va_up_o _ _ (by omega)]; exact hf j j0 (by omega))
      · refine mVc_i (by omega) ?_
        exact ih (i + 1) (va_up f i.toNat (-1)) (by omega) (by omega) (fun j j0 j1 => by
          by_cases e : j = i
          · rw [e, va_up_s, if_neg (by omega)]
          · rw [va_up_o _ _ (by omega)]; exact hf j j0 (by omega))
  have k9 := lp 48 0 (K.2 1) (by omega) (by omega) (fun j j0 j1 => by omega)
  have e9 : kA K 1 (K.2 1) = K := by
    show (K.1, va_up K.2 1 (K.2 1)) = K
    have : va_up K.2 1 (K.2 1) = K.2 := by
      funext j
      simp only [va_up]
      split
      · rename_i c; rw [c]
      · rfl
    rw [this]
  rw [e9] at k9
  refine zEv_run gX10_begins 60 [2] rfl ?_
  exact k9
end Km
