/-! the reference reads a table: lines -/
theorem kRow_w {c : Nat → Int} {s : vS} (h : kRow c 0 4 s) {d f z : Int} (d0 : 0 ≤ d) (d1 : d < 5) (f0 : 1 ≤ f) (f1 : f ≤ 6) : kRow (va_up c (5 + 7 * d + f - 1).toNat z) 0 4 (sWt s d f z) := by
  refine ⟨fun d2 f2 a0 a1 b0 b1 => ?_, fun d2 a0 a1 => ?_, fun k a0 a1 => ?_, fun k a0 a1 => ?_⟩
  · show va_up c (5 + 7 * d + f - 1).toNat z (0 + (5 + 7 * d2 + f2 - 1).toNat) = (if d2 = d ∧ f2 = f then z else s.1 d2 f2)
    by_cases e : d2 = d ∧ f2 = f
    · rw [if_pos e, e.1, e.2, Nat.zero_add, va_up_s]
    · rw [if_neg e, va_up_o _ _ (by omega)]
      exact h.1 d2 f2 a0 a1 b0 b1
  · rw [va_up_o _ _ (by omega)]; exact h.2.1 d2 a0 a1
  · rw [va_up_o _ _ (by omega)]; exact h.2.2.1 k a0 a1
  · rw [va_up_o _ _ (by omega)]; exact h.2.2.2 k a0 a1
theorem kRow_s {c : Nat → Int} {s : vS} (h : kRow c 0 4 s) {d z : Int} (d0 : 0 ≤ d) (d1 : d < 5) : kRow (va_up c (5 + 7 * d + 6).toNat z) 0 4 (sSl s d z) := by
  refine ⟨fun d2 f2 a0 a1 b0 b1 => ?_, fun d2 a0 a1 => ?_, fun k a0 a1 => ?_, fun k a0 a1 => ?_⟩
  · rw [va_up_o _ _ (by omega)]; exact h.1 d2 f2 a0 a1 b0 b1
  · show va_up c (5 + 7 * d + 6).toNat z (0 + (5 + 7 * d2 + 6).toNat) = (if d2 = d then z else s.2.1 d2)
    by_cases e : d2 = d
    · rw [if_pos e, e, Nat.zero_add, va_up_s]
    · rw [if_neg e, va_up_o _ _ (by omega)]
      exact h.2.1 d2 a0 a1
  · rw [va_up_o _ _ (by omega)]; exact h.2.2.1 k a0 a1
  · rw [va_up_o _ _ (by omega)]; exact h.2.2.2 k a0 a1
theorem kRow_h {c : Nat → Int} {s : vS} (h : kRow c 0 4 s) {d z : Int} (d0 : 0 ≤ d) (d1 : d < 4) : kRow (va_up c (40 + d).toNat z) 0 4 (sHt s d z) := by
  refine ⟨fun d2 f2 a0 a1 b0 b1 => ?_, fun d2 a0 a1 => ?_, fun k a0 a1 => ?_, fun k a0 a1 => ?_⟩
  · rw [va_up_o _ _ (by omega)]; exact h.1 d2 f2 a0 a1 b0 b1
  · rw [va_up_o _ _ (by omega)]; exact h.2.1 d2 a0 a1
  · show va_up c (40 + d).toNat z (0 + (40 + k).toNat) = (if k = d then z else s.2.2.1 k)
    by_cases e : k = d
    · rw [if_pos e, e, Nat.zero_add, va_up_s]
    · rw [if_neg e, va_up_o _ _ (by omega)]
      exact h.2.2.1 k a0 a1
  · rw [va_up_o _ _ (by omega)]; exact h.2.2.2 k a0 a1
theorem kRow_l {c : Nat → Int} {s : vS} (h : kRow c 0 4 s) {i : Nat} (hi : i < 5) (z : Int) : kRow (va_up c i z) 0 4 s := by
  refine ⟨fun d2 f2 a0 a1 b0 b1 => ?_, fun d2 a0 a1 => ?_, fun k a0 a1 => ?_, fun k a0 a1 => ?_⟩
  · rw [va_up_o _ _ (by omega)]; exact h.1 d2 f2 a0 a1 b0 b1
  · rw [va_up_o _ _ (by omega)]; exact h.2.1 d2 a0 a1
  · rw [va_up_o _ _ (by omega)]; exact h.2.2.1 k a0 a1
  · rw [va_up_o _ _ (by omega)]; exact h.2.2.2 k a0 a1
theorem sSl_0 {s : vS} {d : Int} (h : s.2.1 d = 0) : sSl s d 0 = s := by
  have : (fun d1 => if d1 = d then 0 else s.2.1 d1) = s.2.1 := by
    funext d1
    by_cases e : d1 = d
    · rw [if_pos e, e, h]
    · rw [if_neg e]
  show (s.1, (fun d1 => if d1 = d then 0 else s.2.1 d1), s.2.2) = s
  rw [this]
/-- dice that aren't read yet aren't salt -/
def pZs (fr : pF) : Prop := ∀ d : Int, fr.1 1 ≤ d → fr.2.2.1 d = 0
theorem pDi_s {B : Int → Int} {n d : Int} : ∀ (k : Nat) (f tt : Int) (q : pT) (s : vS), (pDi B n d k f tt q s).2.2.2.2.1 = s.2.1 := by
  intro k
  induction k with
  | zero => intro f tt q s; rfl
  | succ k ih =>
    intro f tt q s
    simp only [pDi]
    by_cases c : pNk q (if f = 6 ∧ tt = 0 then 1 else 0) 20 = 0
    · rw [if_neg (fun z => z c), ih]
      rfl
    · rw [if_pos c]
theorem pZs_Pr {B : Int → Int} {n : Int} {q : pT} {fr : pF} (h : pZs fr) : pZs (pPr B n q fr).2.2.2 := by
  unfold pPr
  split
  · unfold pDl
    split
    · exact h
    · unfold pDq
      split
      · exact h
      · split
        · intro d hd
          have hd2 : fr.1 1 + 1 ≤ d := hd
          show (if d = fr.1 1 then 1 else (pDi B n (fr.1 1) 6 1 0 (tok B n q.1) fr.2).2.2.2.2.1 d) = 0
          rw [if_neg (by omega), pDi_s]
          exact h d (by omega)
        · intro d hd
          have hd2 : fr.1 1 + 1 ≤ d := hd
          show (pDi B n (fr.1 1) 6 1 0 (tok B n q.1) fr.2).2.2.2.2.1 d = 0
          rw [pDi_s]
          exact h d (by omega)
  · split
    · unfold pHl
      split
      · exact h
      · unfold pHq
        split
        · exact h
        · exact h
    · split
      · unfold pAq
        split
        · exact h
        · exact h
      · exact h
theorem pZs_Ln {B : Int → Int} {n : Int} {q : pT} {fr : pF} (h : pZs fr) : pZs (pLn B n q fr).2.2.2 := by
  have h1 := pZs_Pr (B := B) (n := n) (q := q) h
  unfold pLn
  split
  · exact h1
  · unfold pSg
    split
    · exact h1
    · exact h1
/-- how a piece of a line ends in the reference -/
def kRs (S : sS) (K : kK) (t : zH) (B : Int → Int) (n : Int) (r : pR) : zO → zH → Prop := fun o9 h9 => o9 = .inl none ∧ ∃ R : kK, h9 = cX S ++ (cM R ++ t) ∧ kP K R ∧ ((r.1 = 0 ∧ kPp R B n r.2.2.1 r.2.2.2) ∨ (¬ r.1 = 0 ∧ kBd R r.1 r.2.1))
theorem kT_P {K R : kK} {B : Int → Int} {n : Int} (h : kP K R) (h2 : R.1 2 = K.1 2) (k : kT K B n) : kT R B n := by
  unfold kT
  rw [h2, h.2 5 (by omega)]
  exact k
section Kl
variable {X : mX} {S : sS} {K : kK} {t : zH} {B : Int → Int} {n m : Int} {q : pT} {fr : pF}
theorem ynx {fr2 : pF} (hB : ∀ a, 0 ≤ B a ∧ B a ≤ 255) (hc : kT K B n) (h3 : K.1 3 = q.1) (hq : pTk B n q) (hf : kFr K fr2) : zEv X 2 mX10_reads [zR 29] (cX S ++ (cM K ++ t)) (fun o9 h9 => o9 = .inl none ∧ ∃ R : kK, h9 = cX S ++ (cM R ++ t) ∧ kP K R ∧ kPp R B n (tok B n q.1) fr2) := by
  have hb := pTk_b hq
  refine zEv_w (yrd (X := X) (S := S) (t := t) hB hc h3 hb.1) ?_
  rintro o9 h9 ⟨rfl, R, rfl, f1, hr⟩
  exact ⟨rfl, R, rfl, kP_S f1, kT_S f1 hc, hr, kFr_S f1 hf⟩
set_option maxHeartbeats 1000000 in
set_option maxRecDepth 100000 in
theorem yrdi (hB : ∀ a, 0 ≤ B a ∧ B a ≤ 255) (hp : kPp K B n q fr) (hq : pTk B n q) (hf : pFb m fr) (hzs : pZs fr) (h3 : q.2.2.1 = 3) : zEv X 8 mX10_readDie [zR 29] (cX S ++ (cM (K) ++ t)) (kRs S K t B n (pDl B n q fr)) := by
  obtain ⟨f0, f1, f2, f3, fs⟩ := hf
  have e1 : K.2 1 1 = fr.1 1 := hp.2.2.2.2.1
  have e7 := hp.2.2.1
  have hqb := pTk_b hq
  unfold pDl
  by_cases c5 : 5 ≤ fr.1 1
  · rw [if_pos c5]
    refine zEv_run gX10_readDie 60 [] rfl ?_
    refine mVc_i (by omega) ?_
    refine zBrT (by show rI (K.2 1 1) ∧ rI 5; rw [e1]; simp only [rI]; omega) (by show K.2 1 1 = 5; omega) ?_
    refine zCl_i (yfl (k := 4) hp (by omega)) (by decide) ?_
    rintro o9 h9 ⟨rfl, R, rfl, g1, hbd⟩
    rw [if_neg (by omega)] at hbd
    have hb7 := hbd.1
    refine zBrF (by rw [hb7]; simp only [rI]; omega) (by rw [hb7]; omega) ?_
    exact ⟨rfl, R, rfl, g1, Or.inr ⟨by simp only; omega, hbd⟩⟩
  rw [if_neg c5]
  have lp : ∀ (k : Nat) (g tt : Int) (q1 : pT) (s : vS) (R : kK), 0 ≤ g → g + k = 6 → 0 ≤ tt ∧ tt ≤ 20 * g → pTk B n q1 → vSb s → s.2.1 (fr.1 1) = 0 → kP K R → kPp R B n q1 (fr.1, s) → zWP X mX10_readDie 8 (kRs S K t B n (pDq B n (pDi B n (fr.1 1) k (g + 1) tt q1 s) fr)) 43 [some (zR 29), some (zI (5 + 7 * fr.1 1)), some (zI tt), some (zI g), none] [] (cX S ++ (cM (R) ++ t)) 0 0 := by
    intro k
    induction k with
    | zero =>
      intro g tt q1 s R g0 hk ht hq1 hs hs0 g1 hp1
      have hb1 := pTk_b hq1
      simp only [pDi]
      unfold pDq
      rw [if_neg (fun z => z rfl)]
      refine zWP_run gX10_readDie 80 [43] ?_
      refine zBrT (by simp only [rI]; omega) (by omega) ?_
      refine zCl_i (ytk hB hp1 hq1 (i := 1) (by omega)) (by decide) ?_
      rintro o9 h9 ⟨R2, rfl, g2, hcase⟩
      rcases hcase with ⟨hz, rfl, hp2⟩ | ⟨hz, rfl, rfl⟩
      · have hz2 : q1.2.2.1 = 4 := hz
        have e72 := hp2.2.2.1
        have e12 : R2.2 1 1 = fr.1 1 := hp2.2.2.2.2.1
        rw [if_pos hz2]
        refine zBrT (by rw [e72]; simp only [rI]; omega) e72 ?_
        refine zBrF rI_1 (by omega) ?_
        refine mVc_i (by omega) ?_
        refine mVc_i (by omega) ?_
        refine mVc_i (by omega) ?_
        obtain ⟨a0, a1, a2, a3, a4, a5, a6⟩ := hp2.2.2
        refine ⟨rfl, kA (kA R2 1 (va_up (R2.2 1) (5 + 7 * fr.1 1 + 6).toNat 1)) 1 (va_up (va_up (R2.2 1) (5 + 7 * fr.1 1 + 6).toNat 1) 1 (va_up (R2.2 1) (5 + 7 * fr.1 1 + 6).toNat 1 1 + 1)), rfl, kP_t (kP_t g1 g2) (kP_t (kP_A _ _) (kP_A _ _)), Or.inl ⟨rfl, kT_P (kP_t (kP_A R2 _) (kP_A _ _)) rfl hp2.1, hp2.2.1, a0, ?_, ?_, ?_, ?_, ?_, kRow_l (kRow_s a6 f1.1 (by omega)) (by omega) _⟩⟩
        · show va_up (va_up (R2.2 1) (5 + 7 * fr.1 1 + 6).toNat 1) 1 (va_up (R2.2 1) (5 + 7 * fr.1 1 + 6).toNat 1 1 + 1) 0 = fr.1 0
          rw [va_up_o _ _ (by omega), va_up_o _ _ (by omega)]; exact a1
        · show va_up (va_up (R2.2 1) (5 + 7 * fr.1 1 + 6).toNat 1) 1 (va_up (R2.2 1) (5 + 7 * fr.1 1 + 6).toNat 1 1 + 1) 1 = fr.1 1 + 1
          rw [va_up_s, va_up_o _ _ (by omega), e12]
        · show va_up (va_up (R2.2 1) (5 + 7 * fr.1 1 + 6).toNat 1) 1 (va_up (R2.2 1) (5 + 7 * fr.1 1 + 6).toNat 1 1 + 1) 2 = fr.1 2
          rw [va_up_o _ _ (by omega), va_up_o _ _ (by omega)]; exact a3
        · show va_up (va_up (R2.2 1) (5 + 7 * fr.1 1 + 6).toNat 1) 1 (va_up (R2.2 1) (5 + 7 * fr.1 1 + 6).toNat 1 1 + 1) 3 = fr.1 3
          rw [va_up_o _ _ (by omega), va_up_o _ _ (by omega)]; exact a4
        · show va_up (va_up (R2.2 1) (5 + 7 * fr.1 1 + 6).toNat 1) 1 (va_up (R2.2 1) (5 + 7 * fr.1 1 + 6).toNat 1 1 + 1) 4 = 0
          rw [va_up_o _ _ (by omega), va_up_o _ _ (by omega)]; exact a5
      · have hz2 : ¬ q1.2.2.1 = 4 := hz
        have e72 := hp1.2.2.1
        have e12 : R2.2 1 1 = fr.1 1 := hp1.2.2.2.2.1
        rw [if_neg hz2]
        refine zBrT (by rw [e72]; simp only [rI]; omega) e72 ?_
        refine zBrT rI_0 rfl ?_
        refine mVc_i (by omega) ?_
        refine mVc_i (by omega) ?_
        refine mVc_i (by omega) ?_
        obtain ⟨a0, a1, a2, a3, a4, a5, a6⟩ := hp1.2.2
        have a7 := kRow_s a6 (z := 0) f1.1 (show fr.1 1 < 5 by omega)
        have a8 : sSl s (fr.1 1) 0 = s := sSl_0 hs0
        have a9 : kRow (va_up (R2.2 1) (5 + 7 * fr.1 1 + 6).toNat 0) 0 4 s := by
          rw [← a8]
          exact a7
        refine ⟨rfl, kA (kA R2 1 (va_up (R2.2 1) (5 + 7 * fr.1 1 + 6).toNat 0)) 1 (va_up (va_up (R2.2 1) (5 + 7 * fr.1 1 + 6).toNat 0) 1 (va_up (R2.2 1) (5 + 7 * fr.1 1 + 6).toNat 0 1 + 1)), rfl, kP_t (kP_t g1 g2) (kP_t (kP_A _ _) (kP_A _ _)), Or.inl ⟨rfl, kT_P (kP_t (kP_A R2 _) (kP_A _ _)) rfl hp1.1, hp1.2.1, a0, ?_, ?_, ?_, ?_, ?_, kRow_l a9 (by omega) _⟩⟩
        · show va_up (va_up (R2.2 1) (5 + 7 * fr.1 1 + 6).toNat 0) 1 (va_up (R2.2 1) (5 + 7 * fr.1 1 + 6).toNat 0 1 + 1) 0 = fr.1 0
          rw [va_up_o _ _ (by omega), va_up_o _ _ (by omega)]; exact a1
        · show va_up (va_up (R2.2 1) (5 + 7 * fr.1 1 + 6).toNat 0) 1 (va_up (R2.2 1) (5 + 7 * fr.1 1 + 6).toNat 0 1 + 1) 1 = fr.1 1 + 1
          rw [va_up_s, va_up_o _ _ (by omega), e12]
        · show va_up (va_up (R2.2 1) (5 + 7 * fr.1 1 + 6).toNat 0) 1 (va_up (R2.2 1) (5 + 7 * fr.1 1 + 6).toNat 0 1 + 1) 2 = fr.1 2
          rw [va_up_o _ _ (by omega), va_up_o _ _ (by omega)]; exact a3
        · show va_up (va_up (R2.2 1) (5 + 7 * fr.1 1 + 6).toNat 0) 1 (va_up (R2.2 1) (5 + 7 * fr.1 1 + 6).toNat 0 1 + 1) 3 = fr.1 3
          rw [va_up_o _ _ (by omega), va_up_o _ _ (by omega)]; exact a4
        · show va_up (va_up (R2.2 1) (5 + 7 * fr.1 1 + 6).toNat 0) 1 (va_up (R2.2 1) (5 + 7 * fr.1 1 + 6).toNat 0 1 + 1) 4 = 0
          rw [va_up_o _ _ (by omega), va_up_o _ _ (by omega)]; exact a5
    | succ k ih =>
      intro g tt q1 s R g0 hk ht hq1 hs hs0 g1 hp1
      have hb1 := pTk_b hq1
      have e71 := hp1.2.2.1
      have rest : ∀ le : Int, le = (if g + 1 = 6 ∧ tt = 0 then 1 else 0) → 0 ≤ le ∧ le ≤ 1 → zWP X mX10_readDie 8 (kRs S K t B n (pDq B n (pDi B n (fr.1 1) (k + 1) (g + 1) tt q1 s) fr)) 71 [some (zR 29), some (zI (5 + 7 * fr.1 1)), some (zI tt), some (zI g), none] [zI le, zR 29] (cX S ++ (cM (R) ++ t)) 0 0 := by
        intro le hle ble
        refine zWP_run gX10_readDie 80 [43] ?_
        refine zCl_i (ynu hB hp1 hq1 (lo := le) (hi := 20) (by omega) (by omega)) (by decide) ?_
        rintro o9 h9 ⟨R2, rfl, g2, hcase⟩
        simp only [pDi]
        rw [← hle]
        rcases hcase with ⟨hz, rfl, hp2⟩ | ⟨hz, rfl, hbd⟩
        · rw [if_neg (fun z => z hz)]
          have h2 := pNk_0 hz
          have e72 := hp2.2.2.1
          refine zBrT (by rw [e72]; simp only [rI]; omega) e72 ?_
          refine mVc_i (by omega) ?_
          obtain ⟨a0, a1, a2, a3, a4, a5, a6⟩ := hp2.2.2
          have a7 := kRow_w a6 (z := q1.2.2.2) f1.1 (show fr.1 1 < 5 by omega) (show 1 ≤ g + 1 by omega) (show g + 1 ≤ 6 by omega)
          rw [show 5 + 7 * fr.1 1 + (g + 1) - 1 = 5 + 7 * fr.1 1 + g by omega] at a7
          have k9 := ih (g + 1) (tt + q1.2.2.2) (tok B n q1.1) (sWt s (fr.1 1) (g + 1) q1.2.2.2) (kA R2 1 (va_up (R2.2 1) (5 + 7 * fr.1 1 + g).toNat q1.2.2.2)) (by omega) (by omega) (by omega) (pTk_t hq1) (sWt_b hs _ _ (by omega)) hs0 (kP_t (kP_t g1 g2) (kP_A _ _)) ⟨kT_P (kP_A R2 _) rfl hp2.1, hp2.2.1, a0, ?_, ?_, ?_, ?_, ?_, a7⟩
          · exact zWP_fg k9 (L2 := [some (zR 29), some (zI (5 + 7 * fr.1 1)), some (zI (tt + q1.2.2.2)), some (zI (g + 1)), some (zI q1.2.2.2)]) (by repeat (first | exact trivial | refine ⟨rfl, ?_⟩))
          · show va_up (R2.2 1) (5 + 7 * fr.1 1 + g).toNat q1.2.2.2 0 = fr.1 0
            rw [va_up_o _ _ (by omega)]; exact a1
          · show va_up (R2.2 1) (5 + 7 * fr.1 1 + g).toNat q1.2.2.2 1 = fr.1 1
            rw [va_up_o _ _ (by omega)]; exact a2
          · show va_up (R2.2 1) (5 + 7 * fr.1 1 + g).toNat q1.2.2.2 2 = fr.1 2
            rw [va_up_o _ _ (by omega)]; exact a3
          · show va_up (R2.2 1) (5 + 7 * fr.1 1 + g).toNat q1.2.2.2 3 = fr.1 3
            rw [va_up_o _ _ (by omega)]; exact a4
          · show va_up (R2.2 1) (5 + 7 * fr.1 1 + g).toNat q1.2.2.2 4 = 0
            rw [va_up_o _ _ (by omega)]; exact a5
        · rw [if_pos hz]
          unfold pDq
          rw [if_pos hz]
          have hkb := pNk_b q1 le 20
          have hb7 := hbd.1
          refine zBrF (by rw [hb7]; simp only [rI]; omega) (by rw [hb7]; exact hz) ?_
          have fin : zWP X mX10_readDie 8 (kRs S K t B n (pNk q1 le 20, q1.2.1, q1, fr)) 106 [some (zR 29), some (zI (5 + 7 * fr.1 1)), some (zI (tt + le)), some (zI (g + 1)), some (zI le)] [] (cX S ++ (cM (R2) ++ t)) 0 0 := by
            refine zWP_run gX10_readDie 60 [] ?_
            refine zCl_e (ytkb (i := 1) (by rw [hb7]; omega)) (by decide) ?_
            refine zBrF (by rw [hb7]; simp only [rI]; omega) (by rw [hb7]; exact hz) ?_
            exact ⟨rfl, R2, rfl, kP_t g1 g2, Or.inr ⟨hz, hbd⟩⟩
          refine zWP_run gX10_readDie 60 [106] ?_
          by_cases c6 : 6 ≤ g + 1
          · refine zBrT (by simp only [rI]; omega) c6 ?_
            exact fin
          · refine zBrF (by simp only [rI]; omega) c6 ?_
            refine zBrF (by rw [hb7]; simp only [rI]; omega) (by rw [hb7]; exact hz) ?_
            exact fin
      refine zWP_run gX10_readDie 80 [43, 71] ?_
      refine zBrF (by simp only [rI]; omega) (by omega) ?_
      refine zBrT (by rw [e71]; simp only [rI]; omega) e71 ?_
      by_cases c6 : g = 5
      · refine zBrT (by simp only [rI]; omega) c6 ?_
        by_cases ct : tt = 0
        · refine zBrT (by simp only [rI]; omega) ct ?_
          exact rest 1 (by rw [if_pos ⟨by omega, ct⟩]) (by omega)
        · refine zBrF (by simp only [rI]; omega) ct ?_
          exact rest 0 (by rw [if_neg (fun z => ct z.2)]) (by omega)
      · refine zBrF (by simp only [rI]; omega) c6 ?_
        exact rest 0 (by rw [if_neg (fun z => c6 (by omega))]) (by omega)
  refine zEv_run gX10_readDie 60 [43] rfl ?_
  refine mVc_i (by omega) ?_
  refine zBrF (by show rI (K.2 1 1) ∧ rI 5; rw [e1]; simp only [rI]; omega) (by show ¬ K.2 1 1 = 5; omega) ?_
  refine zBrT (by rw [e7]; simp only [rI]; omega) e7 ?_
  refine zCl_i (ynx hB hp.1 (hp.2.1.1 (by omega)) hq hp.2.2) (by decide) ?_
  rintro o9 h9 ⟨rfl, R0, rfl, g0, hp0⟩
  refine mVc_i (by omega) ?_
  have e10 : R0.2 1 1 = fr.1 1 := hp0.2.2.2.2.1
  have k9 := lp 6 0 0 (tok B n q.1) fr.2 R0 (by omega) (by omega) (by omega) (pTk_t hq) fs (hzs _ (by omega)) g0 hp0
  have k10 : zWP X mX10_readDie 8 (kRs S K t B n (pDq B n (pDi B n (fr.1 1) 6 (0 + 1) 0 (tok B n q.1) fr.2) fr)) 43 [some (zR 29), some (zI (5 + 7 * R0.2 1 1)), some (zI 0), some (zI 0), none] [] (cX S ++ (cM (R0) ++ t)) 0 0 := by
    rw [e10]
    exact k9
  exact k10
end Kl
