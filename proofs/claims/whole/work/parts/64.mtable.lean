/-! the reference: table, fault, count -/
section Mm
variable {B C : Int → Int} {n : Int}
theorem pDi_m (h : ∀ a, tok C n a = tok B n a) {d : Int} : ∀ (k : Nat) (f tt : Int) (q : pT) (s : vS), pDi C n d k f tt q s = pDi B n d k f tt q s := by
  intro k
  induction k with
  | zero => intro f tt q s; rfl
  | succ k ih =>
    intro f tt q s
    simp only [pDi]
    rw [ih, h]
theorem pPr_m (h : ∀ a, tok C n a = tok B n a) (q : pT) (fr : pF) : pPr C n q fr = pPr B n q fr := by
  unfold pPr pDl pHl pDq pHq pAq
  simp only [h, pDi_m h]
theorem pLn_m (h : ∀ a, tok C n a = tok B n a) (q : pT) (fr : pF) : pLn C n q fr = pLn B n q fr := by
  unfold pLn pSg
  simp only [h, pPr_m h]
theorem pRd_m (h : ∀ a, tok C n a = tok B n a) : ∀ (k : Nat) (q : pT) (fr : pF), pRd C n k q fr = pRd B n k q fr := by
  intro k
  induction k with
  | zero => intro q fr; rfl
  | succ k ih =>
    intro q fr
    simp only [pRd]
    rw [pLn_m h, ih]
theorem pTb_m (h : ∀ a, tok C n a = tok B n a) : pTb C n = pTb B n := by
  unfold pTb
  rw [h, pRd_m h]
end Mm
theorem pLn_a {B : Int → Int} {n m : Int} {q : pT} {fr : pF} (hq : pTk B n q) (hf : pFb m fr) (h : (pLn B n q fr).1 = 0) : ∃ a, q.1 ≤ a ∧ a ≤ n ∧ (pLn B n q fr).2.2.1 = tok B n a := by
  have hp := pPr_ok hq hf
  unfold pLn at h ⊢
  by_cases c : (pPr B n q fr).1 = 0
  · rw [if_neg (fun z => z c)] at h ⊢
    have h3 := hp.2.2 c
    have hb := pTk_b h3.1
    unfold pSg at h ⊢
    by_cases c1 : (pPr B n q fr).2.2.1.2.2.1 = 1
    · rw [if_neg (fun z => z c1)]
      exact ⟨(pPr B n q fr).2.2.1.1, h3.2.2, hb.1.2, rfl⟩
    · rw [if_pos c1] at h
      have := pNo_b (pPr B n q fr).2.2.1
      simp only at h
      omega
  · rw [if_pos c] at h
    exact absurd h c
theorem pLn_8 {B : Int → Int} {n : Int} {q : pT} {fr : pF} (h8 : q.2.2.1 = 8) : ¬ (pLn B n q fr).1 = 0 := by
  have e : pPr B n q fr = (pNo q, q.2.1, q, fr) := by rw [pPr, if_neg (by omega), if_neg (by omega), if_neg (by omega)]
  have := pNo_b q
  unfold pLn
  rw [e]
  have c : ¬ (pNo q, q.2.1, q, fr).1 = 0 := by simp only; omega
  rw [if_pos c]
  exact c
theorem tok_n {B : Int → Int} {n a : Int} (h : n ≤ a) : (tok B n a).2.2.1 = 0 := by
  have := sc_b isBl B (n - a).toNat a
  unfold tok tk1
  rw [if_pos (by omega)]
/-- how table ends in the reference -/
def kTb (S : sS) (K : kK) (t : zH) (r : (Int ⊕ Nat) × vV × Option (Int × Int)) : zO → zH → Prop := fun o9 h9 => ∃ (z : Int) (R : kK), o9 = .inl (some (zI z)) ∧ h9 = cX S ++ (cM R ++ t) ∧ (∀ i, (i = 3 ∨ i = 4 ∨ i = 5 ∨ i = 12 ∨ i = 13 ∨ i = 14) → R.2 i = K.2 i) ∧ kV (R.2 0) r.2.1 ∧ kAn (kcd [0]) r.1 z (R.1 0) ∧ ((r.2.2 = none ∧ R.1 1 = K.1 1 ∧ R.1 9 = K.1 9 ∧ R.1 10 = K.1 10) ∨ ∃ y, r.2.2 = some y ∧ R.1 1 = 0 ∧ R.1 9 = y.1 ∧ R.1 10 = y.2)
section Kn
variable {X : mX} {S : sS} {K : kK} {t : zH} {v : vV} {B : Int → Int}
set_option maxHeartbeats 1000000 in
set_option maxRecDepth 100000 in
theorem kTable (hk : kVn (K.2 0) v (v.1 4)) (hB : ∀ a, -128 ≤ B a ∧ B a ≤ 127) (hKB : ∀ a : Int, 0 ≤ a → K.2 5 a.toNat = B a % 256) (hl : 0 ≤ K.1 1 ∧ K.1 1 ≤ 600) {n : Int} (hn : rI n) : zEv X 10 mX10_table [zR 29, zI n] (cX S ++ (cM (K) ++ t)) (kTb S K t (pTable v B (K.1 1) n)) := by
  have hn1 := hn.1
  have hn2 := hn.2
  unfold pTable
  by_cases c1 : 0 ≤ n ∧ n ≤ K.1 1
  rotate_left
  · rw [if_neg c1]
    refine zEv_run gX10_table 80 [] rfl ?_
    refine mVc_i hn ?_
    refine mVc_i (by show rI (K.1 1); simp only [rI]; omega) ?_
    refine zCl_e (kwi_f (x := n) (a := 0) (b := K.1 1) (by simp only [rL]; omega) (by simp only [rL]; omega) (by simp only [rL]; omega) (by omega)) (by decide) ?_
    refine zBrT rI_0 rfl ?_
    refine zCl_e (kfa (K := kI K 0 0)) (by decide) ?_
    exact ⟨0, kI (kI K 0 0) 0 1, rfl, rfl, fun _ _ => rfl, hk, rfl, Or.inl ⟨rfl, rfl, rfl, rfl⟩⟩
  rw [if_pos c1]
  have htk := tok_m hB n
  have hpb := pTb_m htk
  have hb := pTb_b (B := B) c1.1
  rw [← hpb] at hb ⊢
  generalize hC : (fun a => B a % 256) = C at htk hpb hb ⊢
  have hCb : ∀ a, 0 ≤ C a ∧ C a ≤ 255 := by
    intro a
    rw [← hC]
    show 0 ≤ B a % 256 ∧ B a % 256 ≤ 255
    omega
  have hKC : ∀ a : Int, 0 ≤ a → K.2 5 a.toNat = C a := by
    intro a a0
    rw [← hC]
    exact hKB a a0
  generalize hp9 : (if (pTb C n).1 = 0 then ((Sum.inl ((pTb C n).2.2.2.1 0), vNew (pTb C n).2.2.2, some (0, -1)) : (Int ⊕ Nat) × vV × Option (Int × Int)) else (Sum.inl (-10 - (pTb C n).1), v, some ((pTb C n).1, (pTb C n).2.1))) = r
  have end7 : ∀ R : kK, kP (kI (kI (kI (kI (kI K 0 0) 2 n) 1 0) 3 0) 7 0) R → (((pTb C n).1 = 0 ∧ kFr R (pTb C n).2.2.2) ∨ (¬ (pTb C n).1 = 0 ∧ kBd R (pTb C n).1 (pTb C n).2.1)) → zWP X mX10_table 10 (kTb S K t r) 77 [some (zR 29), some (zI n), none] [] (cX S ++ (cM (R) ++ t)) 0 0 := by
    intro R g1 hcase
    have r1 : R.1 1 = 0 := g1.1 1 (by omega)
    have r0 : R.1 0 = 0 := g1.1 0 (by omega)
    have rr : ∀ i, (i = 3 ∨ i = 4 ∨ i = 5 ∨ i = 12 ∨ i = 13 ∨ i = 14) → R.2 i = K.2 i := fun i hi => g1.2 i (by omega)
    rcases hcase with ⟨hz, hfr⟩ | ⟨hz, hbd⟩
    · rw [if_pos hz] at hp9
      have hfb := hb.2.2 hz
      have e7 := hfr.1
      have copy : ∀ (k : Nat) (i : Int) (f : Nat → Int), 0 ≤ i → i + k = 48 → (∀ j : Int, 0 ≤ j → j < i → f j.toNat = R.2 1 j.toNat) → zWP X mX10_table 10 (kTb S K t r) 121 [some (zR 29), some (zI n), some (zI i)] [] (cX S ++ (cM (kA (kI (kI R 9 (R.1 7)) 10 (-1)) 0 f) ++ t)) 0 0 := by
        intro k
        induction k with
        | zero =>
          intro i f i0 hk9 hf
          have ff : ∀ j : Nat, j < 48 → f j = R.2 1 j := fun j hj => by
            have := hf (j : Int) (by omega) (by omega)
            rw [Int.toNat_natCast] at this
            exact this
          refine zWP_run gX10_table 80 [121] ?_
          refine zBrT (by simp only [rI]; omega) (by omega) ?_
          refine mVc_i (by omega) ?_
          rw [← hp9]
          refine ⟨_, kA (kI (kI R 9 (R.1 7)) 10 (-1)) 0 f, rfl, rfl, ?_, ?_, ?_, Or.inr ⟨(0, -1), rfl, r1, e7, rfl⟩⟩
          · intro i hi
            show va_up R.2 0 f i = K.2 i
            rw [va_up_o _ _ (by omega)]
            exact rr i hi
          · show kV f (vNew (pTb C n).2.2.2)
            obtain ⟨a0, a1, a2, a3, a4, a5, a6⟩ := hfr
            have f2 := hfb.2.2.1
            refine ⟨vNew_b (by omega) hfb, ⟨?_, ?_, ?_, ?_, ?_⟩, ?_, fun k k0 k1 => ?_⟩
            · rw [ff 0 (by omega)]; exact a1
            · rw [Nat.zero_add, ff 1 (by omega)]; exact a2
            · rw [Nat.zero_add, ff 2 (by omega)]; exact a3
            · rw [Nat.zero_add, ff 3 (by omega)]; exact a4
            · rw [Nat.zero_add, ff 4 (by omega)]; exact a5
            · show kRow f 0 ((pTb C n).2.2.2.1 2) (pTb C n).2.2.2.2
              refine kRow_cg (c := R.2 1) (a := 0) (by omega) (fun i hi => ?_) ⟨a6.1, a6.2.1, a6.2.2.1, fun k k0 k1 => a6.2.2.2 k k0 (by omega)⟩
              exact ff _ (by omega)
            · have : k < 0 := k1
              omega
          · refine ⟨?_, r0⟩
            show f 0 = (pTb C n).2.2.2.1 0
            rw [ff 0 (by omega)]
            exact hfr.2.1
        | succ k ih =>
          intro i f i0 hk9 hf
          refine zWP_run gX10_table 80 [121] ?_
          refine zBrF (by simp only [rI]; omega) (by omega) ?_
          refine mVc_i (by omega) ?_
          refine mVc_i (by omega) ?_
          exact ih (i + 1) (va_up f i.toNat (R.2 1 i.toNat)) (by omega) (by omega) (fun j j0 j1 => by
            by_cases e : j = i
            · rw [e, va_up_s]
            · rw [va_up_o _ _ (by omega)]; exact hf j j0 (by omega))
      refine zWP_run gX10_table 80 [121] ?_
      refine zBrT (by show rI (R.1 7); rw [e7]; simp only [rI]; omega) e7 ?_
      refine zBrT (by show rI (R.1 7); rw [e7]; simp only [rI]; omega) e7 ?_
      have k9 := copy 48 0 (R.2 0) (by omega) (by omega) (fun j j0 j1 => by omega)
      have e9 : kA (kI (kI R 9 (R.1 7)) 10 (-1)) 0 (R.2 0) = kI (kI R 9 (R.1 7)) 10 (-1) := by
        show ((kI (kI R 9 (R.1 7)) 10 (-1)).1, va_up R.2 0 (R.2 0)) = _
        have : va_up R.2 0 (R.2 0) = R.2 := by
          funext j
          simp only [va_up]
          split
          · rename_i c; rw [c]
          · rfl
        rw [this]
        rfl
      rw [e9] at k9
      exact k9
    · rw [if_neg hz] at hp9
      have e7 := hbd.1
      have e8 := hbd.2.1
      refine zWP_run gX10_table 80 [121] ?_
      refine zBrF (by show rI (R.1 7); rw [e7]; simp only [rI]; omega) (by show ¬ R.1 7 = 0; omega) ?_
      refine zBrF (by show rI (R.1 7); rw [e7]; simp only [rI]; omega) (by show ¬ R.1 7 = 0; omega) ?_
      rw [← hp9]
      refine ⟨_, kI (kI R 9 (R.1 7)) 10 (R.1 8), rfl, rfl, rr, ?_, ⟨?_, r0⟩, Or.inr ⟨_, rfl, r1, e7, e8⟩⟩
      · show kV (R.2 0) v
        rw [g1.2 0 (by omega)]
        exact hk
      · show -10 - R.1 7 = _
        rw [e7]
  have lp : ∀ (k : Nat) (a m : Int) (fr : pF) (R : kK), 0 ≤ a ∧ a ≤ n → n - a ≤ k → kP (kI (kI (kI (kI (kI K 0 0) 2 n) 1 0) 3 0) 7 0) R → kPp R C n (tok C n a) fr → pFb m fr → pZs fr → pTb C n = pRd C n k (tok C n a) fr → zWP X mX10_table 10 (kTb S K t r) 56 [some (zR 29), some (zI n), none] [] (cX S ++ (cM (R) ++ t)) 0 0 := by
    intro k
    induction k with
    | zero =>
      intro a m fr R ha hka g1 hp hf hzs he
      have hz : (tok C n a).2.2.1 = 0 := tok_n (by omega)
      have e7 := hp.2.2.1
      refine zWP_run gX10_table 80 [77] ?_
      refine zBrT (by rw [e7]; simp only [rI]; omega) e7 ?_
      refine zBrT (by rw [hp.2.1.2.2.1, hz]; exact rI_0) (by rw [hp.2.1.2.2.1, hz]; rfl) ?_
      refine end7 R g1 (Or.inl ⟨by rw [he]; rfl, ?_⟩)
      rw [he]
      exact hp.2.2
    | succ k ih =>
      intro a m fr R ha hka g1 hp hf hzs he
      have e7 := hp.2.2.1
      have htb := tkm_b (tok C n a).2.2.1
      have hq : pTk C n (tok C n a) := ⟨a, ha.1, ha.2, rfl⟩
      have htk2 := tok_b (B := C) ha.1 ha.2
      simp only [pRd] at he
      refine zWP_run gX10_table 80 [56, 77] ?_
      refine zBrT (by rw [e7]; simp only [rI]; omega) e7 ?_
      by_cases c0 : (tok C n a).2.2.1 = 0
      · rw [if_pos c0] at he
        refine zBrT (by rw [hp.2.1.2.2.1, c0]; exact rI_0) (by rw [hp.2.1.2.2.1, c0]; rfl) ?_
        refine end7 R g1 (Or.inl ⟨by rw [he], ?_⟩)
        rw [he]
        exact hp.2.2
      · rw [if_neg c0] at he
        refine zBrF (by rw [hp.2.1.2.2.1]; simp only [rI]; omega) (by rw [hp.2.1.2.2.1]; exact fun z => c0 (tkm_0.mp z)) ?_
        have hln := pLn_ok hq hf
        refine zCl_i (yrl hCb hp hq hf hzs) (by decide) ?_
        rintro o9 h9 ⟨rfl, R2, rfl, g2, hcase⟩
        rcases hcase with ⟨hz, hp2⟩ | ⟨hz, hbd⟩
        · rw [if_neg (fun z => z hz)] at he
          obtain ⟨a2, b1, b2, b3⟩ := pLn_a hq hf hz
          have h3 := hln.2.2 hz
          have n8 : ¬ (tok C n a).2.2.1 = 8 := fun z => pLn_8 z hz
          have b4 := htk2.2.2.2.2 c0 n8
          rw [b3] at hp2 he
          exact ih a2 (m + 1) _ R2 (by omega) (by omega) (kP_t g1 g2) hp2 h3.2.1 (pZs_Ln hzs) he
        · rw [if_pos hz] at he
          have hln1 := hln.1
          have hb7 := hbd.1
          refine zWP_run gX10_table 80 [77] ?_
          refine zBrF (by rw [hb7]; simp only [rI]; omega) (by rw [hb7]; exact hz) ?_
          exact end7 R2 (kP_t g1 g2) (Or.inr ⟨by rw [he]; exact hz, by rw [he]; exact hbd⟩)
  refine zEv_run gX10_table 80 [56] rfl ?_
  refine mVc_i hn ?_
  refine mVc_i (by show rI (K.1 1); simp only [rI]; omega) ?_
  refine zCl_e (kwi_t (x := n) (a := 0) (b := K.1 1) (by simp only [rL]; omega) (by simp only [rL]; omega) (by simp only [rL]; omega) (by omega)) (by decide) ?_
  refine zBrF rI_1 (by omega) ?_
  refine zCl_i (ybg (K := kI (kI (kI (kI (kI K 0 0) 2 n) 1 0) 3 0) 7 0)) (by decide) ?_
  rintro o9 h9 ⟨rfl, c, rfl, hc⟩
  have hkT : kT (kA (kI (kI (kI (kI (kI K 0 0) 2 n) 1 0) 3 0) 7 0) 1 c) C n := ⟨rfl, by omega, fun a a0 a1 => hKC a a0⟩
  have hkF : kFr (kA (kI (kI (kI (kI (kI K 0 0) 2 n) 1 0) 3 0) 7 0) 1 c) pF0 := by
    have cc : ∀ j : Nat, j < 48 → c j = if (j : Int) = 3 then 5 else if (j : Int) < 44 then 0 else -1 := fun j hj => by
      have := hc (j : Int) (by omega) (by omega)
      rw [Int.toNat_natCast] at this
      exact this
    refine ⟨rfl, ?_, ?_, ?_, ?_, ?_, ?_⟩
    · show c 0 = 0
      rw [cc 0 (by omega)]; rfl
    · show c 1 = 0
      rw [cc 1 (by omega)]; rfl
    · show c 2 = 0
      rw [cc 2 (by omega)]; rfl
    · show c 3 = 5
      rw [cc 3 (by omega)]; rfl
    · show c 4 = 0
      rw [cc 4 (by omega)]; rfl
    · show kRow c 0 4 pF0.2
      refine ⟨fun d f a0 a1 b0 b1 => ?_, fun d a0 a1 => ?_, fun k a0 a1 => ?_, fun k a0 a1 => ?_⟩
      · rw [Nat.zero_add, hc _ (by omega) (by omega), if_neg (by omega), if_pos (by omega)]; rfl
      · rw [Nat.zero_add, hc _ (by omega) (by omega), if_neg (by omega), if_pos (by omega)]; rfl
      · rw [Nat.zero_add, hc _ (by omega) (by omega), if_neg (by omega), if_pos (by omega)]; rfl
      · rw [Nat.zero_add, hc _ (by omega) (by omega), if_neg (by omega), if_neg (by omega)]; rfl
  refine zCl_i (yrd (K := kA (kI (kI (kI (kI (kI K 0 0) 2 n) 1 0) 3 0) 7 0) 1 c) (a := 0) hCb hkT rfl (by omega)) (by decide) ?_
  rintro o9 h9 ⟨rfl, R2, rfl, f2, hcq⟩
  exact lp n.toNat 0 0 pF0 R2 (by omega) (by omega) (kP_t (kP_A _ _) (kP_S f2)) ⟨kT_S f2 hkT, hcq, kFr_S f2 hkF⟩ pF0_b (fun _ _ => rfl) rfl
set_option maxHeartbeats 1000000 in
set_option maxRecDepth 100000 in
theorem kFault {w : Int} (hw : rI w) : zEv X 10 mX10_fault [zR 29, zI w] (cX S ++ (cM (K) ++ t)) (zIs (.inl (some (zI (if w = 0 then K.1 9 else if w = 1 then K.1 10 else -1)))) (cX S ++ (cM (kI K 0 0) ++ t))) := by
  refine zEv_run gX10_fault 60 [] rfl ?_
  by_cases c : w = 0
  · rw [if_pos c]
    refine zBrT hw c ?_
    exact ⟨rfl, rfl⟩
  · rw [if_neg c]
    refine zBrF hw c ?_
    by_cases c1 : w = 1
    · rw [if_pos c1]
      refine zBrT ⟨hw, rI_1⟩ c1 ?_
      exact ⟨rfl, rfl⟩
    · rw [if_neg c1]
      refine zBrF ⟨hw, rI_1⟩ c1 ?_
      exact ⟨rfl, rfl⟩
end Kn
