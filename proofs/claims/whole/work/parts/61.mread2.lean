/-! the reference reads a table: words, numbers -/
def kFr (K : kK) (fr : pF) : Prop := K.1 7 = 0 ∧ K.2 1 0 = fr.1 0 ∧ K.2 1 1 = fr.1 1 ∧ K.2 1 2 = fr.1 2 ∧ K.2 1 3 = fr.1 3 ∧ K.2 1 4 = 0 ∧ kRow (K.2 1) 0 4 fr.2
theorem kFr_S {K R : kK} {fr : pF} (h : kS K R) (k : kFr K fr) : kFr R fr := by
  unfold kFr
  rw [h.1 7 (by omega), h.2]
  exact k
def kPp (K : kK) (B : Int → Int) (n : Int) (q : pT) (fr : pF) : Prop := kT K B n ∧ kQ K q ∧ kFr K fr
/-- a fault is noted -/
def kBd (R : kK) (e p : Int) : Prop := R.1 7 = e ∧ R.1 8 = p ∧ 0 ≤ R.1 5 ∧ R.1 5 ≤ 4
theorem tkm_b (k : Int) : 0 ≤ tkm k ∧ tkm k ≤ 4 := by
  unfold tkm
  repeat (first | omega | split)
theorem tkm_2 {k : Int} : tkm k = 2 ↔ k = 2 := by
  unfold tkm
  by_cases a : k = 0
  · rw [if_pos a]; omega
  · rw [if_neg a]
    by_cases b : k = 1
    · rw [if_pos b]; omega
    · rw [if_neg b]
      by_cases c : k = 2
      · rw [if_pos c]; omega
      · rw [if_neg c]
        by_cases d : k = 8
        · rw [if_pos d]; omega
        · rw [if_neg d]; omega
theorem tkm_3 {k : Int} : tkm k = 3 ↔ k = 1 := by
  unfold tkm
  by_cases a : k = 0
  · rw [if_pos a]; omega
  · rw [if_neg a]
    by_cases b : k = 1
    · rw [if_pos b]; omega
    · rw [if_neg b]
      by_cases c : k = 2
      · rw [if_pos c]; omega
      · rw [if_neg c]
        by_cases d : k = 8
        · rw [if_pos d]; omega
        · rw [if_neg d]; omega
theorem tkm_4 {k : Int} : tkm k = 4 ↔ k = 8 := by
  unfold tkm
  by_cases a : k = 0
  · rw [if_pos a]; omega
  · rw [if_neg a]
    by_cases b : k = 1
    · rw [if_pos b]; omega
    · rw [if_neg b]
      by_cases c : k = 2
      · rw [if_pos c]; omega
      · rw [if_neg c]
        by_cases d : k = 8
        · rw [if_pos d]; omega
        · rw [if_neg d]; omega
theorem tkm_0 {k : Int} : tkm k = 0 ↔ k = 0 := by
  unfold tkm
  by_cases a : k = 0
  · rw [if_pos a]; omega
  · rw [if_neg a]
    by_cases b : k = 1
    · rw [if_pos b]; omega
    · rw [if_neg b]
      by_cases c : k = 2
      · rw [if_pos c]; omega
      · rw [if_neg c]
        by_cases d : k = 8
        · rw [if_pos d]; omega
        · rw [if_neg d]; omega
theorem tkm_1 {k : Int} (h : 0 ≤ k ∧ k ≤ 8) : tkm k = 1 ↔ 3 ≤ k ∧ k ≤ 7 := by
  unfold tkm
  by_cases a : k = 0
  · rw [if_pos a]; omega
  · rw [if_neg a]
    by_cases b : k = 1
    · rw [if_pos b]; omega
    · rw [if_neg b]
      by_cases c : k = 2
      · rw [if_pos c]; omega
      · rw [if_neg c]
        by_cases d : k = 8
        · rw [if_pos d]; omega
        · rw [if_neg d]; omega
section Kw
variable {X : mX} {S : sS} {K : kK} {t : zH} {B : Int → Int} {n : Int} {q : pT} {fr : pF}
set_option maxHeartbeats 1000000 in
set_option maxRecDepth 100000 in
theorem ybl0 {k : Int} (h : K.1 7 = 0) (hr : 0 ≤ K.1 5 ∧ K.1 5 ≤ 4) : zEv X 1 mX10_blames [zR 29, zI k] (cX S ++ (cM (K) ++ t)) (zIs (.inl none) (cX S ++ (cM (kI (kI K 7 (if K.1 5 = 4 then 1 else k)) 8 (K.1 4)) ++ t))) := by
  refine zEv_run gX10_blames 60 [] rfl ?_
  refine zBrT (by simp only [rI]; omega) h ?_
  refine zBr (by simp only [rI]; omega) (fun c => ?_) (fun c => ?_)
  · rw [if_pos c]
    exact ⟨rfl, rfl⟩
  · rw [if_neg c]
    exact ⟨rfl, rfl⟩
set_option maxHeartbeats 1000000 in
set_option maxRecDepth 100000 in
theorem ybl1 {k : Int} (h : 1 ≤ K.1 7 ∧ K.1 7 ≤ 4) : zEv X 1 mX10_blames [zR 29, zI k] (cX S ++ (cM (K) ++ t)) (zIs (.inl none) (cX S ++ (cM (K) ++ t))) := by
  refine zEv_run gX10_blames 60 [] rfl ?_
  refine zBrF (by simp only [rI]; omega) (by omega) ?_
  exact ⟨rfl, rfl⟩
theorem yfl {k : Int} (hp : kPp K B n q fr) (hk : 1 ≤ k ∧ k ≤ 4) : zEv X 1 mX10_blames [zR 29, zI k] (cX S ++ (cM K ++ t)) (fun o9 h9 => o9 = .inl none ∧ ∃ R : kK, h9 = cX S ++ (cM R ++ t) ∧ kP K R ∧ kBd R (if q.2.2.1 = 8 then 1 else k) q.2.1) := by
  have e := hp.2.1
  have hb := tkm_b q.2.2.1
  have e5 := e.2.2.1
  refine zEv_w (ybl0 (X := X) (S := S) (t := t) (K := K) (k := k) hp.2.2.1 (by rw [e5]; exact hb)) ?_
  rintro o9 h9 ⟨rfl, rfl⟩
  refine ⟨rfl, _, rfl, kP_t (kP_I K _ (by omega)) (kP_I _ _ (by omega)), ?_, ?_, ?_⟩
  · show (if K.1 5 = 4 then 1 else k) = _
    rw [e5]
    by_cases c : q.2.2.1 = 8
    · rw [if_pos c, if_pos (tkm_4.mpr c)]
    · rw [if_neg c, if_neg (fun z => c (tkm_4.mp z))]
  · exact e.2.1
  · show 0 ≤ K.1 5 ∧ K.1 5 ≤ 4
    rw [e5]
    exact hb
set_option maxHeartbeats 1000000 in
set_option maxRecDepth 100000 in
theorem yiwb {i : Nat} (hb : 1 ≤ K.1 7 ∧ K.1 7 ≤ 4) : zEv X 6 mX10_isWord [zR 29, zR (mSB + i)] (cX S ++ (cM (K) ++ t)) (zIs (.inl (some (zI (0)))) (cX S ++ (cM (K) ++ t))) := by
  refine zEv_run gX10_isWord 60 [] rfl ?_
  refine zBrF (by simp only [rI]; omega) (by omega) ?_
  refine zBrT rI_0 rfl ?_
  exact mVc_i (Or.inl rfl) ⟨rfl, rfl⟩
set_option maxHeartbeats 1000000 in
set_option maxRecDepth 100000 in
theorem yiw (hB : ∀ a, 0 ≤ B a ∧ B a ≤ 255) (hp : kPp K B n q fr) (hq : pTk B n q) {i : Nat} (hi : i < 4) : zEv X 6 mX10_isWord [zR 29, zR (mSB + i)] (cX S ++ (cM (K) ++ t)) (zIs (.inl (some (zI (if q.2.2.1 = 3 + i then 1 else 0)))) (cX S ++ (cM (K) ++ t))) := by
  have hqb := pTk_b hq
  have e := hp.2.1
  have hc := hp.1
  have e7 := hp.2.2.1
  have hl := mTl_ok i hi
  have hz : zTl i = mTl i := rfl
  have htb := tkm_b q.2.2.1
  have hn6 := hc.2.1
  have no : ∀ (k : Int), ¬ q.2.2.1 = 3 + i → zWP X mX10_isWord 6 (zIs (.inl (some (zI (if q.2.2.1 = 3 + i then 1 else 0)))) (cX S ++ (cM (K) ++ t))) 39 [some (zR 29), some (zR (mSB + i)), some (zI 0), some (zI k)] [] (cX S ++ (cM (K) ++ t)) 0 0 := by
    intro k c
    rw [if_neg c]
    refine zWP_run gX10_isWord 60 [] ?_
    refine zBrT rI_0 rfl ?_
    exact mVc_i (Or.inl rfl) ⟨rfl, rfl⟩
  by_cases cw : 3 ≤ q.2.2.1 ∧ q.2.2.1 ≤ 7
  · have hw := pTk_w hq cw
    have hwi := wk_i (B := B) (s := q.2.1) (e := q.1) hi
    rw [← hw.1] at hwi
    have e3 := e.1 (by omega)
    have lp : ∀ (k : Nat) (j : Int), 0 ≤ j → j + k = zTl i → q.1 - q.2.1 = zTl i → (wm B q.2.1 q.1 i = wmL B q.2.1 i k j) → zWP X mX10_isWord 6 (zIs (.inl (some (zI (if q.2.2.1 = 3 + i then 1 else 0)))) (cX S ++ (cM (K) ++ t))) 39 [some (zR 29), some (zR (mSB + i)), some (zI 1), some (zI j)] [] (cX S ++ (cM (K) ++ t)) 0 0 := by
      intro k
      induction k with
      | zero =>
        intro j j0 hk he hm
        simp only [wmL] at hm
        rw [if_pos (hwi.mpr hm)]
        refine zWP_run gX10_isWord 60 [45] ?_
        refine zBrF rI_1 (by omega) ?_
        refine zWP_len (idx := 103) hi rfl (by decide +kernel) (by decide +kernel) (Nat.le_of_ble_eq_true rfl) (zWfS_n rfl (zWfS_n (zWfV_s _ _) rfl)) (by decide) ?_
        refine zWP_run gX10_isWord 60 [] ?_
        refine zBrT (by simp only [rI]; omega) (by omega) ?_
        exact mVc_i (Or.inr rfl) ⟨rfl, rfl⟩
      | succ k ih =>
        intro j j0 hk he hm
        have hb := hB (q.2.1 + j)
        have hch : 0 ≤ zTc i j ∧ zTc i j ≤ 127 := by
          have : ∀ i, i < 4 → ∀ j, j < 4 → 0 ≤ (mTc i j).toInt ∧ (mTc i j).toInt ≤ 127 := by decide +kernel
          exact this i hi j.toNat (by omega)
        have eb : K.2 5 (K.1 4 + j).toNat = B (q.2.1 + j) := by
          rw [e.2.1]
          exact hc.2.2 _ (by omega) (by omega)
        simp only [wmL] at hm
        refine zWP_run gX10_isWord 60 [45] ?_
        refine zBrF rI_1 (by omega) ?_
        refine zWP_len (idx := 103) hi rfl (by decide +kernel) (by decide +kernel) (Nat.le_of_ble_eq_true rfl) (zWfS_n rfl (zWfS_n (zWfV_s _ _) rfl)) (by decide) ?_
        refine zWP_run gX10_isWord 60 [64] ?_
        refine zBrF (by simp only [rI]; omega) (by omega) ?_
        refine mVc_i (by rw [e.2.1]; omega) ?_
        show zWP X mX10_isWord 6 _ 64 _ [zI j, zR (mSB + i), zI (K.2 5 (K.1 4 + j).toNat)] _ _ _
        rw [eb]
        refine zWP_ch (idx := 108) hi j0 (by omega) rfl (by decide +kernel) (by decide +kernel) (Nat.le_of_ble_eq_true rfl) (zWfS_n rfl (zWfS_n (zWfV_s _ _) rfl)) (by decide) ?_
        refine zWP_run gX10_isWord 60 [39] ?_
        refine zBr (by simp only [rI]; omega) (fun c => ?_) (fun c => ?_)
        · rw [if_pos c] at hm
          exact ih (j + 1) (by omega) (by omega) he hm
        · rw [if_neg c] at hm
          exact no (j + 1) (fun z => by have := hwi.mp z; omega)
    refine zEv_run gX10_isWord 60 [25] rfl ?_
    refine zBrT (by simp only [rI]; omega) e7 ?_
    refine zBrT (by rw [e.2.2.1]; simp only [rI]; omega) (by rw [e.2.2.1]; exact (tkm_1 hqb.2.2.1).mpr cw) ?_
    refine zWP_len (idx := 103) hi rfl (by decide +kernel) (by decide +kernel) (Nat.le_of_ble_eq_true rfl) (zWfS_n rfl (zWfS_n (zWfV_s _ _) rfl)) (by decide) ?_
    refine zWP_run gX10_isWord 60 [39] ?_
    have h0 := e.2.1
    refine zBr (by rw [e3, h0]; simp only [rI]; omega) (fun c => ?_) (fun c => ?_)
    · rw [e3, h0] at c
      exact lp (mTl i) 0 (by omega) (by omega) c (by unfold wm; rw [if_pos c])
    · rw [e3, h0] at c
      exact no 0 (fun z => by
        have z2 := hwi.mp z
        unfold wm at z2
        rw [if_neg c] at z2
        omega)
  · refine zEv_run gX10_isWord 60 [39] rfl ?_
    refine zBrT (by simp only [rI]; omega) e7 ?_
    refine zBrF (by rw [e.2.2.1]; simp only [rI]; omega) (by rw [e.2.2.1]; exact fun z => cw ((tkm_1 hqb.2.2.1).mp z)) ?_
    exact no 0 (by omega)
set_option maxHeartbeats 1000000 in
set_option maxRecDepth 100000 in
theorem ytkb {i : Nat} (hb : 1 ≤ K.1 7 ∧ K.1 7 ≤ 4) : zEv X 7 mX10_took [zR 29, zR (mSB + i)] (cX S ++ (cM (K) ++ t)) (zIs (.inl (some (zI (0)))) (cX S ++ (cM (K) ++ t))) := by
  refine zEv_run gX10_took 60 [2] rfl ?_
  refine zWP_run gX10_took 60 [6] ?_
  show zInv X mX10_took 7 (zIs (.inl (some (zI (0)))) (cX S ++ (cM (K) ++ t))) tX10_took (fun pc L st h bc bs => bif [6].elem pc then zWP X mX10_took 7 (zIs (.inl (some (zI (0)))) (cX S ++ (cM (K) ++ t))) pc L st h bc bs else zRun X mX10_took 7 (zIs (.inl (some (zI (0)))) (cX S ++ (cM (K) ++ t))) tX10_took [6] 59 pc L st h bc bs) 2 5 [some (zR 29), some (zR (mSB + i)), none] (cX S ++ (cM (K) ++ t)) 0 0 0 mX10_isWord [zR 29, zR (mSB + i)] []
  refine zInv_i (zWfS_n rfl (zWfS_n (zWfV_s _ _) rfl)) rfl rfl rfl ?_
  refine zCl_e (yiwb hb) (by decide) ?_
  refine zWP_run gX10_took 60 [] ?_
  refine zBrT rI_0 rfl ?_
  exact mVc_i (Or.inl rfl) ⟨rfl, rfl⟩
set_option maxHeartbeats 1000000 in
set_option maxRecDepth 100000 in
theorem ytk (hB : ∀ a, 0 ≤ B a ∧ B a ≤ 255) (hp : kPp K B n q fr) (hq : pTk B n q) {i : Nat} (hi : i < 4) : zEv X 7 mX10_took [zR 29, zR (mSB + i)] (cX S ++ (cM (K) ++ t)) (fun o9 h9 => ∃ R : kK, h9 = cX S ++ (cM R ++ t) ∧ kP K R ∧ ((q.2.2.1 = 3 + i ∧ o9 = .inl (some (zI 1)) ∧ kPp R B n (tok B n q.1) fr) ∨ (¬ q.2.2.1 = 3 + i ∧ o9 = .inl (some (zI 0)) ∧ R = K))) := by
  refine zEv_run gX10_took 60 [2] rfl ?_
  refine zWP_run gX10_took 60 [6] ?_
  show zInv X mX10_took 7 (fun o9 h9 => ∃ R : kK, h9 = cX S ++ (cM R ++ t) ∧ kP K R ∧ ((q.2.2.1 = 3 + i ∧ o9 = .inl (some (zI 1)) ∧ kPp R B n (tok B n q.1) fr) ∨ (¬ q.2.2.1 = 3 + i ∧ o9 = .inl (some (zI 0)) ∧ R = K))) tX10_took (fun pc L st h bc bs => bif [6].elem pc then zWP X mX10_took 7 (fun o9 h9 => ∃ R : kK, h9 = cX S ++ (cM R ++ t) ∧ kP K R ∧ ((q.2.2.1 = 3 + i ∧ o9 = .inl (some (zI 1)) ∧ kPp R B n (tok B n q.1) fr) ∨ (¬ q.2.2.1 = 3 + i ∧ o9 = .inl (some (zI 0)) ∧ R = K))) pc L st h bc bs else zRun X mX10_took 7 (fun o9 h9 => ∃ R : kK, h9 = cX S ++ (cM R ++ t) ∧ kP K R ∧ ((q.2.2.1 = 3 + i ∧ o9 = .inl (some (zI 1)) ∧ kPp R B n (tok B n q.1) fr) ∨ (¬ q.2.2.1 = 3 + i ∧ o9 = .inl (some (zI 0)) ∧ R = K))) tX10_took [6] 59 pc L st h bc bs) 2 5 [some (zR 29), some (zR (mSB + i)), none] (cX S ++ (cM (K) ++ t)) 0 0 0 mX10_isWord [zR 29, zR (mSB + i)] []
  refine zInv_i (zWfS_n rfl (zWfS_n (zWfV_s _ _) rfl)) rfl rfl rfl ?_
  refine zCl_e (yiw hB hp hq hi) (by decide) ?_
  have hqb := pTk_b hq
  by_cases c : q.2.2.1 = 3 + i
  · rw [if_pos c]
    refine zWP_run gX10_took 60 [11] ?_
    refine zBrF rI_1 (by omega) ?_
    refine zWP_run gX10_took 60 [14] ?_
    show zInv X mX10_took 7 (fun o9 h9 => ∃ R : kK, h9 = cX S ++ (cM R ++ t) ∧ kP K R ∧ ((q.2.2.1 = 3 + i ∧ o9 = .inl (some (zI 1)) ∧ kPp R B n (tok B n q.1) fr) ∨ (¬ q.2.2.1 = 3 + i ∧ o9 = .inl (some (zI 0)) ∧ R = K))) tX10_took (fun pc L st h bc bs => bif [14].elem pc then zWP X mX10_took 7 (fun o9 h9 => ∃ R : kK, h9 = cX S ++ (cM R ++ t) ∧ kP K R ∧ ((q.2.2.1 = 3 + i ∧ o9 = .inl (some (zI 1)) ∧ kPp R B n (tok B n q.1) fr) ∨ (¬ q.2.2.1 = 3 + i ∧ o9 = .inl (some (zI 0)) ∧ R = K))) pc L st h bc bs else zRun X mX10_took 7 (fun o9 h9 => ∃ R : kK, h9 = cX S ++ (cM R ++ t) ∧ kP K R ∧ ((q.2.2.1 = 3 + i ∧ o9 = .inl (some (zI 1)) ∧ kPp R B n (tok B n q.1) fr) ∨ (¬ q.2.2.1 = 3 + i ∧ o9 = .inl (some (zI 0)) ∧ R = K))) tX10_took [14] 59 pc L st h bc bs) 11 14 [some (zR 29), some (zR (mSB + i)), some (zI 1)] (cX S ++ (cM (K) ++ t)) 0 0 0 mX10_reads [zR 29] []
    refine zInv_i (zWfS_n rfl (zWfS_n (zWfV_s _ _) rfl)) rfl rfl rfl ?_
    refine zCl_i (yrd hB hp.1 (hp.2.1.1 (by omega)) hqb.1) (by decide) ?_
    rintro o9 h9 ⟨rfl, R, rfl, f1, r1⟩
    refine zWP_run gX10_took 60 [] ?_
    exact mVc_i (Or.inr rfl) ⟨R, rfl, kP_S f1, Or.inl ⟨c, rfl, kT_S f1 hp.1, r1, kFr_S f1 hp.2.2⟩⟩
  · rw [if_neg c]
    refine zWP_run gX10_took 60 [] ?_
    refine zBrT rI_0 rfl ?_
    exact mVc_i (Or.inl rfl) ⟨K, rfl, kP_r K, Or.inr ⟨c, rfl, rfl⟩⟩
set_option maxHeartbeats 1000000 in
set_option maxRecDepth 100000 in
theorem ynu (hB : ∀ a, 0 ≤ B a ∧ B a ≤ 255) (hp : kPp K B n q fr) (hq : pTk B n q) {lo hi : Int} (hl : 0 ≤ lo ∧ lo ≤ 20) (hh : 0 ≤ hi ∧ hi ≤ 20) : zEv X 3 mX10_number [zR 29, zI lo, zI hi] (cX S ++ (cM (K) ++ t)) (fun o9 h9 => ∃ R : kK, h9 = cX S ++ (cM R ++ t) ∧ kP K R ∧ ((pNk q lo hi = 0 ∧ o9 = .inl (some (zI q.2.2.2)) ∧ kPp R B n (tok B n q.1) fr) ∨ (¬ pNk q lo hi = 0 ∧ o9 = .inl (some (zI lo)) ∧ kBd R (pNk q lo hi) q.2.1))) := by
  have hb := pTk_b hq
  have e := hp.2.1
  have hno := pNo_b q
  have htb := tkm_b q.2.2.1
  have e7 := hp.2.2.1
  have bad : ∀ (R : kK), kP K R → ¬ pNk q lo hi = 0 → kBd R (pNk q lo hi) q.2.1 → zWP X mX10_number 3 (fun o9 h9 => ∃ R : kK, h9 = cX S ++ (cM R ++ t) ∧ kP K R ∧ ((pNk q lo hi = 0 ∧ o9 = .inl (some (zI q.2.2.2)) ∧ kPp R B n (tok B n q.1) fr) ∨ (¬ pNk q lo hi = 0 ∧ o9 = .inl (some (zI lo)) ∧ kBd R (pNk q lo hi) q.2.1))) 36 [some (zR 29), some (zI lo), some (zI hi), none] [] (cX S ++ (cM (R) ++ t)) 0 0 := by
    intro R f1 hz hbd
    have hkb := pNk_b q lo hi
    have e70 := hbd.1
    refine zWP_run gX10_number 60 [] ?_
    refine zBrF (by rw [e70]; simp only [rI]; omega) (by rw [e70]; exact hz) ?_
    refine zBrF (by rw [e70]; simp only [rI]; omega) (by rw [e70]; exact hz) ?_
    exact ⟨R, rfl, f1, Or.inr ⟨hz, rfl, hbd⟩⟩
  refine zEv_run gX10_number 60 [36] rfl ?_
  by_cases c : q.2.2.1 = 2
  rotate_left
  · have ek : pNk q lo hi = pNo q := by rw [pNk, if_pos c]
    refine zBrF (by rw [e.2.2.1]; simp only [rI]; omega) (by rw [e.2.2.1]; exact fun z => c (tkm_2.mp z)) ?_
    refine zCl_i (yfl (k := 2) hp (by omega)) (by decide) ?_
    rintro o9 h9 ⟨rfl, R, rfl, f1, hbd⟩
    exact bad R f1 (by rw [ek]; omega) (by rw [ek]; exact hbd)
  · have ev := e.2.2.2 c
    refine zBrT (by rw [e.2.2.1]; simp only [rI]; omega) (by rw [e.2.2.1]; exact tkm_2.mpr c) ?_
    by_cases z : q.2.2.2 < lo ∨ hi < q.2.2.2
    · have ek : pNk q lo hi = 3 := by rw [pNk, if_neg (fun y => y c), if_pos z]
      refine mVc_i (by rw [ev]; simp only [rI]; omega) ?_
      refine mVc_i (by simp only [rI]; omega) ?_
      refine mVc_i (by simp only [rI]; omega) ?_
      refine zCl_e (kwi_f (x := K.1 6) (a := lo) (b := hi) (by rw [ev]; simp only [rL]; omega) (by simp only [rL]; omega) (by simp only [rL]; omega) (by rw [ev]; omega)) (by decide) ?_
      refine zBrT rI_0 rfl ?_
      refine zCl_i (yfl (k := 3) hp (by omega)) (by decide) ?_
      rintro o9 h9 ⟨rfl, R, rfl, f1, hbd⟩
      rw [if_neg (by omega)] at hbd
      exact bad R f1 (by rw [ek]; omega) (by rw [ek]; exact hbd)
    · have ek : pNk q lo hi = 0 := by rw [pNk, if_neg (fun y => y c), if_neg z]
      refine mVc_i (by rw [ev]; simp only [rI]; omega) ?_
      refine mVc_i (by simp only [rI]; omega) ?_
      refine mVc_i (by simp only [rI]; omega) ?_
      refine zCl_e (kwi_t (x := K.1 6) (a := lo) (b := hi) (by rw [ev]; simp only [rL]; omega) (by simp only [rL]; omega) (by simp only [rL]; omega) (by rw [ev]; omega)) (by decide) ?_
      refine zBrF rI_1 (by omega) ?_
      refine zWP_run gX10_number 60 [] ?_
      refine zBrT (by simp only [rI]; omega) e7 ?_
      refine zCl_i (yrd hB hp.1 (e.1 (by omega)) hb.1) (by decide) ?_
      rintro o9 h9 ⟨rfl, R, rfl, f1, r1⟩
      have e7R : R.1 7 = 0 := by rw [f1.1 7 (by omega)]; exact e7
      refine zBrT (by rw [e7R]; simp only [rI]; omega) e7R ?_
      exact ⟨R, rfl, kP_S f1, Or.inl ⟨ek, by rw [← ev], kT_S f1 hp.1, r1, kFr_S f1 hp.2.2⟩⟩
end Kw
