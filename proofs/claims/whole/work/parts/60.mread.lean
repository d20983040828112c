/-! the reference reads a table: tokens, words -/
theorem kI_same (K : kK) (i : Nat) : kI K i (K.1 i) = K := by
  show (va_up K.1 i (K.1 i), K.2) = K
  have : va_up K.1 i (K.1 i) = K.1 := by
    funext j
    simp only [va_up]
    split
    · rename_i c; rw [c]
    · rfl
  rw [this]
/-- the bytes, without their sign -/
theorem isBl_m {x : Int} (h : -128 ≤ x ∧ x ≤ 127) : isBl (x % 256) = isBl x := by
  unfold isBl
  exact decide_eq_decide.mpr (by omega)
theorem isDg_m {x : Int} (h : -128 ≤ x ∧ x ≤ 127) : isDg (x % 256) = isDg x := by
  unfold isDg
  exact decide_eq_decide.mpr (by omega)
theorem isLt_m {x : Int} (h : -128 ≤ x ∧ x ≤ 127) : isLt (x % 256) = isLt x := by
  unfold isLt
  exact decide_eq_decide.mpr (by omega)
theorem sc_m {P : Int → Bool} {B : Int → Int} (hP : ∀ a, P (B a % 256) = P (B a)) : ∀ (k : Nat) (a : Int), sc P (fun a => B a % 256) k a = sc P B k a := by
  intro k
  induction k with
  | zero => intro a; rfl
  | succ k ih =>
    intro a
    simp only [sc]
    rw [hP a, ih (a + 1)]
theorem nv_m {B : Int → Int} (hB : ∀ a, -128 ≤ B a ∧ B a ≤ 127) (s : Int) : ∀ (k : Nat) (a v : Int), nv (fun a => B a % 256) s k a v = nv B s k a v := by
  intro k
  induction k with
  | zero => intro a v; rfl
  | succ k ih =>
    intro a v
    simp only [nv]
    rw [isDg_m (hB a)]
    by_cases c : isDg (B a) = true
    · rw [if_pos c, if_pos c, ih]
      have c2 := c
      simp only [isDg, decide_eq_true_eq] at c2
      rw [show B a % 256 = B a by omega]
    · rw [if_neg c, if_neg c]
theorem wmL_m {B : Int → Int} (hB : ∀ a, -128 ≤ B a ∧ B a ≤ 127) {i : Nat} (hi : i < 4) (s : Int) : ∀ (k : Nat) (j : Int), 0 ≤ j → j + k ≤ zTl i → wmL (fun a => B a % 256) s i k j = wmL B s i k j := by
  intro k
  induction k with
  | zero => intro j _ _; rfl
  | succ k ih =>
    intro j j0 hj
    have hl := mTl_ok i hi
    have hz : zTl i = mTl i := rfl
    have hch : 0 ≤ zTc i j ∧ zTc i j ≤ 127 := by
      have : ∀ i, i < 4 → ∀ j, j < 4 → 0 ≤ (mTc i j).toInt ∧ (mTc i j).toInt ≤ 127 := by decide +kernel
      exact this i hi j.toNat (by omega)
    have hb := hB (s + j)
    simp only [wmL]
    rw [ih (j + 1) (by omega) (by omega)]
    by_cases c : B (s + j) = zTc i j
    · rw [if_pos c, if_pos (by omega)]
    · rw [if_neg c, if_neg (by omega)]
theorem wm_m {B : Int → Int} (hB : ∀ a, -128 ≤ B a ∧ B a ≤ 127) {i : Nat} (hi : i < 4) (s e : Int) : wm (fun a => B a % 256) s e i = wm B s e i := by
  unfold wm
  rw [wmL_m hB hi s (mTl i) 0 (by omega) (by show (0 : Int) + mTl i ≤ mTl i; omega)]
theorem tok_m {B : Int → Int} (hB : ∀ a, -128 ≤ B a ∧ B a ≤ 127) (n a : Int) : tok (fun a => B a % 256) n a = tok B n a := by
  have e1 := sc_m (P := isBl) (B := B) (fun a => isBl_m (hB a))
  have e2 := sc_m (P := isDg) (B := B) (fun a => isDg_m (hB a))
  have e3 := sc_m (P := isLt) (B := B) (fun a => isLt_m (hB a))
  unfold tok
  rw [e1]
  generalize sc isBl B (n - a).toNat a = s
  have hb := hB s
  unfold tk1
  rw [e2, e3, nv_m hB, isDg_m hb, isLt_m hb]
  have e4 : wk (fun a => B a % 256) s (sc isLt B (n - s).toNat s) = wk B s (sc isLt B (n - s).toNat s) := by
    unfold wk
    rw [wm_m hB (by omega), wm_m hB (by omega), wm_m hB (by omega), wm_m hB (by omega)]
  rw [e4]
  by_cases c0 : n ≤ s
  · rw [if_pos c0, if_pos c0]
  · rw [if_neg c0, if_neg c0]
    show (if B s % 256 = 59 then _ else _) = (if B s = 59 then _ else _)
    by_cases c : B s = 59
    · rw [if_pos c, if_pos (show B s % 256 = 59 by omega)]
    · rw [if_neg c, if_neg (show ¬ B s % 256 = 59 by omega)]
/-- the text that the reference reads -/
def kT (K : kK) (B : Int → Int) (n : Int) : Prop := K.1 2 = n ∧ (0 ≤ n ∧ n ≤ 600) ∧ ∀ a : Int, 0 ≤ a → a < n → K.2 5 a.toNat = B a
/-- only the token changes -/
def kS (K R : kK) : Prop := (∀ i, (i < 3 ∨ 6 < i) → R.1 i = K.1 i) ∧ R.2 = K.2
theorem kS_r (K : kK) : kS K K := ⟨fun _ _ => rfl, rfl⟩
theorem kS_t {K R Q : kK} (h : kS K R) (k : kS R Q) : kS K Q := ⟨fun i hi => by rw [k.1 i hi, h.1 i hi], by rw [k.2, h.2]⟩
theorem kS_I (K : kK) {r : Nat} (z : Int) (h : 3 ≤ r ∧ r ≤ 6) : kS K (kI K r z) := ⟨fun i hi => va_up_o _ _ (by omega), rfl⟩
theorem kT_S {K R : kK} {B : Int → Int} {n : Int} (h : kS K R) (k : kT K B n) : kT R B n := by
  unfold kT
  rw [h.1 2 (by omega), h.2]
  exact k
def tkm (k : Int) : Int := if k = 0 then 0 else if k = 1 then 3 else if k = 2 then 2 else if k = 8 then 4 else 1
def kQ (K : kK) (q : pT) : Prop := (¬ q.2.2.1 = 8 → K.1 3 = q.1) ∧ K.1 4 = q.2.1 ∧ K.1 5 = tkm q.2.2.1 ∧ (q.2.2.1 = 2 → K.1 6 = q.2.2.2)
/-- only what is read changes -/
def kP (K R : kK) : Prop := (∀ i, (i < 2 ∨ 8 < i) → R.1 i = K.1 i) ∧ ∀ r, ¬ r = 1 → R.2 r = K.2 r
theorem kP_r (K : kK) : kP K K := ⟨fun _ _ => rfl, fun _ _ => rfl⟩
theorem kP_t {K R Q : kK} (h : kP K R) (k : kP R Q) : kP K Q := ⟨fun i hi => by rw [k.1 i hi, h.1 i hi], fun i hi => by rw [k.2 i hi, h.2 i hi]⟩
theorem kP_S {K R : kK} (h : kS K R) : kP K R := ⟨fun i hi => h.1 i (by omega), fun r _ => by rw [h.2]⟩
theorem kP_I (K : kK) {r : Nat} (z : Int) (h : 2 ≤ r ∧ r ≤ 8) : kP K (kI K r z) := ⟨fun i hi => va_up_o _ _ (by omega), fun _ _ => rfl⟩
theorem kP_A (K : kK) (f : Nat → Int) : kP K (kA K 1 f) := ⟨fun _ _ => rfl, fun r hr => va_up_o _ _ hr⟩
section Kt
variable {X : mX} {S : sS} {K : kK} {t : zH} {B : Int → Int} {n : Int}
set_option maxHeartbeats 1000000 in
set_option maxRecDepth 100000 in
theorem ysee (hc : kT K B n) {p : Int} (h0 : 0 ≤ p ∧ p ≤ 600) : zEv X 1 mX10_see [zR 29, zI p] (cX S ++ (cM (K) ++ t)) (zIs (.inl (some (zI (if p < n then B p else 0)))) (cX S ++ (cM (K) ++ t))) := by
  have e2 := hc.1
  have hn := hc.2.1
  refine zEv_run gX10_see 60 [] rfl ?_
  by_cases c : p < n
  · rw [if_pos c]
    refine zBrF (by simp only [rI]; omega) (by omega) ?_
    refine mVc_i (by omega) ?_
    exact ⟨by rw [← hc.2.2 p h0.1 c], rfl⟩
  · rw [if_neg c]
    refine zBrT (by simp only [rI]; omega) (by omega) ?_
    exact ⟨rfl, rfl⟩
set_option maxHeartbeats 1000000 in
set_option maxRecDepth 100000 in
theorem ydg {c : Int} (hr : -128 ≤ c ∧ c ≤ 255) {h : zH} : zEv X 1 mX10_isDigit [zI c] (h) (zIs (.inl (some (zI (if isDg c = true then 1 else 0)))) h) := by
  refine zEv_run gX10_isDigit 40 [] rfl ?_
  by_cases a : c < 48
  · refine zBrT (by simp only [rI]; omega) a ?_
    exact mVc_i (Or.inl rfl) ⟨by rw [if_neg (by simp only [isDg, decide_eq_true_eq]; omega)], rfl⟩
  · refine zBrF (by simp only [rI]; omega) a ?_
    by_cases b : 57 < c
    · refine zBrT (by simp only [rI]; omega) b ?_
      exact mVc_i (Or.inl rfl) ⟨by rw [if_neg (by simp only [isDg, decide_eq_true_eq]; omega)], rfl⟩
    · refine zBrF (by simp only [rI]; omega) b ?_
      exact mVc_i (Or.inr rfl) ⟨by rw [if_pos (by simp only [isDg, decide_eq_true_eq]; omega)], rfl⟩
set_option maxHeartbeats 1000000 in
set_option maxRecDepth 100000 in
theorem ylt {c : Int} (hr : -128 ≤ c ∧ c ≤ 255) {h : zH} : zEv X 1 mX10_isLetter [zI c] (h) (zIs (.inl (some (zI (if isLt c = true then 1 else 0)))) h) := by
  refine zEv_run gX10_isLetter 40 [] rfl ?_
  by_cases a : c < 97
  · refine zBrT (by simp only [rI]; omega) a ?_
    exact mVc_i (Or.inl rfl) ⟨by rw [if_neg (by simp only [isLt, decide_eq_true_eq]; omega)], rfl⟩
  · refine zBrF (by simp only [rI]; omega) a ?_
    by_cases b : 122 < c
    · refine zBrT (by simp only [rI]; omega) b ?_
      exact mVc_i (Or.inl rfl) ⟨by rw [if_neg (by simp only [isLt, decide_eq_true_eq]; omega)], rfl⟩
    · refine zBrF (by simp only [rI]; omega) b ?_
      exact mVc_i (Or.inr rfl) ⟨by rw [if_pos (by simp only [isLt, decide_eq_true_eq]; omega)], rfl⟩
set_option maxHeartbeats 1000000 in
set_option maxRecDepth 100000 in
theorem yrd (hB : ∀ a, 0 ≤ B a ∧ B a ≤ 255) (hc : kT K B n) {a : Int} (ea : K.1 3 = a) (h0 : 0 ≤ a ∧ a ≤ n) : zEv X 2 mX10_reads [zR 29] (cX S ++ (cM (K) ++ t)) (fun o9 h9 => o9 = .inl none ∧ ∃ R : kK, h9 = cX S ++ (cM R ++ t) ∧ kS K R ∧ kQ R (tok B n a)) := by
  have e2 := hc.1
  have hn := hc.2.1
  have cut : ∀ (s : Int), a ≤ s ∧ s ≤ n → sc isBl B (n - a).toNat a = s → zWP X mX10_reads 2 (fun o9 h9 => o9 = .inl none ∧ ∃ R : kK, h9 = cX S ++ (cM R ++ t) ∧ kS K R ∧ kQ R (tok B n a)) 52 [some (zR 29), none] [] (cX S ++ (cM (kI K 3 s) ++ t)) 0 0 := by
    intro s hs he
    have hb := hB s
    have k2 : kS K (kI (kI K 3 s) 4 s) := kS_t (kS_I K _ (by omega)) (kS_I _ _ (by omega))
    have et : tok B n a = tk1 B n s := by unfold tok; rw [he]
    rw [et]
    have hw := wk_b B s (sc isLt B (n - s).toNat s)
    have wkm : tkm (wk B s (sc isLt B (n - s).toNat s)) = 1 := by
      unfold tkm
      rw [if_neg (by omega), if_neg (by omega), if_neg (by omega), if_neg (by omega)]
    have wl : ∀ (k : Nat) (b : Int), s ≤ b → b + k = n → sc isLt B (n - s).toNat s = sc isLt B k b → zWP X mX10_reads 2 (fun o9 h9 => o9 = .inl none ∧ ∃ R : kK, h9 = cX S ++ (cM R ++ t) ∧ kS K R ∧ kQ R (sc isLt B (n - s).toNat s, s, wk B s (sc isLt B (n - s).toNat s), 0)) 94 [some (zR 29), some (zI (B s))] [] (cX S ++ (cM (kI (kI (kI K 3 s) 4 s) 3 b) ++ t)) 0 0 := by
      intro k
      induction k with
      | zero =>
        intro b hb0 hk hs2
        have hc2 : kT (kI (kI (kI K 3 s) 4 s) 3 b) B n := kT_S (kS_t k2 (kS_I _ _ (by omega))) hc
        refine zWP_run gX10_reads 100 [94] ?_
        refine zCl_e (ysee (K := kI (kI (kI K 3 s) 4 s) 3 b) hc2 (p := b) (by omega)) (by decide) ?_
        rw [if_neg (by omega)]
        refine zCl_e (ylt (by omega)) (by decide) ?_
        refine zBb (P := isLt 0 = true) (fun q => ?_) (fun q => absurd q (by decide))
        exact ⟨rfl, kI (kI (kI (kI K 3 s) 4 s) 3 b) 5 1, rfl, kS_t (kS_t k2 (kS_I _ _ (by omega))) (kS_I _ _ (by omega)), fun _ => hs2.symm, rfl, wkm.symm, fun q => by have : wk B s (sc isLt B (n - s).toNat s) = 2 := q; omega⟩
      | succ k ih =>
        intro b hb0 hk hs2
        have hbb := hB b
        have hc2 : kT (kI (kI (kI K 3 s) 4 s) 3 b) B n := kT_S (kS_t k2 (kS_I _ _ (by omega))) hc
        refine zWP_run gX10_reads 100 [94] ?_
        refine zCl_e (ysee (K := kI (kI (kI K 3 s) 4 s) 3 b) hc2 (p := b) (by omega)) (by decide) ?_
        rw [if_pos (by omega)]
        refine zCl_e (ylt (by omega)) (by decide) ?_
        simp only [sc] at hs2
        refine zBb (P := isLt (B b) = true) (fun q => ?_) (fun q => ?_)
        · rw [if_neg q] at hs2
          exact ⟨rfl, kI (kI (kI (kI K 3 s) 4 s) 3 b) 5 1, rfl, kS_t (kS_t k2 (kS_I _ _ (by omega))) (kS_I _ _ (by omega)), fun _ => hs2.symm, rfl, wkm.symm, fun q => by have : wk B s (sc isLt B (n - s).toNat s) = 2 := q; omega⟩
        · rw [if_pos q] at hs2
          exact ih (b + 1) (by omega) (by omega) hs2
    have dl : ∀ (k : Nat) (b v : Int), s ≤ b → b + k = n → sc isDg B (n - s).toNat s = sc isDg B k b → nv B s (n - s).toNat s 0 = nv B s k b v → zWP X mX10_reads 2 (fun o9 h9 => o9 = .inl none ∧ ∃ R : kK, h9 = cX S ++ (cM R ++ t) ∧ kS K R ∧ kQ R (sc isDg B (n - s).toNat s, s, (if sc isDg B (n - s).toNat s - s ≤ 3 then 2 else 8), nv B s (n - s).toNat s 0)) 141 [some (zR 29), some (zI (B s))] [] (cX S ++ (cM (kI (kI (kI (kI K 3 s) 4 s) 3 b) 6 v) ++ t)) 0 0 := by
      have fin : ∀ (b v : Int), s ≤ b → b ≤ n → sc isDg B (n - s).toNat s = b → nv B s (n - s).toNat s 0 = v → zWP X mX10_reads 2 (fun o9 h9 => o9 = .inl none ∧ ∃ R : kK, h9 = cX S ++ (cM R ++ t) ∧ kS K R ∧ kQ R (sc isDg B (n - s).toNat s, s, (if sc isDg B (n - s).toNat s - s ≤ 3 then 2 else 8), nv B s (n - s).toNat s 0)) 212 [some (zR 29), some (zI (B s))] [] (cX S ++ (cM (kI (kI (kI (kI K 3 s) 4 s) 3 b) 6 v) ++ t)) 0 0 := by
        intro b v hb0 hb1 hs2 hv
        have k3 : kS K (kI (kI (kI (kI K 3 s) 4 s) 3 b) 6 v) := kS_t (kS_t k2 (kS_I _ _ (by omega))) (kS_I _ _ (by omega))
        refine zWP_run gX10_reads 100 [] ?_
        refine zBr (by show rI (b - s) ∧ rI 3; simp only [rI]; omega) (fun q => ?_) (fun q => ?_)
        · have q2 : b - s ≤ 3 := q
          refine ⟨rfl, kI (kI (kI (kI (kI K 3 s) 4 s) 3 b) 6 v) 5 2, rfl, kS_t k3 (kS_I _ _ (by omega)), fun _ => hs2.symm, rfl, ?_, fun _ => hv.symm⟩
          show 2 = tkm (if sc isDg B (n - s).toNat s - s ≤ 3 then 2 else 8)
          rw [hs2, if_pos q2]
          rfl
        · have q2 : ¬ b - s ≤ 3 := q
          refine ⟨rfl, kI (kI (kI (kI (kI K 3 s) 4 s) 3 b) 6 v) 5 4, rfl, kS_t k3 (kS_I _ _ (by omega)), fun _ => hs2.symm, rfl, ?_, fun _ => hv.symm⟩
          show 4 = tkm (if sc isDg B (n - s).toNat s - s ≤ 3 then 2 else 8)
          rw [hs2, if_neg q2]
          rfl
      intro k
      induction k with
      | zero =>
        intro b v hb0 hk hs2 hv
        have hc2 : kT (kI (kI (kI (kI K 3 s) 4 s) 3 b) 6 v) B n := kT_S (kS_t (kS_t k2 (kS_I _ _ (by omega))) (kS_I _ _ (by omega))) hc
        refine zWP_run gX10_reads 100 [141, 212] ?_
        refine zCl_e (ysee (K := kI (kI (kI (kI K 3 s) 4 s) 3 b) 6 v) hc2 (p := b) (by omega)) (by decide) ?_
        rw [if_neg (by omega)]
        refine zCl_e (ydg (by omega)) (by decide) ?_
        refine zBb (P := isDg 0 = true) (fun q => ?_) (fun q => absurd q (by decide))
        exact fin b v hb0 (by omega) hs2 hv
      | succ k ih =>
        intro b v hb0 hk hs2 hv
        have hbb := hB b
        have hc2 : kT (kI (kI (kI (kI K 3 s) 4 s) 3 b) 6 v) B n := kT_S (kS_t (kS_t k2 (kS_I _ _ (by omega))) (kS_I _ _ (by omega))) hc
        refine zWP_run gX10_reads 100 [141, 212] ?_
        refine zCl_e (ysee (K := kI (kI (kI (kI K 3 s) 4 s) 3 b) 6 v) hc2 (p := b) (by omega)) (by decide) ?_
        rw [if_pos (by omega)]
        refine zCl_e (ydg (by omega)) (by decide) ?_
        simp only [sc] at hs2
        simp only [nv] at hv
        refine zBb (P := isDg (B b) = true) (fun q => ?_) (fun q => ?_)
        · rw [if_neg q] at hs2 hv
          exact fin b v hb0 (by omega) hs2 hv
        · rw [if_pos q] at hs2 hv
          have eb : K.2 5 b.toNat = B b := hc.2.2 b (by omega) (by omega)
          by_cases c3 : b - s < 3
          · rw [if_pos c3] at hv
            refine zBrF (by show rI (b - s) ∧ rI 3; simp only [rI]; omega) (by show ¬ 3 ≤ b - s; omega) ?_
            refine mVc_i (by show 0 ≤ b ∧ b < 600; omega) ?_
            have k9 := ih (b + 1) (v * 10 + B b - 48) (by omega) (by omega) hs2 hv
            rw [show v * 10 + B b - 48 = 10 * v + K.2 5 b.toNat - 48 by omega] at k9
            exact k9
          · rw [if_neg c3] at hv
            refine zBrT (by show rI (b - s) ∧ rI 3; simp only [rI]; omega) (by show 3 ≤ b - s; omega) ?_
            exact ih (b + 1) v (by omega) (by omega) hs2 hv
    unfold tk1
    refine zWP_run gX10_reads 100 [87] ?_
    by_cases c0 : n ≤ s
    · rw [if_pos c0]
      refine zBrF (by show rI s ∧ rI (K.1 2); rw [e2]; simp only [rI]; omega) (by show ¬ s < K.1 2; omega) ?_
      exact ⟨rfl, kI (kI (kI K 3 s) 4 s) 5 0, rfl, kS_t k2 (kS_I _ _ (by omega)), fun _ => rfl, rfl, rfl, fun q => by simp only at q; omega⟩
    · rw [if_neg c0]
      refine zBrT (by show rI s ∧ rI (K.1 2); rw [e2]; simp only [rI]; omega) (by show s < K.1 2; omega) ?_
      refine mVc_i (by show 0 ≤ s ∧ s < 600; omega) ?_
      have eb : K.2 5 s.toNat = B s := hc.2.2 s (by omega) (by omega)
      have ylt2 := ylt (X := X) (c := B s) (by omega) (h := cX S ++ (cM (kI (kI K 3 s) 4 s) ++ t))
      have ydg2 := ydg (X := X) (c := B s) (by omega) (h := cX S ++ (cM (kI (kI K 3 s) 4 s) ++ t))
      show zWP X mX10_reads 2 _ 87 [some (zR 29), some (zI (K.2 5 s.toNat))] [] (cX S ++ (cM (kI (kI K 3 s) 4 s) ++ t)) 0 0
      rw [eb]
      refine zWP_run gX10_reads 100 [94, 141] ?_
      refine zCl_e ylt2 (by decide) ?_
      refine zBb (P := isLt (B s) = true) (fun c3 => ?_) (fun c3 => ?_)
      rotate_left
      · have c3b := c3
        simp only [isLt, decide_eq_true_eq] at c3b
        rw [if_neg (by omega), if_neg (by simp only [isDg, decide_eq_true_eq]; omega), if_pos c3]
        have k9 := wl (n - s).toNat s (by omega) (by omega) rfl
        have e9 : kI (kI (kI K 3 s) 4 s) 3 s = kI (kI K 3 s) 4 s := kI_same (kI (kI K 3 s) 4 s) 3
        rw [e9] at k9
        exact k9
      · refine zCl_e ydg2 (by decide) ?_
        refine zBb (P := isDg (B s) = true) (fun c2 => ?_) (fun c2 => ?_)
        rotate_left
        · have c2b := c2
          simp only [isDg, decide_eq_true_eq] at c2b
          rw [if_neg (by omega), if_pos c2]
          have k9 := dl (n - s).toNat s 0 (by omega) (by omega) rfl rfl
          have e9 : kI (kI (kI K 3 s) 4 s) 3 s = kI (kI K 3 s) 4 s := kI_same (kI (kI K 3 s) 4 s) 3
          rw [e9] at k9
          exact k9
        · rw [if_neg c2]
          by_cases c1 : B s = 59
          · rw [if_pos c1]
            refine zBrT (by show rI (B s) ∧ rI 59; simp only [rI]; omega) c1 ?_
            exact ⟨rfl, kI (kI (kI (kI K 3 s) 4 s) 5 3) 3 (s + 1), rfl, kS_t (kS_t k2 (kS_I _ _ (by omega))) (kS_I _ _ (by omega)), fun _ => rfl, rfl, rfl, fun q => by simp only at q; omega⟩
          · rw [if_neg c1, if_neg c3]
            refine zBrF (by show rI (B s) ∧ rI 59; simp only [rI]; omega) c1 ?_
            exact ⟨rfl, kI (kI (kI (kI K 3 s) 4 s) 5 4) 3 (s + 1), rfl, kS_t (kS_t k2 (kS_I _ _ (by omega))) (kS_I _ _ (by omega)), fun q => absurd rfl q, rfl, rfl, fun q => by simp only at q; omega⟩
  have lp : ∀ (k : Nat) (b : Int), a ≤ b → b + k = n → sc isBl B (n - a).toNat a = sc isBl B k b → zWP X mX10_reads 2 (fun o9 h9 => o9 = .inl none ∧ ∃ R : kK, h9 = cX S ++ (cM R ++ t) ∧ kS K R ∧ kQ R (tok B n a)) 0 [some (zR 29), none] [] (cX S ++ (cM (kI K 3 b) ++ t)) 0 0 := by
    intro k
    induction k with
    | zero =>
      intro b hb hk hs
      refine zWP_run gX10_reads 60 [0, 52] ?_
      refine zBrT (by show rI b ∧ rI (K.1 2); rw [e2]; simp only [rI]; omega) (by show K.1 2 ≤ b; omega) ?_
      exact cut b (by omega) hs
    | succ k ih =>
      intro b hb hk hs
      have hbb := hB b
      have eb : K.2 5 b.toNat = B b := hc.2.2 b (by omega) (by omega)
      refine zWP_run gX10_reads 60 [0, 52] ?_
      refine zBrF (by show rI b ∧ rI (K.1 2); rw [e2]; simp only [rI]; omega) (by show ¬ K.1 2 ≤ b; omega) ?_
      refine mVc_i (by show 0 ≤ b ∧ b < 600; omega) ?_
      simp only [sc] at hs
      by_cases q : B b = 32
      · rw [if_pos (by simp only [isBl, decide_eq_true_eq]; omega)] at hs
        refine zBrT (by show rI (K.2 5 b.toNat) ∧ rI 32; rw [eb]; simp only [rI]; omega) (by show K.2 5 b.toNat = 32; omega) ?_
        exact ih (b + 1) (by omega) (by omega) hs
      · refine zBrF (by show rI (K.2 5 b.toNat) ∧ rI 32; rw [eb]; simp only [rI]; omega) (by show ¬ K.2 5 b.toNat = 32; omega) ?_
        refine mVc_i (by show 0 ≤ b ∧ b < 600; omega) ?_
        by_cases q2 : B b = 10
        · rw [if_pos (by simp only [isBl, decide_eq_true_eq]; omega)] at hs
          refine zBrT (by show rI (K.2 5 b.toNat) ∧ rI 10; rw [eb]; simp only [rI]; omega) (by show K.2 5 b.toNat = 10; omega) ?_
          exact ih (b + 1) (by omega) (by omega) hs
        · rw [if_neg (by simp only [isBl, decide_eq_true_eq]; omega)] at hs
          refine zBrF (by show rI (K.2 5 b.toNat) ∧ rI 10; rw [eb]; simp only [rI]; omega) (by show ¬ K.2 5 b.toNat = 10; omega) ?_
          exact cut b (by omega) hs
  have k9 := lp (n - a).toNat a (by omega) (by omega) rfl
  have e9 : kI K 3 a = K := by rw [← ea]; exact kI_same K 3
  rw [e9] at k9
  exact zEv_0 gX10_reads rfl k9
end Kt
