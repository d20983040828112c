/-! the class reads a table -/
/-- a weaker end -/
theorem mEv_w {X : mX} {M : mM} {d : Nat} {Q Q2 : mO → mH → Prop} {h : mH} {as : List Value} (hE : mEv X d M as h Q) (k : ∀ o h1, Q o h1 → Q2 o h1) : mEv X d M as h Q2 := by
  intro a0 p e h1 h2 h3 s m args below h4 h5 h6 h7
  obtain ⟨n, o, g1, g2, g3, g4⟩ := hE a0 p e h1 h2 h3 s m args below h4 h5 h6 h7
  refine ⟨n, o, g1, g2, g3, ?_⟩
  rcases g4 with g4 | ⟨q, w, E, ce, Lx, ⟨n1, ad1, hh, e1, hq, r1⟩, r2⟩
  · obtain ⟨⟨r, ad, h9, a1, a2, a3⟩, g5⟩ := g4
    exact Or.inl ⟨⟨r, ad, h9, a1, k _ _ a2, a3⟩, g5⟩
  · exact Or.inr ⟨q, w, E, ce, Lx, ⟨n1, ad1, hh, e1, k _ _ hq, r1⟩, r2⟩
theorem zEv_w {X : mX} {M : mM} {d : Nat} {Q Q2 : zO → zH → Prop} {h : zH} {as : List zV} (hE : zEv X d M as h Q) (k : ∀ o h1, Q o h1 → Q2 o h1) : zEv X d M as h Q2 := mEv_w hE (fun o h1 q => by
  obtain ⟨o2, h2, e1, e2, q2⟩ := q
  exact ⟨o2, h2, e1, e2, k _ _ q2⟩)
/-- a method from its first instruction -/
theorem zEv_0 {X : mX} {M : mM} {d : Nat} {Q : zO → zH → Prop} {h : zH} {as : List zV} {tb : mTb} (g : mGood M tb) (hlen : Nat.ble (zEnt as).length M.2.2.1 = true) (k : zWP X M d Q 0 (zPad M.2.2.1 (zEnt as)) [] h M.2.2.2.2.2.2.1 M.2.2.2.2.2.2.2) : zEv X d M as h Q := zEv_run g 0 [] hlen k
theorem zWfV_s (h : zH) (i : Nat) : zWfV h (zR (mSB + i)) = true := by
  show (Nat.ble mSB (mSB + i) || (h[mSB + i]?).isSome) = true
  rw [Nat.ble_eq.mpr (Nat.le_add_right _ _), Bool.true_or]
/-- a call whose locals hold a text -/
theorem zInv_i {X : mX} {M : mM} {d : Nat} {Q : zO → zH → Prop} {tb : mTb} {K : zK} {pc nx : Nat} {L : List (Option zV)} {h : zH} {bc bs kd : Nat} {M2 : mM} {as rest : List zV} (hwf : zWfS h L rest = true) (h1 : Nat.ble (zCs rest) 8 = true) (h2 : Nat.ble M2.2.2.2.2.2.2.1 bc = true) (h3 : Nat.ble M2.2.2.2.2.2.2.2 bs = true) (k : zCl X d M2 as h (fun o h1 => match o with
      | .inl (some v) => K nx L (v :: rest) h1 (bc - M2.2.2.2.2.2.2.1) (bs - M2.2.2.2.2.2.2.2)
      | .inl none => K nx L rest h1 (bc - M2.2.2.2.2.2.2.1) (bs - M2.2.2.2.2.2.2.2)
      | .inr E => zXc M Q tb pc kd E h1)) : zInv X M d Q tb K pc nx L h bc bs kd M2 as rest := by
  unfold zInv
  rw [hwf, h1, h2, h3]
  exact k
theorem zWfS_n {h : zH} {v : zV} {L : List (Option zV)} {st : List zV} (h1 : zWfV h v = true) (h2 : zWfS h L st = true) : zWfS h (some v :: L) st = true := by
  unfold zWfS at *
  rw [List.all_cons]
  show (zWfV h v && _ && _) = true
  rw [h1]
  exact h2
theorem sI_same (S : sS) (i : Nat) : sI S i (S.1 i) = S := by
  show (va_up S.1 i (S.1 i), S.2) = S
  have : va_up S.1 i (S.1 i) = S.1 := by
    funext j
    simp only [va_up]
    split
    · rename_i c; rw [c]
    · rfl
  rw [this]
/-- the text that the class reads, its length set -/
def cT (S : sS) (B : Int → Int) (n : Int) : Prop := (n ≤ S.1 0 ∧ S.1 0 ≤ 600) ∧ 0 ≤ n ∧ (∀ a : Int, 0 ≤ a → a < n → S.2.1 0 a.toNat = B a) ∧ S.1 7 = n
/-- only the place, the start, the token and its number change -/
def sK (S R : sS) : Prop := (∀ i, (i < 8 ∨ 11 < i) → R.1 i = S.1 i) ∧ R.2 = S.2
theorem sK_r (S : sS) : sK S S := ⟨fun _ _ => rfl, rfl⟩
theorem sK_t {S R Q : sS} (h : sK S R) (k : sK R Q) : sK S Q := ⟨fun i hi => by rw [k.1 i hi, h.1 i hi], by rw [k.2, h.2]⟩
theorem sK_I (S : sS) {r : Nat} (z : Int) (h : 8 ≤ r ∧ r ≤ 11) : sK S (sI S r z) := ⟨fun i hi => va_up_o _ _ (by omega), rfl⟩
theorem cT_K {S R : sS} {B : Int → Int} {n : Int} (h : sK S R) (k : cT S B n) : cT R B n := by
  unfold cT
  rw [h.1 0 (by omega), h.1 7 (by omega), h.2]
  exact k
/-- only what the text holds changes -/
def sP (S R : sS) : Prop := (∀ i, (i = 0 ∨ 11 < i) → R.1 i = S.1 i) ∧ (∀ r, r ≠ 1 → R.2.1 r = S.2.1 r) ∧ R.2.2 = S.2.2
theorem sP_r (S : sS) : sP S S := ⟨fun _ _ => rfl, fun _ _ => rfl, rfl⟩
theorem sP_t {S R Q : sS} (h : sP S R) (k : sP R Q) : sP S Q := ⟨fun i hi => by rw [k.1 i hi, h.1 i hi], fun i hi => by rw [k.2.1 i hi, h.2.1 i hi], by rw [k.2.2, h.2.2]⟩
theorem sP_K {S R : sS} (h : sK S R) : sP S R := ⟨fun i hi => h.1 i (by omega), fun r _ => by rw [h.2], by rw [h.2]⟩
theorem sP_I (S : sS) {r : Nat} (z : Int) (h : 1 ≤ r ∧ r ≤ 11) : sP S (sI S r z) := ⟨fun i hi => va_up_o _ _ (by omega), fun _ _ => rfl, rfl⟩
theorem sP_A (S : sS) (f : Nat → Int) : sP S (sA S 1 f) := ⟨fun _ _ => rfl, fun r hr => va_up_o _ _ hr, rfl⟩
def cFr (S : sS) (fr : pF) : Prop := S.1 1 = fr.1 0 ∧ S.1 2 = fr.1 1 ∧ S.1 3 = fr.1 2 ∧ S.1 4 = fr.1 3 ∧ S.1 5 = 0 ∧ S.1 6 = -1 ∧ vRow (S.2.1 1) 0 4 fr.2
def cQ (S : sS) (q : pT) : Prop := S.1 8 = q.1 ∧ S.1 9 = q.2.1 ∧ S.1 10 = q.2.2.1 ∧ (q.2.2.1 = 2 → S.1 11 = q.2.2.2)
theorem cFr_K {S R : sS} {fr : pF} (h : sK S R) (k : cFr S fr) : cFr R fr := by
  unfold cFr
  rw [h.1 1 (by omega), h.1 2 (by omega), h.1 3 (by omega), h.1 4 (by omega), h.1 5 (by omega), h.1 6 (by omega), h.2]
  exact k
def fkS (c : Nat → Int) : sS := (fun i => if i = 14 then 4 else if i = 15 then 1 else 0, fun _ => c, fun _ => none)
def fkV (s : vS) : vV := (fun i => if i = 2 then 4 else if i = 3 then 1 else 0, s, fun _ => 0, fun _ => 0, fun _ => 0, fun _ => s)
theorem fk_ok {c : Nat → Int} {s : vS} (hs : vSb s) (h : vRow c 0 4 s) : vX (fkS c) (fkV s) := by
  refine ⟨⟨⟨by show (0 : Int) ≤ 0; omega, by show (0 : Int) ≤ 600; omega⟩, ⟨by show (0 : Int) ≤ 0; omega, by show (0 : Int) ≤ 5; omega⟩, ⟨by show (0 : Int) ≤ 4; omega, by show (4 : Int) ≤ 4; omega⟩, ⟨by show (1 : Int) ≤ 1; omega, by show (1 : Int) ≤ 6; omega⟩, ⟨by show (0 : Int) ≤ 0; omega, by show (0 : Int) ≤ 60; omega⟩, hs, fun k k0 k1 => ?_⟩, rfl, rfl, rfl, rfl, rfl, h, fun k k0 k1 => ?_⟩
  · have : k < 0 := k1
    omega
  · have : k < 0 := k1
    omega
theorem vRow_w {c : Nat → Int} {s : vS} (hs : vSb s) (h : vRow c 0 4 s) {d f z : Int} (h0 : 0 ≤ d) (h1 : d < 5) (h2 : 1 ≤ f) (h3 : f ≤ 6) (hz : 0 ≤ z ∧ z ≤ 20) : vRow (va_up c (d * 6 + f - 1).toNat z) 0 4 (sWt s d f z) := (vX_w (fk_ok hs h) h0 h1 h2 h3 hz).2.2.2.2.2.2.1
theorem vRow_s {c : Nat → Int} {s : vS} (hs : vSb s) (h : vRow c 0 4 s) {d : Int} (h0 : 0 ≤ d) (h1 : d < 5) : vRow (va_up c 30 (Int32.ofInt (c 30) ||| Int32.ofInt (2 ^ d.toNat)).toInt) 0 4 (sSl s d 1) := (vX_s (fk_ok hs h) h0 h1).2.2.2.2.2.2.1
theorem vRow_h {c : Nat → Int} {s : vS} (hs : vSb s) (h : vRow c 0 4 s) {k z : Int} (h0 : 0 ≤ k) (h1 : k < 4) (hz : 0 ≤ z ∧ z ≤ 9) : vRow (va_up c (31 + k).toNat z) 0 4 (sHt s k z) := (vX_h (fk_ok hs h) h0 h1 hz).2.2.2.2.2.2.1
section Txt
variable {X : mX} {S : sS} {t : zH} {B : Int → Int} {n : Int}
set_option maxHeartbeats 1000000 in
set_option maxRecDepth 100000 in
theorem xby (hc : cT S B n) {p : Int} (h0 : 0 ≤ p ∧ p ≤ 600) : zEv X 1 mX6_byteAt [zR 1, zI p] (cX S ++ t) (zIs (.inl (some (zI (if p < S.1 0 then S.2.1 0 p.toNat else 0)))) (cX S ++ t)) := by
  have hl := hc.1
  have h2 := hc.2.1
  refine zEv_run gX6_byteAt 60 [] rfl ?_
  refine zBrF (by first | (simp only [rI]; omega) | (simp only [rL]; omega)) (by omega) ?_
  by_cases c : p < S.1 0
  · rw [if_pos c]
    refine zBrF (by first | (simp only [rI]; omega) | (simp only [rL]; omega)) (by omega) ?_
    refine mVc_i (by omega) ?_
    exact ⟨rfl, rfl⟩
  · rw [if_neg c]
    refine zBrT (by first | (simp only [rI]; omega) | (simp only [rL]; omega)) (by omega) ?_
    exact ⟨rfl, rfl⟩
set_option maxHeartbeats 1000000 in
set_option maxRecDepth 100000 in
theorem xbn (hc : cT S B n) {p : Int} (h0 : 0 ≤ p ∧ p < n) : zEv X 1 mX6_byteAt [zR 1, zI p] (cX S ++ t) (zIs (.inl (some (zI (B p)))) (cX S ++ t)) := by
  have hl := hc.1
  have k := xby (X := X) (t := t) hc (p := p) (by omega)
  rw [if_pos (by omega), hc.2.2.1 p h0.1 h0.2] at k
  exact k
set_option maxHeartbeats 1000000 in
set_option maxRecDepth 100000 in
theorem xbl {c : Int} (hr : -128 ≤ c ∧ c ≤ 255) {h : zH} : zEv X 1 mX5_isBlank [zI c] (h) (zIs (.inl (some (zI (if isBl c = true then 1 else 0)))) h) := by
  refine zEv_run gX5_isBlank 40 [] rfl ?_
  by_cases a : c = 10
  · refine zBrT (by simp only [rI]; omega) a ?_
    exact mVc_i (Or.inr rfl) ⟨by rw [if_pos (by simp only [isBl, decide_eq_true_eq]; omega)], rfl⟩
  · refine zBrF (by simp only [rI]; omega) a ?_
    by_cases b : c = 32
    · refine zBrT (by simp only [rI]; omega) b ?_
      exact mVc_i (Or.inr rfl) ⟨by rw [if_pos (by simp only [isBl, decide_eq_true_eq]; omega)], rfl⟩
    · refine zBrF (by simp only [rI]; omega) b ?_
      exact mVc_i (Or.inl rfl) ⟨by rw [if_neg (by simp only [isBl, decide_eq_true_eq]; omega)], rfl⟩
set_option maxHeartbeats 1000000 in
set_option maxRecDepth 100000 in
theorem xdg {c : Int} (hr : -128 ≤ c ∧ c ≤ 255) {h : zH} : zEv X 1 mX5_isDigit [zI c] (h) (zIs (.inl (some (zI (if isDg c = true then 1 else 0)))) h) := by
  refine zEv_run gX5_isDigit 40 [] rfl ?_
  by_cases a : c < 48
  · refine zBrT (by simp only [rI]; omega) a ?_
    exact mVc_i (Or.inl rfl) ⟨by rw [if_neg (by simp only [isDg, decide_eq_true_eq]; omega)], rfl⟩
  · refine zBrF (by simp only [rI]; omega) a ?_
    by_cases b : 57 < c
    · refine zBrT (by simp only [rI]; omega) b ?_
      exact mVc_i (Or.inl rfl) ⟨by rw [if_neg (by simp only [isDg, decide_eq_true_eq]; omega)], rfl⟩
    · refine zBrF (by simp only [rI]; omega) b ?_
      exact mVc_i (Or.inr rfl) ⟨by rw [if_pos (by simp only [isDg, decide_eq_true_eq]; omega)], rfl⟩
set_option maxHeartbeats 1000000 in
set_option maxRecDepth 100000 in
theorem xlt {c : Int} (hr : -128 ≤ c ∧ c ≤ 255) {h : zH} : zEv X 1 mX5_isLetter [zI c] (h) (zIs (.inl (some (zI (if isLt c = true then 1 else 0)))) h) := by
  refine zEv_run gX5_isLetter 40 [] rfl ?_
  by_cases a : c < 97
  · refine zBrT (by simp only [rI]; omega) a ?_
    exact mVc_i (Or.inl rfl) ⟨by rw [if_neg (by simp only [isLt, decide_eq_true_eq]; omega)], rfl⟩
  · refine zBrF (by simp only [rI]; omega) a ?_
    by_cases b : 122 < c
    · refine zBrT (by simp only [rI]; omega) b ?_
      exact mVc_i (Or.inl rfl) ⟨by rw [if_neg (by simp only [isLt, decide_eq_true_eq]; omega)], rfl⟩
    · refine zBrF (by simp only [rI]; omega) b ?_
      exact mVc_i (Or.inr rfl) ⟨by rw [if_pos (by simp only [isLt, decide_eq_true_eq]; omega)], rfl⟩
set_option maxHeartbeats 1000000 in
set_option maxRecDepth 100000 in
theorem xiw (hB : ∀ a, -128 ≤ B a ∧ B a ≤ 127) (hc : cT S B n) {s e : Int} {i : Nat} (hi : i < 4) (es : S.1 9 = s) (ee : S.1 8 = e) (h0 : 0 ≤ s ∧ s ≤ e ∧ e ≤ n) : zEv X 6 mX5_isWord [zR 3, zR (mSB + i)] (cX S ++ t) (zIs (.inl (some (zI (wm B s e i)))) (cX S ++ t)) := by
  have hl := mTl_ok i hi
  have hz : zTl i = mTl i := rfl
  have hn6 := hc.1
  have lp : ∀ (k : Nat) (j : Int), 0 ≤ j → j + k = zTl i → e - s = zTl i → zWP X mX5_isWord 6 (zIs (.inl (some (zI (wmL B s i k j)))) (cX S ++ t)) 20 [some (zR 3), some (zR (mSB + i)), some (zI j)] [] (cX S ++ t) 0 0 := by
    intro k
    induction k with
    | zero =>
      intro j j0 hk he
      refine zWP_run gX5_isWord 60 [22] ?_
      refine zWP_len (idx := 113) hi rfl (by decide +kernel) (by decide +kernel) (Nat.le_of_ble_eq_true rfl) (zWfS_n rfl (zWfS_n (zWfV_s _ _) rfl)) (by decide) ?_
      refine zWP_run gX5_isWord 60 [] ?_
      refine zBrT (by first | (simp only [rI]; omega) | (simp only [rL]; omega)) (by omega) ?_
      exact mVc_i (Or.inr rfl) ⟨rfl, rfl⟩
    | succ k ih =>
      intro j j0 hk he
      have hb := hB (s + j)
      have hch : 0 ≤ zTc i j ∧ zTc i j ≤ 127 := by
        have : ∀ i, i < 4 → ∀ j, j < 4 → 0 ≤ (mTc i j).toInt ∧ (mTc i j).toInt ≤ 127 := by decide +kernel
        exact this i hi j.toNat (by omega)
      refine zWP_run gX5_isWord 60 [22] ?_
      refine zWP_len (idx := 113) hi rfl (by decide +kernel) (by decide +kernel) (Nat.le_of_ble_eq_true rfl) (zWfS_n rfl (zWfS_n (zWfV_s _ _) rfl)) (by decide) ?_
      refine zWP_run gX5_isWord 60 [38] ?_
      refine zBrF (by first | (simp only [rI]; omega) | (simp only [rL]; omega)) (by omega) ?_
      refine zWP_run gX5_isWord 60 [43] ?_
      show zInv X mX5_isWord 6 (zIs (.inl (some (zI (wmL B s i (k + 1) j)))) (cX S ++ t)) tX5_isWord (fun pc L st h bc bs => bif [43].elem pc then zWP X mX5_isWord 6 (zIs (.inl (some (zI (wmL B s i (k + 1) j)))) (cX S ++ t)) pc L st h bc bs else zRun X mX5_isWord 6 (zIs (.inl (some (zI (wmL B s i (k + 1) j)))) (cX S ++ t)) tX5_isWord [43] 59 pc L st h bc bs) 38 41 [some (zR 3), some (zR (mSB + i)), some (zI j)] (cX S ++ t) 0 0 1 mX6_byteAt [zR 1, zI (S.1 9 + j)] []
      refine zInv_i (M2 := mX6_byteAt) ?_ ?_ ?_ ?_ ?_
      · exact (zWfS_n rfl (zWfS_n (zWfV_s _ _) rfl))
      · rfl
      · rfl
      · rfl
      have kb := xbn (X := X) (t := t) hc (p := s + j) (by omega)
      rw [← es] at kb
      refine zCl_e kb (by decide) ?_
      rw [es]
      refine zWP_ch (idx := 118) hi j0 (by omega) rfl (by decide +kernel) (by decide +kernel) (Nat.le_of_ble_eq_true rfl) (zWfS_n rfl (zWfS_n (zWfV_s _ _) rfl)) (by decide) ?_
      refine zWP_run gX5_isWord 60 [20] ?_
      simp only [wmL]
      refine zBr (by first | (simp only [rI]; omega) | (simp only [rL]; omega)) (fun q => ?_) (fun q => ?_)
      · rw [if_pos q]
        exact ih (j + 1) (by omega) (by omega) he
      · rw [if_neg q]
        exact mVc_i (Or.inl rfl) ⟨rfl, rfl⟩
  refine zEv_run gX5_isWord 60 [10] rfl ?_
  refine zWP_len (idx := 113) hi rfl (by decide +kernel) (by decide +kernel) (Nat.le_of_ble_eq_true rfl) (zWfS_n rfl (zWfS_n (zWfV_s _ _) rfl)) (by decide) ?_
  refine zWP_run gX5_isWord 60 [20] ?_
  rw [es, ee]
  unfold wm
  refine zBr (by first | (simp only [rI]; omega) | (simp only [rL]; omega)) (fun q => ?_) (fun q => ?_)
  · rw [if_pos q]
    exact lp (mTl i) 0 (by omega) (by omega) q
  · rw [if_neg q]
    exact mVc_i (Or.inl rfl) ⟨rfl, rfl⟩
set_option maxHeartbeats 1000000 in
set_option maxRecDepth 100000 in
theorem xnn (hB : ∀ a, -128 ≤ B a ∧ B a ≤ 127) (hc : cT S B n) {s : Int} (es : S.1 9 = s) (ee : S.1 8 = s) (h0 : 0 ≤ s ∧ s ≤ n) : zEv X 3 mX5_nextNumber [zR 3] (cX S ++ t) (fun o9 h9 => o9 = .inl none ∧ ∃ R : sS, h9 = cX R ++ t ∧ sK S R ∧ R.1 8 = sc isDg B (n - s).toNat s ∧ R.1 9 = s ∧ R.1 10 = (if sc isDg B (n - s).toNat s - s ≤ 3 then 2 else 8) ∧ R.1 11 = nv B s (n - s).toNat s 0) := by
  have hn6 := hc.1
  have e7 := hc.2.2.2
  have lp : ∀ (k : Nat) (a v : Int), s ≤ a → a + k = n → sc isDg B (n - s).toNat s = sc isDg B k a → nv B s (n - s).toNat s 0 = nv B s k a v → zWP X mX5_nextNumber 3 (fun o9 h9 => o9 = .inl none ∧ ∃ R : sS, h9 = cX R ++ t ∧ sK S R ∧ R.1 8 = sc isDg B (n - s).toNat s ∧ R.1 9 = s ∧ R.1 10 = (if sc isDg B (n - s).toNat s - s ≤ 3 then 2 else 8) ∧ R.1 11 = nv B s (n - s).toNat s 0) 5 [some (zR 3)] [] (cX (sI (sI S 8 a) 11 v) ++ t) 0 0 := by
    have fin : ∀ (k : Nat) (a v : Int), s ≤ a → a + k = n → sc isDg B (n - s).toNat s = a → nv B s (n - s).toNat s 0 = v → zWP X mX5_nextNumber 3 (fun o9 h9 => o9 = .inl none ∧ ∃ R : sS, h9 = cX R ++ t ∧ sK S R ∧ R.1 8 = sc isDg B (n - s).toNat s ∧ R.1 9 = s ∧ R.1 10 = (if sc isDg B (n - s).toNat s - s ≤ 3 then 2 else 8) ∧ R.1 11 = nv B s (n - s).toNat s 0) 85 [some (zR 3)] [] (cX (sI (sI S 8 a) 11 v) ++ t) 0 0 := by
      intro k a v ha hk hs hv
      refine zWP_run gX5_nextNumber 60 [] ?_
      refine zBr (by show rI (a - S.1 9) ∧ rI 3; rw [es]; simp only [rI]; omega) (fun q => ?_) (fun q => ?_)
      · have q2 : 3 < a - S.1 9 := q
        rw [es] at q2
        refine ⟨rfl, sI (sI (sI S 8 a) 11 v) 10 8, rfl, sK_t (sK_t (sK_I S _ (by omega)) (sK_I _ _ (by omega))) (sK_I _ _ (by omega)), hs.symm, es, ?_, hv.symm⟩
        rw [hs, if_neg (by omega)]
        rfl
      · have q2 : ¬ 3 < a - S.1 9 := q
        rw [es] at q2
        refine ⟨rfl, sI (sI (sI S 8 a) 11 v) 10 2, rfl, sK_t (sK_t (sK_I S _ (by omega)) (sK_I _ _ (by omega))) (sK_I _ _ (by omega)), hs.symm, es, ?_, hv.symm⟩
        rw [hs, if_pos (by omega)]
        rfl
    intro k
    induction k with
    | zero =>
      intro a v ha hk hs hv
      refine zWP_run gX5_nextNumber 60 [5, 85] ?_
      refine zBrT (by show rI a ∧ rI (S.1 7); rw [e7]; simp only [rI]; omega) (by show S.1 7 ≤ a; omega) ?_
      exact fin 0 a v ha hk hs hv
    | succ k ih =>
      intro a v ha hk hs hv
      have hb := hB a
      have hc2 : cT (sI (sI S 8 a) 11 v) B n := cT_K (sK_t (sK_I S _ (by omega)) (sK_I _ _ (by omega))) hc
      refine zWP_run gX5_nextNumber 100 [5, 85] ?_
      refine zBrF (by show rI a ∧ rI (S.1 7); rw [e7]; simp only [rI]; omega) (by show ¬ S.1 7 ≤ a; omega) ?_
      refine zCl_e (xbn (S := sI (sI S 8 a) 11 v) hc2 (p := a) (by omega)) (by decide) ?_
      refine zCl_e (xdg (by omega)) (by decide) ?_
      simp only [sc] at hs
      simp only [nv] at hv
      refine zBb (P := isDg (B a) = true) (fun q => ?_) (fun q => ?_)
      · rw [if_neg q] at hs hv
        exact fin (k + 1) a v ha (by omega) hs hv
      · rw [if_pos q] at hs hv
        by_cases c3 : a - s < 3
        · rw [if_pos c3] at hv
          refine zBrF (by show rI (a - S.1 9) ∧ rI 3; rw [es]; simp only [rI]; omega) (by show ¬ 3 ≤ a - S.1 9; rw [es]; omega) ?_
          refine zCl_e (xbn (S := sI (sI S 8 a) 11 v) hc2 (p := a) (by omega)) (by decide) ?_
          exact ih (a + 1) (v * 10 + B a - 48) (by omega) (by omega) hs hv
        · rw [if_neg c3] at hv
          refine zBrT (by show rI (a - S.1 9) ∧ rI 3; rw [es]; simp only [rI]; omega) (by show 3 ≤ a - S.1 9; rw [es]; omega) ?_
          exact ih (a + 1) v (by omega) (by omega) hs hv
  refine zEv_run gX5_nextNumber 60 [5] rfl ?_
  have k9 := lp (n - s).toNat s 0 (by omega) (by omega) rfl rfl
  have e9 : sI S 8 s = S := by rw [← ee]; exact sI_same S 8
  rw [e9] at k9
  exact k9
set_option maxHeartbeats 1000000 in
set_option maxRecDepth 100000 in
theorem xnw (hB : ∀ a, -128 ≤ B a ∧ B a ≤ 127) (hc : cT S B n) {s : Int} (es : S.1 9 = s) (ee : S.1 8 = s) (h0 : 0 ≤ s ∧ s ≤ n) : zEv X 7 mX5_nextWord [zR 3] (cX S ++ t) (fun o9 h9 => o9 = .inl none ∧ ∃ R : sS, h9 = cX R ++ t ∧ sK S R ∧ R.1 8 = sc isLt B (n - s).toNat s ∧ R.1 9 = s ∧ R.1 10 = wk B s (sc isLt B (n - s).toNat s)) := by
  have hn6 := hc.1
  have e7 := hc.2.2.2
  have lp : ∀ (k : Nat) (a : Int), s ≤ a → a + k = n → (sc isLt B (n - s).toNat s) = sc isLt B k a → zWP X mX5_nextWord 7 (fun o9 h9 => o9 = .inl none ∧ ∃ R : sS, h9 = cX R ++ t ∧ sK S R ∧ R.1 8 = sc isLt B (n - s).toNat s ∧ R.1 9 = s ∧ R.1 10 = wk B s (sc isLt B (n - s).toNat s)) 0 [some (zR 3)] [] (cX (sI S 8 a) ++ t) 0 0 := by
    have fin : ∀ (k : Nat) (a : Int), s ≤ a → a + k = n → (sc isLt B (n - s).toNat s) = a → zWP X mX5_nextWord 7 (fun o9 h9 => o9 = .inl none ∧ ∃ R : sS, h9 = cX R ++ t ∧ sK S R ∧ R.1 8 = sc isLt B (n - s).toNat s ∧ R.1 9 = s ∧ R.1 10 = wk B s (sc isLt B (n - s).toNat s)) 41 [some (zR 3)] [] (cX (sI S 8 a) ++ t) 0 0 := by
      intro k a ha hk hs
      have hc2 : cT (sI S 8 a) B n := cT_K (sK_I S _ (by omega)) hc
      refine zWP_run gX5_nextWord 120 [] ?_
      refine zCl_e (xiw (S := sI S 8 a) (s := s) (e := a) (i := 0) hB hc2 (by decide) es rfl (by omega)) (by decide) ?_
      have w0 := wm_01 B s a 0
      by_cases c0 : wm B s a 0 = 1
      · refine zBrF (by first | (simp only [rI]; omega) | (simp only [rL]; omega)) (by omega) ?_
        refine ⟨rfl, sI (sI S 8 a) 10 3, rfl, sK_t (sK_I S _ (by omega)) (sK_I _ _ (by omega)), hs.symm, es, ?_⟩
        rw [hs, wk, if_pos c0]
        rfl
      · refine zBrT (by first | (simp only [rI]; omega) | (simp only [rL]; omega)) (by omega) ?_
        refine zCl_e (xiw (S := sI S 8 a) (s := s) (e := a) (i := 1) hB hc2 (by decide) es rfl (by omega)) (by decide) ?_
        have w1 := wm_01 B s a 1
        by_cases c1 : wm B s a 1 = 1
        · refine zBrF (by first | (simp only [rI]; omega) | (simp only [rL]; omega)) (by omega) ?_
          refine ⟨rfl, sI (sI S 8 a) 10 4, rfl, sK_t (sK_I S _ (by omega)) (sK_I _ _ (by omega)), hs.symm, es, ?_⟩
          rw [hs, wk, if_neg c0, if_pos c1]
          rfl
        · refine zBrT (by first | (simp only [rI]; omega) | (simp only [rL]; omega)) (by omega) ?_
          refine zCl_e (xiw (S := sI S 8 a) (s := s) (e := a) (i := 2) hB hc2 (by decide) es rfl (by omega)) (by decide) ?_
          have w2 := wm_01 B s a 2
          by_cases c2 : wm B s a 2 = 1
          · refine zBrF (by first | (simp only [rI]; omega) | (simp only [rL]; omega)) (by omega) ?_
            refine ⟨rfl, sI (sI S 8 a) 10 5, rfl, sK_t (sK_I S _ (by omega)) (sK_I _ _ (by omega)), hs.symm, es, ?_⟩
            rw [hs, wk, if_neg c0, if_neg c1, if_pos c2]
            rfl
          · refine zBrT (by first | (simp only [rI]; omega) | (simp only [rL]; omega)) (by omega) ?_
            refine zCl_e (xiw (S := sI S 8 a) (s := s) (e := a) (i := 3) hB hc2 (by decide) es rfl (by omega)) (by decide) ?_
            have w3 := wm_01 B s a 3
            by_cases c3 : wm B s a 3 = 1
            · refine zBrF (by first | (simp only [rI]; omega) | (simp only [rL]; omega)) (by omega) ?_
              refine ⟨rfl, sI (sI S 8 a) 10 6, rfl, sK_t (sK_I S _ (by omega)) (sK_I _ _ (by omega)), hs.symm, es, ?_⟩
              rw [hs, wk, if_neg c0, if_neg c1, if_neg c2, if_pos c3]
              rfl
            · refine zBrT (by first | (simp only [rI]; omega) | (simp only [rL]; omega)) (by omega) ?_
              refine ⟨rfl, sI (sI S 8 a) 10 7, rfl, sK_t (sK_I S _ (by omega)) (sK_I _ _ (by omega)), hs.symm, es, ?_⟩
              rw [hs, wk, if_neg c0, if_neg c1, if_neg c2, if_neg c3]
              rfl
    intro k
    induction k with
    | zero =>
      intro a ha hk hs
      refine zWP_run gX5_nextWord 60 [0, 41] ?_
      refine zBrT (by show rI a ∧ rI (S.1 7); rw [e7]; simp only [rI]; omega) (by show S.1 7 ≤ a; omega) ?_
      exact fin 0 a ha hk hs
    | succ k ih =>
      intro a ha hk hs
      have hb := hB a
      have hc2 : cT (sI S 8 a) B n := cT_K (sK_I S _ (by omega)) hc
      refine zWP_run gX5_nextWord 100 [0, 41] ?_
      refine zBrF (by show rI a ∧ rI (S.1 7); rw [e7]; simp only [rI]; omega) (by show ¬ S.1 7 ≤ a; omega) ?_
      refine zCl_e (xbn (S := sI S 8 a) hc2 (p := a) (by omega)) (by decide) ?_
      refine zCl_e (xlt (by omega)) (by decide) ?_
      simp only [sc] at hs
      refine zBb (P := isLt (B a) = true) (fun q => ?_) (fun q => ?_)
      · rw [if_neg q] at hs
        exact fin (k + 1) a ha (by omega) hs
      · rw [if_pos q] at hs
        exact ih (a + 1) (by omega) (by omega) hs
  have k9 := lp (n - s).toNat s (by omega) (by omega) rfl
  have e9 : sI S 8 s = S := by rw [← ee]; exact sI_same S 8
  rw [e9] at k9
  exact zEv_0 gX5_nextWord rfl k9
set_option maxHeartbeats 1000000 in
set_option maxRecDepth 100000 in
theorem xnt (hB : ∀ a, -128 ≤ B a ∧ B a ≤ 127) (hc : cT S B n) {a : Int} (ea : S.1 8 = a) (h0 : 0 ≤ a ∧ a ≤ n) : zEv X 8 mX5_nextToken [zR 3] (cX S ++ t) (fun o9 h9 => o9 = .inl none ∧ ∃ R : sS, h9 = cX R ++ t ∧ sK S R ∧ cQ R (tok B n a)) := by
  have hn6 := hc.1
  have e7 := hc.2.2.2
  have cut : ∀ (s : Int), a ≤ s ∧ s ≤ n → sc isBl B (n - a).toNat a = s → zWP X mX5_nextToken 8 (fun o9 h9 => o9 = .inl none ∧ ∃ R : sS, h9 = cX R ++ t ∧ sK S R ∧ cQ R (tok B n a)) 41 [some (zR 3), none] [] (cX (sI S 8 s) ++ t) 0 0 := by
    intro s hs he
    have hb := hB s
    have hc2 : cT (sI (sI S 8 s) 9 s) B n := cT_K (sK_t (sK_I S _ (by omega)) (sK_I _ _ (by omega))) hc
    have k2 : sK S (sI (sI S 8 s) 9 s) := sK_t (sK_I S _ (by omega)) (sK_I _ _ (by omega))
    have et : tok B n a = tk1 B n s := by unfold tok; rw [he]
    rw [et]
    unfold tk1
    refine zWP_run gX5_nextToken 100 [] ?_
    refine zCl_e (xby (S := sI (sI S 8 s) 9 s) hc2 (p := s) (by omega)) (by decide) ?_
    by_cases c0 : n ≤ s
    · rw [if_pos c0]
      refine zBrF (by show rI s ∧ rI (S.1 7); rw [e7]; simp only [rI]; omega) (by show ¬ s < S.1 7; omega) ?_
      exact ⟨rfl, sI (sI (sI S 8 s) 9 s) 10 0, rfl, sK_t k2 (sK_I _ _ (by omega)), rfl, rfl, rfl, fun q => by simp only at q; omega⟩
    · rw [if_neg c0]
      refine zBrT (by show rI s ∧ rI (S.1 7); rw [e7]; simp only [rI]; omega) (by show s < S.1 7; omega) ?_
      have eb : (if s < (sI (sI S 8 s) 9 s).1 0 then (sI (sI S 8 s) 9 s).2.1 0 s.toNat else 0) = B s := by
        show (if s < S.1 0 then S.2.1 0 s.toNat else 0) = B s
        rw [if_pos (by omega)]
        exact hc.2.2.1 s (by omega) (by omega)
      rw [eb]
      by_cases c1 : B s = 59
      · rw [if_pos c1]
        refine zBrT (by first | (simp only [rI]; omega) | (simp only [rL]; omega)) c1 ?_
        exact ⟨rfl, sI (sI (sI (sI S 8 s) 9 s) 8 (s + 1)) 10 1, rfl, sK_t (sK_t k2 (sK_I _ _ (by omega))) (sK_I _ _ (by omega)), rfl, rfl, rfl, fun q => by simp only at q; omega⟩
      · rw [if_neg c1]
        refine zBrF (by first | (simp only [rI]; omega) | (simp only [rL]; omega)) c1 ?_
        refine zCl_e (xdg (by omega)) (by decide) ?_
        refine zBb (P := isDg (B s) = true) (fun c2 => ?_) (fun c2 => ?_)
        rotate_left
        · rw [if_pos c2]
          refine zCl_i (xnn (S := sI (sI S 8 s) 9 s) (s := s) hB hc2 rfl rfl (by omega)) (by decide) ?_
          rintro o9 h9 ⟨rfl, R, rfl, f1, r8, r9, r10, r11⟩
          exact ⟨rfl, R, rfl, sK_t k2 f1, r8, r9, r10, fun _ => r11⟩
        · rw [if_neg c2]
          refine zCl_e (xlt (by omega)) (by decide) ?_
          refine zBb (P := isLt (B s) = true) (fun c3 => ?_) (fun c3 => ?_)
          rotate_left
          · rw [if_pos c3]
            have hwk := wk_b B s (sc isLt B (n - s).toNat s)
            refine zCl_i (xnw (S := sI (sI S 8 s) 9 s) (s := s) hB hc2 rfl rfl (by omega)) (by decide) ?_
            rintro o9 h9 ⟨rfl, R, rfl, f1, r8, r9, r10⟩
            exact ⟨rfl, R, rfl, sK_t k2 f1, r8, r9, r10, fun q => by simp only at q; omega⟩
          · rw [if_neg c3]
            exact ⟨rfl, sI (sI (sI S 8 s) 9 s) 10 8, rfl, sK_t k2 (sK_I _ _ (by omega)), rfl, rfl, rfl, fun q => by simp only at q; omega⟩
  have lp : ∀ (k : Nat) (b : Int), a ≤ b → b + k = n → sc isBl B (n - a).toNat a = sc isBl B k b → zWP X mX5_nextToken 8 (fun o9 h9 => o9 = .inl none ∧ ∃ R : sS, h9 = cX R ++ t ∧ sK S R ∧ cQ R (tok B n a)) 0 [some (zR 3), none] [] (cX (sI S 8 b) ++ t) 0 0 := by
    intro k
    induction k with
    | zero =>
      intro b hb hk hs
      refine zWP_run gX5_nextToken 60 [0, 41] ?_
      refine zBrT (by show rI b ∧ rI (S.1 7); rw [e7]; simp only [rI]; omega) (by show S.1 7 ≤ b; omega) ?_
      exact cut b (by omega) hs
    | succ k ih =>
      intro b hb hk hs
      have hbb := hB b
      have hc2 : cT (sI S 8 b) B n := cT_K (sK_I S _ (by omega)) hc
      refine zWP_run gX5_nextToken 100 [0, 41] ?_
      refine zBrF (by show rI b ∧ rI (S.1 7); rw [e7]; simp only [rI]; omega) (by show ¬ S.1 7 ≤ b; omega) ?_
      refine zCl_e (xbn (S := sI S 8 b) hc2 (p := b) (by omega)) (by decide) ?_
      refine zCl_e (xbl (by omega)) (by decide) ?_
      simp only [sc] at hs
      refine zBb (P := isBl (B b) = true) (fun q => ?_) (fun q => ?_)
      · rw [if_neg q] at hs
        exact cut b (by omega) hs
      · rw [if_pos q] at hs
        exact ih (b + 1) (by omega) (by omega) hs
  have k9 := lp (n - a).toNat a (by omega) (by omega) rfl
  have e9 : sI S 8 a = S := by rw [← ea]; exact sI_same S 8
  rw [e9] at k9
  exact zEv_0 gX5_nextToken rfl k9
end Txt
