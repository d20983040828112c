/-! a table read from a text, as a function -/
def isBl (c : Int) : Bool := decide (c = 10 ∨ c = 32)
def isDg (c : Int) : Bool := decide (48 ≤ c ∧ c ≤ 57)
def isLt (c : Int) : Bool := decide (97 ≤ c ∧ c ≤ 122)
/-- as far as signs are so: k of them may be -/
def sc (P : Int → Bool) (B : Int → Int) : Nat → Int → Int
  | 0, a => a
  | k + 1, a => if P (B a) = true then sc P B k (a + 1) else a
theorem sc_b (P : Int → Bool) (B : Int → Int) : ∀ (k : Nat) (a : Int), a ≤ sc P B k a ∧ sc P B k a ≤ a + k := by
  intro k
  induction k with
  | zero => intro a; simp only [sc]; omega
  | succ k ih =>
    intro a
    have := ih (a + 1)
    simp only [sc]
    split <;> omega
theorem sc_1 {P : Int → Bool} {B : Int → Int} {k : Nat} {a : Int} (hk : 0 < k) (h : P (B a) = true) : a < sc P B k a := by
  obtain ⟨k1, rfl⟩ : ∃ k1, k = k1 + 1 := ⟨k - 1, by omega⟩
  have := sc_b P B k1 (a + 1)
  simp only [sc]
  rw [if_pos h]
  omega
/-- the number of the first three digits -/
def nv (B : Int → Int) (s : Int) : Nat → Int → Int → Int
  | 0, _, v => v
  | k + 1, a, v => if isDg (B a) = true then nv B s k (a + 1) (if a - s < 3 then v * 10 + B a - 48 else v) else v
theorem nv_b (B : Int → Int) (s : Int) : ∀ (k : Nat) (a v : Int), s ≤ a → 0 ≤ v → (a - s = 0 → v ≤ 0) → (a - s = 1 → v ≤ 9) → (a - s = 2 → v ≤ 99) → v ≤ 999 → 0 ≤ nv B s k a v ∧ nv B s k a v ≤ 999 := by
  intro k
  induction k with
  | zero => intro a v _ h0 _ _ _ h3; simp only [nv]; omega
  | succ k ih =>
    intro a v hs h0 g0 g1 g2 h3
    simp only [nv]
    split
    · rename_i c
      simp only [isDg, decide_eq_true_eq] at c
      by_cases q : a - s < 3
      · rw [if_pos q]
        exact ih (a + 1) _ (by omega) (by omega) (by omega) (by omega) (by omega) (by omega)
      · rw [if_neg q]
        exact ih (a + 1) _ (by omega) (by omega) (by omega) (by omega) (by omega) (by omega)
    · omega
/-- does the text stand at s -/
def wmL (B : Int → Int) (s : Int) (i : Nat) : Nat → Int → Int
  | 0, _ => 1
  | k + 1, j => if B (s + j) = zTc i j then wmL B s i k (j + 1) else 0
def wm (B : Int → Int) (s e : Int) (i : Nat) : Int := if e - s = zTl i then wmL B s i (mTl i) 0 else 0
def wk (B : Int → Int) (s e : Int) : Int := if wm B s e 0 = 1 then 3 else if wm B s e 1 = 1 then 4 else if wm B s e 2 = 1 then 5 else if wm B s e 3 = 1 then 6 else 7
theorem wmL_01 (B : Int → Int) (s : Int) (i : Nat) : ∀ (k : Nat) (j : Int), wmL B s i k j = 0 ∨ wmL B s i k j = 1 := by
  intro k
  induction k with
  | zero => intro j; exact Or.inr rfl
  | succ k ih =>
    intro j
    simp only [wmL]
    split
    · exact ih _
    · exact Or.inl rfl
theorem wm_01 (B : Int → Int) (s e : Int) (i : Nat) : wm B s e i = 0 ∨ wm B s e i = 1 := by
  unfold wm
  split
  · exact wmL_01 _ _ _ _ _
  · exact Or.inl rfl
theorem wm_1 {B : Int → Int} {s e : Int} {i : Nat} (hi : i < 4) (h : wm B s e i = 1) : e - s = zTl i ∧ B s = zTc i 0 := by
  unfold wm at h
  by_cases c : e - s = zTl i
  · rw [if_pos c] at h
    refine ⟨c, ?_⟩
    obtain ⟨k, hk⟩ : ∃ k, mTl i = k + 1 := ⟨mTl i - 1, by have := (mTl_ok i hi).1; omega⟩
    rw [hk] at h
    simp only [wmL] at h
    by_cases c2 : B (s + 0) = zTc i 0
    · rw [Int.add_zero] at c2; exact c2
    · rw [if_neg c2] at h; omega
  · rw [if_neg c] at h; omega
theorem wk_z {w0 w1 w2 w3 l c : Int} (b0 : w0 = 1 → l = 3) (b1 : w1 = 1 → l = 4 ∧ c = 115) (b2 : w2 = 1 → l = 4 ∧ c = 104) (b3 : w3 = 1 → l = 4 ∧ c = 97) {w : Int} (hw : w = if w0 = 1 then 3 else if w1 = 1 then 4 else if w2 = 1 then 5 else if w3 = 1 then 6 else 7) : (w = 3 ↔ w0 = 1) ∧ (w = 4 ↔ w1 = 1) ∧ (w = 5 ↔ w2 = 1) ∧ (w = 6 ↔ w3 = 1) := by
  by_cases e0 : w0 = 1
  · have := b0 e0
    rw [if_pos e0] at hw
    omega
  · rw [if_neg e0] at hw
    by_cases e1 : w1 = 1
    · have := b1 e1
      rw [if_pos e1] at hw
      omega
    · rw [if_neg e1] at hw
      by_cases e2 : w2 = 1
      · have := b2 e2
        rw [if_pos e2] at hw
        omega
      · rw [if_neg e2] at hw
        by_cases e3 : w3 = 1
        · rw [if_pos e3] at hw
          omega
        · rw [if_neg e3] at hw
          omega
theorem wk_i {B : Int → Int} {s e : Int} {i : Nat} (hi : i < 4) : wk B s e = 3 + i ↔ wm B s e i = 1 := by
  have l0 : zTl 0 = 3 := by decide
  have l1 : zTl 1 = 4 := by decide
  have l2 : zTl 2 = 4 := by decide
  have l3 : zTl 3 = 4 := by decide
  have c1 : zTc 1 0 = 115 := by decide
  have c2 : zTc 2 0 = 104 := by decide
  have c3 : zTc 3 0 = 97 := by decide
  have b0 : wm B s e 0 = 1 → e - s = zTl 0 ∧ B s = zTc 0 0 := wm_1 (by omega)
  have b1 : wm B s e 1 = 1 → e - s = zTl 1 ∧ B s = zTc 1 0 := wm_1 (by omega)
  have b2 : wm B s e 2 = 1 → e - s = zTl 2 ∧ B s = zTc 2 0 := wm_1 (by omega)
  have b3 : wm B s e 3 = 1 → e - s = zTl 3 ∧ B s = zTc 3 0 := wm_1 (by omega)
  rw [l0] at b0
  rw [l1, c1] at b1
  rw [l2, c2] at b2
  rw [l3, c3] at b3
  have h := wk_z (fun z => (b0 z).1) b1 b2 b3 (w := wk B s e) rfl
  have hc : i = 0 ∨ i = 1 ∨ i = 2 ∨ i = 3 := by omega
  rcases hc with rfl | rfl | rfl | rfl
  · exact h.1
  · exact h.2.1
  · exact h.2.2.1
  · exact h.2.2.2
theorem wk_b (B : Int → Int) (s e : Int) : 3 ≤ wk B s e ∧ wk B s e ≤ 7 := by
  unfold wk
  repeat (first | omega | split)
/-- a token: the place behind it, where it starts, its kind (0 the end, 1 ';', 2 a number, 3 die, 4 salt, 5 hand, 6 ants, 7 another word, 8 none), its number -/
abbrev pT : Type := Int × Int × Int × Int
def tk1 (B : Int → Int) (n s : Int) : pT :=
  if n ≤ s then (s, s, 0, 0)
  else if B s = 59 then (s + 1, s, 1, 0)
  else if isDg (B s) = true then (sc isDg B (n - s).toNat s, s, (if sc isDg B (n - s).toNat s - s ≤ 3 then 2 else 8), nv B s (n - s).toNat s 0)
  else if isLt (B s) = true then (sc isLt B (n - s).toNat s, s, wk B s (sc isLt B (n - s).toNat s), 0)
  else (s, s, 8, 0)
def tok (B : Int → Int) (n a : Int) : pT := tk1 B n (sc isBl B (n - a).toNat a)
theorem tok_b {B : Int → Int} {n a : Int} (h0 : 0 ≤ a) (h1 : a ≤ n) : (a ≤ (tok B n a).1 ∧ (tok B n a).1 ≤ n) ∧ (0 ≤ (tok B n a).2.1 ∧ (tok B n a).2.1 ≤ n) ∧ (0 ≤ (tok B n a).2.2.1 ∧ (tok B n a).2.2.1 ≤ 8) ∧ (0 ≤ (tok B n a).2.2.2 ∧ (tok B n a).2.2.2 ≤ 999) ∧ ((tok B n a).2.2.1 ≠ 0 → (tok B n a).2.2.1 ≠ 8 → a < (tok B n a).1) := by
  have hs := sc_b isBl B (n - a).toNat a
  unfold tok
  generalize sc isBl B (n - a).toNat a = s at hs
  unfold tk1
  by_cases c0 : n ≤ s
  · rw [if_pos c0]
    refine ⟨?_, ?_, ?_, ?_, ?_⟩ <;> simp only <;> omega
  · rw [if_neg c0]
    by_cases c1 : B s = 59
    · rw [if_pos c1]
      refine ⟨?_, ?_, ?_, ?_, ?_⟩ <;> simp only <;> omega
    · rw [if_neg c1]
      by_cases c2 : isDg (B s) = true
      · rw [if_pos c2]
        have q1 := sc_b isDg B (n - s).toNat s
        have q2 := sc_1 (B := B) (k := (n - s).toNat) (by omega) c2
        have q3 := nv_b B s (n - s).toNat s 0 (by omega) (by omega) (by omega) (by omega) (by omega) (by omega)
        refine ⟨?_, ?_, ?_, ?_, ?_⟩ <;> simp only
        · omega
        · omega
        · split <;> omega
        · exact q3
        · omega
      · rw [if_neg c2]
        by_cases c3 : isLt (B s) = true
        · rw [if_pos c3]
          have q1 := sc_b isLt B (n - s).toNat s
          have q2 := sc_1 (B := B) (k := (n - s).toNat) (by omega) c3
          have q3 := wk_b B s (sc isLt B (n - s).toNat s)
          refine ⟨?_, ?_, ?_, ?_, ?_⟩ <;> simp only <;> omega
        · rw [if_neg c3]
          refine ⟨?_, ?_, ?_, ?_, ?_⟩ <;> simp only <;> omega
/-- it is a token of the text -/
def pTk (B : Int → Int) (n : Int) (q : pT) : Prop := ∃ a, 0 ≤ a ∧ a ≤ n ∧ q = tok B n a
theorem pTk_t {B : Int → Int} {n : Int} {q : pT} (h : pTk B n q) : pTk B n (tok B n q.1) := by
  obtain ⟨a, h0, h1, rfl⟩ := h
  have := tok_b (B := B) h0 h1
  exact ⟨_, by omega, by omega, rfl⟩
theorem pTk_b {B : Int → Int} {n : Int} {q : pT} (h : pTk B n q) : (0 ≤ q.1 ∧ q.1 ≤ n) ∧ (0 ≤ q.2.1 ∧ q.2.1 ≤ n) ∧ (0 ≤ q.2.2.1 ∧ q.2.2.1 ≤ 8) ∧ (0 ≤ q.2.2.2 ∧ q.2.2.2 ≤ 999) := by
  obtain ⟨a, h0, h1, rfl⟩ := h
  have := tok_b (B := B) h0 h1
  omega
theorem pTk_w {B : Int → Int} {n : Int} {q : pT} (h : pTk B n q) (hw : 3 ≤ q.2.2.1 ∧ q.2.2.1 ≤ 7) : q.2.2.1 = wk B q.2.1 q.1 ∧ q.2.1 < q.1 := by
  obtain ⟨a, h0, h1, rfl⟩ := h
  have hs := sc_b isBl B (n - a).toNat a
  unfold tok at hw ⊢
  generalize sc isBl B (n - a).toNat a = s at hs hw ⊢
  unfold tk1 at hw ⊢
  by_cases c0 : n ≤ s
  · rw [if_pos c0] at hw; simp only at hw; omega
  · rw [if_neg c0] at hw ⊢
    by_cases c1 : B s = 59
    · rw [if_pos c1] at hw; simp only at hw; omega
    · rw [if_neg c1] at hw ⊢
      by_cases c2 : isDg (B s) = true
      · rw [if_pos c2] at hw
        simp only at hw
        split at hw <;> omega
      · rw [if_neg c2] at hw ⊢
        by_cases c3 : isLt (B s) = true
        · rw [if_pos c3]
          have q2 := sc_1 (B := B) (k := (n - s).toNat) (by omega) c3
          exact ⟨rfl, q2⟩
        · rw [if_neg c3] at hw; simp only at hw; omega
/-- what is read so far: lines, dice, hands, the ants' face; the table -/
abbrev pF : Type := (Nat → Int) × vS
def pN (f : Nat → Int) (i : Nat) (z : Int) : Nat → Int := fun j => if j = i then z else f j
def sWt (s : vS) (d f z : Int) : vS := (fun d1 f1 => if d1 = d ∧ f1 = f then z else s.1 d1 f1, s.2)
def sSl (s : vS) (d z : Int) : vS := (s.1, fun d1 => if d1 = d then z else s.2.1 d1, s.2.2)
def sHt (s : vS) (k z : Int) : vS := (s.1, s.2.1, fun k1 => if k1 = k then z else s.2.2.1 k1, s.2.2.2)
/-- the fault of a token that can't stand here -/
def pNo (q : pT) : Int := if q.2.2.1 = 8 then 1 else 2
/-- the fault of a number that must be between; 0: none -/
def pNk (q : pT) (lo hi : Int) : Int := if ¬ q.2.2.1 = 2 then pNo q else if q.2.2.2 < lo ∨ hi < q.2.2.2 then 3 else 0
abbrev pR : Type := Int × Int × pT × pF
def pSg (B : Int → Int) (n : Int) (q : pT) (fr : pF) : pR := if ¬ q.2.2.1 = 1 then (pNo q, q.2.1, q, fr) else (0, -1, tok B n q.1, (pN fr.1 0 (fr.1 0 + 1), fr.2))
def pDi (B : Int → Int) (n d : Int) : Nat → Int → Int → pT → vS → Int × Int × pT × vS
  | 0, _, _, q, s => (0, -1, q, s)
  | k + 1, f, tt, q, s => if ¬ pNk q (if f = 6 ∧ tt = 0 then 1 else 0) 20 = 0 then (pNk q (if f = 6 ∧ tt = 0 then 1 else 0) 20, q.2.1, q, s) else pDi B n d k (f + 1) (tt + q.2.2.2) (tok B n q.1) (sWt s d f q.2.2.2)
/-- a die's line ahead of its ';' -/
def pDq (B : Int → Int) (n : Int) (r : Int × Int × pT × vS) (fr : pF) : pR := if ¬ r.1 = 0 then (r.1, r.2.1, r.2.2.1, fr) else if r.2.2.1.2.2.1 = 4 then (0, -1, tok B n r.2.2.1.1, (pN fr.1 1 (fr.1 1 + 1), sSl r.2.2.2 (fr.1 1) 1)) else (0, -1, r.2.2.1, (pN fr.1 1 (fr.1 1 + 1), r.2.2.2))
def pHq (B : Int → Int) (n : Int) (q : pT) (fr : pF) : pR := if ¬ pNk q 0 9 = 0 then (pNk q 0 9, q.2.1, q, fr) else (0, -1, tok B n q.1, (pN fr.1 2 (fr.1 2 + 1), sHt fr.2 (fr.1 2) q.2.2.2))
def pAq (B : Int → Int) (n : Int) (q : pT) (fr : pF) : pR := if ¬ pNk q 1 6 = 0 then (pNk q 1 6, q.2.1, q, fr) else (0, -1, tok B n q.1, (pN fr.1 3 q.2.2.2, fr.2))
def pDl (B : Int → Int) (n : Int) (q : pT) (fr : pF) : pR := if 5 ≤ fr.1 1 then (4, q.2.1, q, fr) else pDq B n (pDi B n (fr.1 1) 6 1 0 (tok B n q.1) fr.2) fr
def pHl (B : Int → Int) (n : Int) (q : pT) (fr : pF) : pR := if 4 ≤ fr.1 2 then (4, q.2.1, q, fr) else pHq B n (tok B n q.1) fr
def pPr (B : Int → Int) (n : Int) (q : pT) (fr : pF) : pR :=
  if q.2.2.1 = 3 then pDl B n q fr else if q.2.2.1 = 5 then pHl B n q fr else if q.2.2.1 = 6 then pAq B n (tok B n q.1) fr else (pNo q, q.2.1, q, fr)
def pLn (B : Int → Int) (n : Int) (q : pT) (fr : pF) : pR := if ¬ (pPr B n q fr).1 = 0 then pPr B n q fr else pSg B n (pPr B n q fr).2.2.1 (pPr B n q fr).2.2.2
def pRd (B : Int → Int) (n : Int) : Nat → pT → pF → pR
  | 0, q, fr => (0, -1, q, fr)
  | k + 1, q, fr => if q.2.2.1 = 0 then (0, -1, q, fr) else if ¬ (pLn B n q fr).1 = 0 then pLn B n q fr else pRd B n k (pLn B n q fr).2.2.1 (pLn B n q fr).2.2.2
def pF0 : pF := (fun i => if i = 3 then 5 else 0, (fun _ _ => 0, fun _ => 0, fun _ => 0, fun _ => -1))
/-- bounds of what is read; m: at most so many lines -/
def pFb (m : Int) (fr : pF) : Prop := (0 ≤ fr.1 0 ∧ fr.1 0 ≤ m) ∧ (0 ≤ fr.1 1 ∧ fr.1 1 ≤ 5) ∧ (0 ≤ fr.1 2 ∧ fr.1 2 ≤ 4) ∧ (1 ≤ fr.1 3 ∧ fr.1 3 ≤ 6) ∧ vSb fr.2
theorem sWt_b {s : vS} (h : vSb s) (d f : Int) {z : Int} (hz : 0 ≤ z ∧ z ≤ 20) : vSb (sWt s d f z) := ⟨fun d1 f1 => by
  show 0 ≤ (if d1 = d ∧ f1 = f then z else s.1 d1 f1) ∧ (if d1 = d ∧ f1 = f then z else s.1 d1 f1) ≤ 20
  split
  · exact hz
  · exact h.1 d1 f1, h.2⟩
theorem sSl_b {s : vS} (h : vSb s) (d : Int) : vSb (sSl s d 1) := ⟨h.1, fun d1 => by
  show (if d1 = d then 1 else s.2.1 d1) = 0 ∨ (if d1 = d then 1 else s.2.1 d1) = 1
  split
  · exact Or.inr rfl
  · exact h.2.1 d1, h.2.2⟩
theorem sHt_b {s : vS} (h : vSb s) (k : Int) {z : Int} (hz : 0 ≤ z ∧ z ≤ 9) : vSb (sHt s k z) := ⟨h.1, h.2.1, fun k1 => by
  show 0 ≤ (if k1 = k then z else s.2.2.1 k1) ∧ (if k1 = k then z else s.2.2.1 k1) ≤ 9
  split
  · exact hz
  · exact h.2.2.1 k1, h.2.2.2⟩
theorem pNo_b (q : pT) : 1 ≤ pNo q ∧ pNo q ≤ 2 := by
  unfold pNo
  split <;> omega
theorem pNk_b (q : pT) (lo hi : Int) : 0 ≤ pNk q lo hi ∧ pNk q lo hi ≤ 3 := by
  have := pNo_b q
  unfold pNk
  split
  · omega
  · split <;> omega
theorem pNk_0 {q : pT} {lo hi : Int} (h : pNk q lo hi = 0) : q.2.2.1 = 2 ∧ lo ≤ q.2.2.2 ∧ q.2.2.2 ≤ hi := by
  have := pNo_b q
  unfold pNk at h
  by_cases c : q.2.2.1 = 2
  · rw [if_neg (fun z => z c)] at h
    by_cases c2 : q.2.2.2 < lo ∨ hi < q.2.2.2
    · rw [if_pos c2] at h; omega
    · omega
  · rw [if_pos c] at h; omega
/-- what holds of an outcome: its fault, or the token and what is read -/
def pOk (B : Int → Int) (n a m : Int) (r : pR) : Prop := (0 ≤ r.1 ∧ r.1 ≤ 4) ∧ (-1 ≤ r.2.1 ∧ r.2.1 ≤ n) ∧ (r.1 = 0 → pTk B n r.2.2.1 ∧ pFb m r.2.2.2 ∧ (r.2.2.1.2.2.1 ≠ 0 → r.2.2.1.2.2.1 ≠ 8 → a < r.2.2.1.1))
theorem pSg_ok {B : Int → Int} {n m a : Int} {q : pT} {fr : pF} (hq : pTk B n q) (ha : a ≤ q.1) (hf : pFb m fr) : pOk B n a (m + 1) (pSg B n q fr) := by
  have hb := pTk_b hq
  have hn := pNo_b q
  unfold pSg
  split
  · exact ⟨by simp only; omega, by simp only; omega, fun z => by simp only at z; omega⟩
  · have ht := tok_b (B := B) (n := n) (a := q.1) (by omega) (by omega)
    refine ⟨by simp only; omega, by simp only; omega, fun _ => ⟨pTk_t hq, ⟨?_, hf.2⟩, fun z0 z1 => ?_⟩⟩
    · show 0 ≤ fr.1 0 + 1 ∧ fr.1 0 + 1 ≤ m + 1
      have := hf.1
      omega
    · have z2 := ht.2.2.2.2 z0 z1
      show a < (tok B n q.1).1
      omega
theorem pDi_ok {B : Int → Int} {n d : Int} : ∀ (k : Nat) (f tt : Int) (q : pT) (s : vS), pTk B n q → vSb s → 0 ≤ f → 0 ≤ tt → ((0 ≤ (pDi B n d k f tt q s).1 ∧ (pDi B n d k f tt q s).1 ≤ 3) ∧ (-1 ≤ (pDi B n d k f tt q s).2.1 ∧ (pDi B n d k f tt q s).2.1 ≤ n) ∧ ((pDi B n d k f tt q s).1 = 0 → pTk B n (pDi B n d k f tt q s).2.2.1 ∧ vSb (pDi B n d k f tt q s).2.2.2 ∧ q.1 ≤ (pDi B n d k f tt q s).2.2.1.1)) := by
  intro k
  induction k with
  | zero =>
    intro f tt q s hq hs _ _
    have hb := pTk_b hq
    exact ⟨by simp only [pDi]; omega, by simp only [pDi]; omega, fun _ => ⟨hq, hs, by simp only [pDi]; omega⟩⟩
  | succ k ih =>
    intro f tt q s hq hs f0 t0
    have hb := pTk_b hq
    have hn := pNk_b q (if f = 6 ∧ tt = 0 then 1 else 0) 20
    simp only [pDi]
    by_cases c : pNk q (if f = 6 ∧ tt = 0 then 1 else 0) 20 = 0
    rotate_left
    · rw [if_pos c]
      exact ⟨hn, by simp only; omega, fun z => by simp only at z; contradiction⟩
    · rw [if_neg (fun z => z c)]
      have h2 := pNk_0 c
      have lo : 0 ≤ (if f = 6 ∧ tt = 0 then (1 : Int) else 0) := by split <;> omega
      have ht := tok_b (B := B) (n := n) (a := q.1) (by omega) (by omega)
      have h3 := ih (f + 1) (tt + q.2.2.2) (tok B n q.1) (sWt s d f q.2.2.2) (pTk_t hq) (sWt_b hs d f (by omega)) (by omega) (by omega)
      refine ⟨h3.1, h3.2.1, fun z => ?_⟩
      have h4 := h3.2.2 z
      exact ⟨h4.1, h4.2.1, by omega⟩
/-- the same ahead of the ';' -/
def pOq (B : Int → Int) (n a m : Int) (r : pR) : Prop := (0 ≤ r.1 ∧ r.1 ≤ 4) ∧ (-1 ≤ r.2.1 ∧ r.2.1 ≤ n) ∧ (r.1 = 0 → pTk B n r.2.2.1 ∧ pFb m r.2.2.2 ∧ a ≤ r.2.2.1.1)
theorem pPr_ok {B : Int → Int} {n m : Int} {q : pT} {fr : pF} (hq : pTk B n q) (hf : pFb m fr) : pOq B n q.1 m (pPr B n q fr) := by
  have hb := pTk_b hq
  have hn := pNo_b q
  have ht := tok_b (B := B) (n := n) (a := q.1) (by omega) (by omega)
  have hq1 := pTk_t hq
  have hb1 := pTk_b hq1
  have ht4 := tok_b (B := B) (n := n) (a := (tok B n q.1).1) (by omega) (by omega)
  obtain ⟨f0, f1, f2, f3, fs⟩ := hf
  unfold pPr
  split
  · unfold pDl
    split
    · exact ⟨by simp only; omega, by simp only; omega, fun z => by simp only at z; omega⟩
    · rename_i c5
      have h3 := pDi_ok (B := B) (n := n) (d := fr.1 1) 6 1 0 (tok B n q.1) fr.2 hq1 fs (by omega) (by omega)
      unfold pDq
      split
      · rename_i c6
        exact ⟨by simp only; omega, by simp only; omega, fun z => by simp only at z; contradiction⟩
      · rename_i c6
        have h4 := h3.2.2 (Decidable.not_not.mp c6)
        have hb4 := pTk_b h4.1
        have ht5 := tok_b (B := B) (n := n) (a := (pDi B n (fr.1 1) 6 1 0 (tok B n q.1) fr.2).2.2.1.1) (by omega) (by omega)
        split
        · refine ⟨by simp only; omega, by simp only; omega, fun _ => ⟨pTk_t h4.1, ⟨f0, ?_, f2, f3, sSl_b h4.2.1 _⟩, ?_⟩⟩
          · show 0 ≤ fr.1 1 + 1 ∧ fr.1 1 + 1 ≤ 5
            omega
          · simp only; omega
        · refine ⟨by simp only; omega, by simp only; omega, fun _ => ⟨h4.1, ⟨f0, ?_, f2, f3, h4.2.1⟩, ?_⟩⟩
          · show 0 ≤ fr.1 1 + 1 ∧ fr.1 1 + 1 ≤ 5
            omega
          · simp only; omega
  · split
    · unfold pHl
      split
      · exact ⟨by simp only; omega, by simp only; omega, fun z => by simp only at z; omega⟩
      · rename_i c5
        have hk := pNk_b (tok B n q.1) 0 9
        unfold pHq
        split
        · exact ⟨by simp only; omega, by simp only; omega, fun z => by simp only at z; contradiction⟩
        · rename_i c6
          have h2 := pNk_0 (Decidable.not_not.mp c6)
          refine ⟨by simp only; omega, by simp only; omega, fun _ => ⟨pTk_t hq1, ⟨f0, f1, ?_, f3, sHt_b fs _ h2.2⟩, ?_⟩⟩
          · show 0 ≤ fr.1 2 + 1 ∧ fr.1 2 + 1 ≤ 4
            omega
          · simp only; omega
    · split
      · have hk := pNk_b (tok B n q.1) 1 6
        unfold pAq
        split
        · exact ⟨by simp only; omega, by simp only; omega, fun z => by simp only at z; contradiction⟩
        · rename_i c6
          have h2 := pNk_0 (Decidable.not_not.mp c6)
          exact ⟨by simp only; omega, by simp only; omega, fun _ => ⟨pTk_t hq1, ⟨f0, f1, f2, h2.2, fs⟩, by simp only; omega⟩⟩
      · exact ⟨by simp only; omega, by simp only; omega, fun z => by simp only at z; omega⟩
theorem pLn_ok {B : Int → Int} {n m : Int} {q : pT} {fr : pF} (hq : pTk B n q) (hf : pFb m fr) : pOk B n q.1 (m + 1) (pLn B n q fr) := by
  have h := pPr_ok hq hf
  unfold pLn
  split
  · rename_i c
    exact ⟨h.1, h.2.1, fun z => absurd z c⟩
  · rename_i c
    have h3 := h.2.2 (Decidable.not_not.mp c)
    exact pSg_ok h3.1 h3.2.2 h3.2.1
theorem pRd_ok {B : Int → Int} {n : Int} : ∀ (k : Nat) (m : Int) (q : pT) (fr : pF), pTk B n q → pFb m fr → (0 ≤ (pRd B n k q fr).1 ∧ (pRd B n k q fr).1 ≤ 4) ∧ (-1 ≤ (pRd B n k q fr).2.1 ∧ (pRd B n k q fr).2.1 ≤ n) ∧ ((pRd B n k q fr).1 = 0 → pFb (m + k) (pRd B n k q fr).2.2.2) := by
  intro k
  induction k with
  | zero =>
    intro m q fr hq hf
    have hb := pTk_b hq
    exact ⟨by simp only [pRd]; omega, by simp only [pRd]; omega, fun _ => by simp only [pRd, Int.natCast_zero, Int.add_zero]; exact hf⟩
  | succ k ih =>
    intro m q fr hq hf
    have hb := pTk_b hq
    have hl := pLn_ok hq hf
    have up : ∀ m2 : Int, m ≤ m2 → pFb m2 fr := fun m2 h => ⟨by have := hf.1; omega, hf.2⟩
    simp only [pRd]
    split
    · exact ⟨by simp only; omega, by simp only; omega, fun _ => up _ (by omega)⟩
    · split
      · rename_i c2
        exact ⟨hl.1, hl.2.1, fun z => absurd z c2⟩
      · rename_i c2
        have h3 := hl.2.2 (Decidable.not_not.mp c2)
        have h4 := ih (m + 1) _ _ h3.1 h3.2.1
        refine ⟨h4.1, h4.2.1, fun z => ?_⟩
        have h5 := h4.2.2 z
        rw [show m + ((k + 1 : Nat) : Int) = m + 1 + k by omega]
        exact h5
theorem pF0_b : pFb 0 pF0 := ⟨⟨by decide, by decide⟩, ⟨by decide, by decide⟩, ⟨by decide, by decide⟩, ⟨by decide, by decide⟩, fun _ _ => ⟨by show (0 : Int) ≤ 0; omega, by show (0 : Int) ≤ 20; omega⟩, fun _ => Or.inl rfl, fun _ => ⟨by show (0 : Int) ≤ 0; omega, by show (0 : Int) ≤ 9; omega⟩, fun _ => ⟨by show (-1 : Int) ≤ -1; omega, by show (-1 : Int) ≤ 4; omega⟩⟩
def pTb (B : Int → Int) (n : Int) : pR := pRd B n n.toNat (tok B n 0) pF0
/-- the table that was read, nothing thrown yet -/
def vNew (fr : pF) : vV := (fun i => if i = 4 then 0 else fr.1 i, fr.2, fun _ => 0, fun _ => 0, fun _ => 0, fun _ => fr.2)
/-- table: the answer, the new view, the fault's kind and place; l: how many bytes there are -/
def pTable (v : vV) (B : Int → Int) (l n : Int) : (Int ⊕ Nat) × vV × Option (Int × Int) := if 0 ≤ n ∧ n ≤ l then (if (pTb B n).1 = 0 then (.inl ((pTb B n).2.2.2.1 0), vNew (pTb B n).2.2.2, some (0, -1)) else (.inl (-10 - (pTb B n).1), v, some ((pTb B n).1, (pTb B n).2.1))) else (.inr 0, v, none)
theorem vNew_b {n : Int} {fr : pF} (hn : n ≤ 600) (h : pFb n fr) : vVb (vNew fr) := by
  obtain ⟨f0, f1, f2, f3, fs⟩ := h
  refine ⟨?_, f1, f2, f3, ⟨by show (0 : Int) ≤ 0; omega, by show (0 : Int) ≤ 60; omega⟩, fs, fun k k0 k1 => ?_⟩
  · show 0 ≤ fr.1 0 ∧ fr.1 0 ≤ 600
    omega
  · have : k < 0 := k1
    omega
