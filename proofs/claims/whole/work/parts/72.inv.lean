/-! what holds from round to round -/
def cWs : Nat → List jJ → zH
  | _, [] => []
  | p, J :: r => cI p J ++ cWs (p + 4) r
def lTe (S : sS) (K : kK) : Prop := S.1 0 = K.1 1 ∧ (0 ≤ S.1 0 ∧ S.1 0 ≤ 600) ∧ (∀ k, -128 ≤ S.2.1 0 k ∧ S.2.1 0 k ≤ 127) ∧ (∀ k, K.2 5 k = S.2.1 0 k % 256) ∧ S.1 5 = K.1 9 ∧ S.1 6 = K.1 10
def iOne (S : sS) (K : kK) (W : List jJ) (i : Nat) : Prop := (S.2.2 i = none ∧ K.2 4 i = 0) ∨ ∃ j J u, S.2.2 i = some (46 + 4 * j) ∧ W[j]? = some J ∧ vX (jS J) u ∧ K.2 4 i = 1 ∧ kV (fun z => K.2 3 (3108 * i + z)) u
def iNo (o : Option Nat) : Nat := match o with
  | none => 0
  | some _ => 1
def iX (S : sS) (K : kK) (W : List jJ) : Prop := (∀ i, 3 ≤ i → S.2.2 i = none) ∧ (∀ i, i < 3 → iOne S K W i) ∧ (∀ i j p, S.2.2 i = some p → S.2.2 j = some p → i = j) ∧ W.length = iNo (S.2.2 0) + iNo (S.2.2 1) + iNo (S.2.2 2)
def lI (S : sS) (K : kK) (W : List jJ) (v : vV) (T : tT) : Prop := vX S v ∧ kV (K.2 0) v ∧ tX S T ∧ kTr K T ∧ lTe S K ∧ iX S K W
theorem iX_st {S R : sS} {K Q : kK} {W : List jJ} (h : iX S K W) (h1 : R.2.2 = S.2.2) (h3 : Q.2 3 = K.2 3) (h4 : Q.2 4 = K.2 4) : iX R Q W := by
  unfold iX iOne
  rw [h1, h3, h4]
  exact h
theorem lTe_st {S R : sS} {K Q : kK} (h : lTe S K) (h0 : R.1 0 = S.1 0) (h5 : R.1 5 = S.1 5) (h6 : R.1 6 = S.1 6) (r0 : R.2.1 0 = S.2.1 0) (k1 : Q.1 1 = K.1 1) (k9 : Q.1 9 = K.1 9) (k10 : Q.1 10 = K.1 10) (k5 : Q.2 5 = K.2 5) : lTe R Q := by
  unfold lTe
  rw [h0, h5, h6, r0, k1, k9, k10, k5]
  exact h
/-- a call of the game -/
theorem lI_g {S R : sS} {K Q : kK} {W : List jJ} {v v1 : vV} {T : tT} (h : lI S K W v T) (hs : sG S R) (hv : vX R v1) (hk : kF K Q) (hkv : kV (Q.2 0) v1) : lI R Q W v1 T := by
  obtain ⟨-, -, h3, h4, h5, h6⟩ := h
  exact ⟨hv, hkv, tX_g hs h3, kTr_F hk h4, lTe_st h5 (hs.1 0 (by omega)) (hs.1 5 (by omega)) (hs.1 6 (by omega)) (hs.2.1 0 (by omega)) (hk.1 1 (by omega)) (hk.1 9 (by omega)) (hk.1 10 (by omega)) (hk.2 5 (by omega)), iX_st h6 hs.2.2 (hk.2 3 (by omega)) (hk.2 4 (by omega))⟩
/-- a call of a tray -/
theorem lI_t {S R : sS} {K Q : kK} {W : List jJ} {v : vV} {T T1 : tT} (h : lI S K W v T) (hs : sH S R) (hv : tX R T1) (hk : kG K Q) (hkv : kTr Q T1) : lI R Q W v T1 := by
  obtain ⟨h1, h2, -, -, h5, h6⟩ := h
  refine ⟨vX_st h1 (fun i _ b => hs.1 i (by omega)) (fun r _ b => hs.2.1 r (by omega)), ?_, hv, hkv, lTe_st h5 (hs.1 0 (by omega)) (hs.1 5 (by omega)) (hs.1 6 (by omega)) (hs.2.1 0 (by omega)) (hk.1 1 (by omega)) (hk.1 9 (by omega)) (hk.1 10 (by omega)) (hk.2 5 (by omega)), iX_st h6 hs.2.2 (hk.2 3 (by omega)) (hk.2 4 (by omega))⟩
  rw [hk.2 0 (by omega)]
  exact h2
/-- only the reference's mark changes -/
theorem lI_0 {S : sS} {K : kK} {W : List jJ} {v : vV} {T : tT} (h : lI S K W v T) (z : Int) : lI S (kI K 0 z) W v T := lI_g h (sG_r S) h.1 (kF_I K z (by omega)) h.2.1
theorem tX_W {S R : sS} {T : tT} (h : sW S R) (k : tX S T) : tX R T := by
  unfold tX
  rw [h.1 18 (by omega), h.1 19 (by omega), h.1 20 (by omega), h.1 21 (by omega), h.1 22 (by omega), h.1 23 (by omega), h.1 24 (by omega), h.1 25 (by omega), h.1 26 (by omega), h.1 27 (by omega), h.1 28 (by omega), h.1 29 (by omega), h.2.1 10 (by omega), h.2.1 11 (by omega), h.2.1 12 (by omega), h.2.1 13 (by omega)]
  exact k
/-- the script's numbers -/
def scr (X : mX) (j : Int) : Int := (X.2.2.2.2.2.2 j.toNat).toInt
theorem scr_r (X : mX) (j : Int) : rI (scr X j) := ⟨Int32.le_toInt _, Int32.toInt_lt _⟩
