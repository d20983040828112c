/-! the law's helpers -/
def wI (z : Int) : Int := (Int32.ofInt z).toInt
def wJ (z : Int) : Int := (Int64.ofInt z).toInt
theorem wI_r (z : Int) : rI (wI z) := ⟨Int32.le_toInt _, Int32.toInt_lt _⟩
theorem wJ_r (z : Int) : rL (wJ z) := ⟨Int64.le_toInt _, Int64.toInt_lt _⟩
def nO : zO → zO
  | .inl (some (.inl z)) => .inl (some (.inl (wI z)))
  | .inl (some (.inr (.inl z))) => .inl (some (.inr (.inl (wJ z))))
  | o => o
theorem nO_t (o : zO) : zOt (nO o) = zOt o := by
  rcases o with (_ | z | z | z) | e
  · rfl
  · show (fun z => (Sum.inl (some (Value.int z)) : mO)) (Int32.ofInt (Int32.ofInt z).toInt) = (fun z => (Sum.inl (some (Value.int z)) : mO)) (Int32.ofInt z)
    rw [Int32.ofInt_toInt]
  · show (fun z => (Sum.inl (some (Value.long z)) : mO)) (Int64.ofInt (Int64.ofInt z).toInt) = (fun z => (Sum.inl (some (Value.long z)) : mO)) (Int64.ofInt z)
    rw [Int64.ofInt_toInt]
  · rfl
  · rfl
/-- answers as numbers of the machine -/
theorem zEv_n {X : mX} {M : mM} {d : Nat} {Q : zO → zH → Prop} {h : zH} {as : List zV} (hE : zEv X d M as h Q) : zEv X d M as h (fun o h1 => ∃ o0, Q o0 h1 ∧ o = nO o0) := mEv_w hE (fun o h1 q => by
  obtain ⟨o2, h2, e1, e2, q2⟩ := q
  exact ⟨nO o2, h2, by rw [e1, nO_t], e2, o2, q2, rfl⟩)
def eOk {α : Type} (r : (Int ⊕ Nat) × α) (s : List Nat) : Prop := ∀ e, r.1 = .inr e → e ∈ s
theorem eOk_l {α : Type} {y : Int} {w : α} {s : List Nat} : eOk (.inl y, w) s := fun e h => by cases h
theorem eOk_r {α : Type} {n : Nat} {w : α} {s : List Nat} (hn : n ∈ s) : eOk (.inr n, w) s := fun e h => by cases h; exact hn
theorem eOk_i {α : Type} {P : Prop} [Decidable P] {a b : (Int ⊕ Nat) × α} {s : List Nat} (ha : eOk a s) (hb : eOk b s) : eOk (if P then a else b) s := by
  split
  · exact ha
  · exact hb
/-- how a helper ends -/
def lTp (S : sS) (K : kK) (W : zH) (cd : Nat → Int) (wr : Int → Int) (r : (Int ⊕ Nat) × vV) : zO → zH → Prop := fun o9 h9 => ∃ (R : sS) (f : Nat → Int), h9 = cX R ++ (cM K ++ (oC f :: W)) ∧ sG S R ∧ vX R r.2 ∧ (match r.1 with
  | .inl y => o9 = .inl (some (zI 0)) ∧ f 0 = wr y
  | .inr e => o9 = .inl (some (zI (cd e))))
section Lw
variable {X : mX} {S : sS} {K : kK} {W : zH} {f : Nat → Int} {v : vV} {T : tT}
theorem pDie_e (v : vV) (d w : Int) : eOk (pDie v d w) [1, 0] := by
  unfold pDie
  repeat' (first | exact eOk_l | exact eOk_r (by decide) | refine eOk_i ?_ ?_)
set_option maxHeartbeats 1000000 in
set_option maxRecDepth 100000 in
theorem lDie (hv : vX S v) {d w : Int} (hd : rI d) (hw : rI w) : zEv X 13 mL_die [zR 0, zI d, zI w, zR 45] (cX S ++ (cM K ++ (oC f :: W))) (lTp S K W (kcd [1, 0]) wI (pDie v d w)) := by
  refine zEv_run gL_die 60 [] rfl ?_
  refine zCl_i (zEv_n (cDie hv hd hw)) (by decide) ?_
  rintro o9 h9 ⟨o0, ⟨rfl, R, rfl, sg, hv1⟩, rfl⟩
  have hE := pDie_e v d w
  generalize pDie v d w = r at hv1 hE ⊢
  obtain ⟨y | e, v1⟩ := r
  · refine mVc_i (wI_r y) ?_
    refine mVc_i (by omega) ?_
    exact ⟨R, va_up f 0 (wI y), rfl, sg, hv1, rfl, rfl⟩
  · have he := hE e rfl
    simp only [List.mem_cons, List.not_mem_nil, or_false] at he
    rcases he with rfl | rfl
    · exact ⟨R, f, rfl, sg, hv1, rfl⟩
    · exact ⟨R, f, rfl, sg, hv1, rfl⟩
theorem pHand_e (v : vV) (q w : Int) : eOk (pHand v q w) [1, 0] := by
  unfold pHand
  repeat' (first | exact eOk_l | exact eOk_r (by decide) | refine eOk_i ?_ ?_)
set_option maxHeartbeats 1000000 in
set_option maxRecDepth 100000 in
theorem lHand (hv : vX S v) {q w : Int} (hq : rI q) (hw : rI w) : zEv X 13 mL_hand [zR 0, zI q, zI w, zR 45] (cX S ++ (cM K ++ (oC f :: W))) (lTp S K W (kcd [1, 0]) wI (pHand v q w)) := by
  refine zEv_run gL_hand 60 [] rfl ?_
  refine zCl_i (zEv_n (cHand hv hq hw)) (by decide) ?_
  rintro o9 h9 ⟨o0, ⟨rfl, R, rfl, sg, hv1⟩, rfl⟩
  have hE := pHand_e v q w
  generalize pHand v q w = r at hv1 hE ⊢
  obtain ⟨y | e, v1⟩ := r
  · refine mVc_i (wI_r y) ?_
    refine mVc_i (by omega) ?_
    exact ⟨R, va_up f 0 (wI y), rfl, sg, hv1, rfl, rfl⟩
  · have he := hE e rfl
    simp only [List.mem_cons, List.not_mem_nil, or_false] at he
    rcases he with rfl | rfl
    · exact ⟨R, f, rfl, sg, hv1, rfl⟩
    · exact ⟨R, f, rfl, sg, hv1, rfl⟩
theorem pPast_e (v : vV) (k w : Int) : eOk (pPast v k w) [1, 0] := by
  unfold pPast
  repeat' (first | exact eOk_l | exact eOk_r (by decide) | refine eOk_i ?_ ?_)
set_option maxHeartbeats 1000000 in
set_option maxRecDepth 100000 in
theorem lPast (hv : vX S v) {k w : Int} (hk : rI k) (hw : rI w) : zEv X 13 mL_past [zR 0, zI k, zI w, zR 45] (cX S ++ (cM K ++ (oC f :: W))) (lTp S K W (kcd [1, 0]) wI (pPast v k w)) := by
  refine zEv_run gL_past 60 [] rfl ?_
  refine zCl_i (zEv_n (cPast hv hk hw)) (by decide) ?_
  rintro o9 h9 ⟨o0, ⟨rfl, R, rfl, sg, hv1⟩, rfl⟩
  have hE := pPast_e v k w
  generalize pPast v k w = r at hv1 hE ⊢
  obtain ⟨y | e, v1⟩ := r
  · refine mVc_i (wI_r y) ?_
    refine mVc_i (by omega) ?_
    exact ⟨R, va_up f 0 (wI y), rfl, sg, hv1, rfl, rfl⟩
  · have he := hE e rfl
    simp only [List.mem_cons, List.not_mem_nil, or_false] at he
    rcases he with rfl | rfl
    · exact ⟨R, f, rfl, sg, hv1, rfl⟩
    · exact ⟨R, f, rfl, sg, hv1, rfl⟩
theorem pEaten_e (v : vV) (d f1 m : Int) : eOk (pEaten v d f1 m) [1, 0] := by
  unfold pEaten
  repeat' (first | exact eOk_l | exact eOk_r (by decide) | refine eOk_i ?_ ?_)
set_option maxHeartbeats 1000000 in
set_option maxRecDepth 100000 in
theorem lEaten (hv : vX S v) {d f1 m : Int} (hd : rI d) (hf1 : rI f1) (hm : rI m) : zEv X 13 mL_eaten [zR 0, zI d, zI f1, zI m, zR 45] (cX S ++ (cM K ++ (oC f :: W))) (lTp S K W (kcd [1, 0]) wI (pEaten v d f1 m)) := by
  refine zEv_run gL_eaten 60 [] rfl ?_
  refine zCl_i (zEv_n (cEaten hv hd hf1 hm)) (by decide) ?_
  rintro o9 h9 ⟨o0, ⟨rfl, R, rfl, sg, hv1⟩, rfl⟩
  have hE := pEaten_e v d f1 m
  generalize pEaten v d f1 m = r at hv1 hE ⊢
  obtain ⟨y | e, v1⟩ := r
  · refine mVc_i (wI_r y) ?_
    refine mVc_i (by omega) ?_
    exact ⟨R, va_up f 0 (wI y), rfl, sg, hv1, rfl, rfl⟩
  · have he := hE e rfl
    simp only [List.mem_cons, List.not_mem_nil, or_false] at he
    rcases he with rfl | rfl
    · exact ⟨R, f, rfl, sg, hv1, rfl⟩
    · exact ⟨R, f, rfl, sg, hv1, rfl⟩
theorem pTally_e (v : vV) (d f1 : Int) : eOk (pTally v d f1) [1, 0] := by
  unfold pTally
  repeat' (first | exact eOk_l | exact eOk_r (by decide) | refine eOk_i ?_ ?_)
set_option maxHeartbeats 1000000 in
set_option maxRecDepth 100000 in
theorem lTally (hv : vX S v) {d f1 : Int} (hd : rI d) (hf1 : rI f1) : zEv X 13 mL_tally [zR 0, zI d, zI f1, zR 45] (cX S ++ (cM K ++ (oC f :: W))) (lTp S K W (kcd [1, 0]) wI (pTally v d f1)) := by
  refine zEv_run gL_tally 60 [] rfl ?_
  refine zCl_i (zEv_n (cTally hv hd hf1)) (by decide) ?_
  rintro o9 h9 ⟨o0, ⟨rfl, R, rfl, sg, hv1⟩, rfl⟩
  have hE := pTally_e v d f1
  generalize pTally v d f1 = r at hv1 hE ⊢
  obtain ⟨y | e, v1⟩ := r
  · refine mVc_i (wI_r y) ?_
    refine mVc_i (by omega) ?_
    exact ⟨R, va_up f 0 (wI y), rfl, sg, hv1, rfl, rfl⟩
  · have he := hE e rfl
    simp only [List.mem_cons, List.not_mem_nil, or_false] at he
    rcases he with rfl | rfl
    · exact ⟨R, f, rfl, sg, hv1, rfl⟩
    · exact ⟨R, f, rfl, sg, hv1, rfl⟩
theorem pSalts_e (v : vV) (d : Int) : eOk (pSalts v d) [1] := by
  unfold pSalts
  repeat' (first | exact eOk_l | exact eOk_r (by decide) | refine eOk_i ?_ ?_)
theorem pLasts_e (v : vV) (d : Int) : eOk (pLasts v d) [1] := by
  unfold pLasts
  repeat' (first | exact eOk_l | exact eOk_r (by decide) | refine eOk_i ?_ ?_)
set_option maxHeartbeats 1000000 in
set_option maxRecDepth 100000 in
theorem lLasts (hv : vX S v) {d : Int} (hd : rI d) : zEv X 13 mL_lasts [zR 0, zI d, zR 45] (cX S ++ (cM K ++ (oC f :: W))) (lTp S K W (kcd [1]) wI (pLasts v d)) := by
  refine zEv_run gL_lasts 60 [] rfl ?_
  refine zCl_i (zEv_n (cLasts hv hd)) (by decide) ?_
  rintro o9 h9 ⟨o0, ⟨rfl, R, rfl, sg, hv1⟩, rfl⟩
  have hE := pLasts_e v d
  generalize pLasts v d = r at hv1 hE ⊢
  obtain ⟨y | e, v1⟩ := r
  · refine mVc_i (wI_r y) ?_
    refine mVc_i (by omega) ?_
    exact ⟨R, va_up f 0 (wI y), rfl, sg, hv1, rfl, rfl⟩
  · have he := hE e rfl
    simp only [List.mem_cons, List.not_mem_nil, or_false] at he
    rcases he with rfl
    · exact ⟨R, f, rfl, sg, hv1, rfl⟩
theorem pLastFace_e (v : vV) (d : Int) : eOk (pLastFace v d) [1] := by
  unfold pLastFace
  repeat' (first | exact eOk_l | exact eOk_r (by decide) | refine eOk_i ?_ ?_)
set_option maxHeartbeats 1000000 in
set_option maxRecDepth 100000 in
theorem lLastFace (hv : vX S v) {d : Int} (hd : rI d) : zEv X 13 mL_lastFace [zR 0, zI d, zR 45] (cX S ++ (cM K ++ (oC f :: W))) (lTp S K W (kcd [1]) wI (pLastFace v d)) := by
  refine zEv_run gL_lastFace 60 [] rfl ?_
  refine zCl_i (zEv_n (cLastFace hv hd)) (by decide) ?_
  rintro o9 h9 ⟨o0, ⟨rfl, R, rfl, sg, hv1⟩, rfl⟩
  have hE := pLastFace_e v d
  generalize pLastFace v d = r at hv1 hE ⊢
  obtain ⟨y | e, v1⟩ := r
  · refine mVc_i (wI_r y) ?_
    refine mVc_i (by omega) ?_
    exact ⟨R, va_up f 0 (wI y), rfl, sg, hv1, rfl, rfl⟩
  · have he := hE e rfl
    simp only [List.mem_cons, List.not_mem_nil, or_false] at he
    rcases he with rfl
    · exact ⟨R, f, rfl, sg, hv1, rfl⟩
theorem pFan_e (v : vV) (q : Int) : eOk (pFan v q) [1] := by
  unfold pFan
  repeat' (first | exact eOk_l | exact eOk_r (by decide) | refine eOk_i ?_ ?_)
set_option maxHeartbeats 1000000 in
set_option maxRecDepth 100000 in
theorem lFan (hv : vX S v) {q : Int} (hq : rI q) : zEv X 13 mL_fan [zR 0, zI q, zR 45] (cX S ++ (cM K ++ (oC f :: W))) (lTp S K W (kcd [1]) wI (pFan v q)) := by
  refine zEv_run gL_fan 60 [] rfl ?_
  refine zCl_i (zEv_n (cFan hv hq)) (by decide) ?_
  rintro o9 h9 ⟨o0, ⟨rfl, R, rfl, sg, hv1⟩, rfl⟩
  have hE := pFan_e v q
  generalize pFan v q = r at hv1 hE ⊢
  obtain ⟨y | e, v1⟩ := r
  · refine mVc_i (wI_r y) ?_
    refine mVc_i (by omega) ?_
    exact ⟨R, va_up f 0 (wI y), rfl, sg, hv1, rfl, rfl⟩
  · have he := hE e rfl
    simp only [List.mem_cons, List.not_mem_nil, or_false] at he
    rcases he with rfl
    · exact ⟨R, f, rfl, sg, hv1, rfl⟩
theorem pOff_e (v : vV) (d : Int) : eOk (pOff v d) [1] := by
  unfold pOff
  repeat' (first | exact eOk_l | exact eOk_r (by decide) | refine eOk_i ?_ ?_)
set_option maxHeartbeats 1000000 in
set_option maxRecDepth 100000 in
theorem lOff (hv : vX S v) {d : Int} (hd : rI d) : zEv X 13 mL_off [zR 0, zI d, zR 45] (cX S ++ (cM K ++ (oC f :: W))) (lTp S K W (kcd [1]) wI (pOff v d)) := by
  refine zEv_run gL_off 60 [] rfl ?_
  refine zCl_i (zEv_n (cOff hv hd)) (by decide) ?_
  rintro o9 h9 ⟨o0, ⟨rfl, R, rfl, sg, hv1⟩, rfl⟩
  have hE := pOff_e v d
  generalize pOff v d = r at hv1 hE ⊢
  obtain ⟨y | e, v1⟩ := r
  · refine mVc_i (wI_r y) ?_
    refine mVc_i (by omega) ?_
    exact ⟨R, va_up f 0 (wI y), rfl, sg, hv1, rfl, rfl⟩
  · have he := hE e rfl
    simp only [List.mem_cons, List.not_mem_nil, or_false] at he
    rcases he with rfl
    · exact ⟨R, f, rfl, sg, hv1, rfl⟩
theorem pCast_e (v : vV) (d q z : Int) : eOk (pCast v d q z) [1, 2] := by
  unfold pCast
  repeat' (first | exact eOk_l | exact eOk_r (by decide) | refine eOk_i ?_ ?_)
set_option maxHeartbeats 1000000 in
set_option maxRecDepth 100000 in
theorem lCast (hv : vX S v) {d q z : Int} (hd : rI d) (hq : rI q) (hz : rI z) : zEv X 13 mL_cast [zR 0, zI d, zI q, zI z, zR 45] (cX S ++ (cM K ++ (oC f :: W))) (lTp S K W (kcd [1, 2]) wI (pCast v d q z)) := by
  refine zEv_run gL_cast 60 [] rfl ?_
  refine zCl_i (zEv_n (cCast hv hd hq hz)) (by decide) ?_
  rintro o9 h9 ⟨o0, ⟨rfl, R, rfl, sg, hv1⟩, rfl⟩
  have hE := pCast_e v d q z
  generalize pCast v d q z = r at hv1 hE ⊢
  obtain ⟨y | e, v1⟩ := r
  · refine mVc_i (wI_r y) ?_
    refine mVc_i (by omega) ?_
    exact ⟨R, va_up f 0 (wI y), rfl, sg, hv1, rfl, rfl⟩
  · have he := hE e rfl
    simp only [List.mem_cons, List.not_mem_nil, or_false] at he
    rcases he with rfl | rfl
    · exact ⟨R, f, rfl, sg, hv1, rfl⟩
    · exact ⟨R, f, rfl, sg, hv1, rfl⟩
theorem pPerform_e (v : vV) (T : tT) (x : Int) : eOk (pPerform v T x) [1, 2] := by
  unfold pPerform
  repeat' (first | exact eOk_l | exact eOk_r (by decide) | refine eOk_i ?_ ?_)
set_option maxHeartbeats 1000000 in
set_option maxRecDepth 100000 in
theorem lPerform (hv : vX S v) (hT : tX S T) {x : Int} (hx : rI x) : zEv X 13 mL_perform [zR 0, zI x, zR 45] (cX S ++ (cM K ++ (oC f :: W))) (lTp S K W (kcd [1, 2]) wI (pPerform v T x)) := by
  refine zEv_run gL_perform 60 [] rfl ?_
  refine zCl_i (zEv_n (cPerf hv hT hx)) (by decide) ?_
  rintro o9 h9 ⟨o0, ⟨rfl, R, rfl, sg, hv1⟩, rfl⟩
  have hE := pPerform_e v T x
  generalize pPerform v T x = r at hv1 hE ⊢
  obtain ⟨y | e, v1⟩ := r
  · refine mVc_i (wI_r y) ?_
    refine mVc_i (by omega) ?_
    exact ⟨R, va_up f 0 (wI y), rfl, sg, hv1, rfl, rfl⟩
  · have he := hE e rfl
    simp only [List.mem_cons, List.not_mem_nil, or_false] at he
    rcases he with rfl | rfl
    · exact ⟨R, f, rfl, sg, hv1, rfl⟩
    · exact ⟨R, f, rfl, sg, hv1, rfl⟩
theorem pBeats_e (v : vV) (a b : Int) : eOk (pBeats v a b) [1, 2] := by
  unfold pBeats
  repeat' (first | exact eOk_l | exact eOk_r (by decide) | refine eOk_i ?_ ?_)
set_option maxHeartbeats 1000000 in
set_option maxRecDepth 100000 in
theorem lBeats (hv : vX S v) {a b : Int} (ha : rI a) (hb : rI b) : zEv X 13 mL_beats [zR 0, zI a, zI b, zR 45] (cX S ++ (cM K ++ (oC f :: W))) (lTp S K W (kcd [1, 2]) wI (pBeats v a b)) := by
  refine zEv_run gL_beats 60 [] rfl ?_
  refine zCl_i (zEv_n (cBeats hv ha hb)) (by decide) ?_
  rintro o9 h9 ⟨o0, ⟨rfl, R, rfl, sg, hv1⟩, rfl⟩
  have hE := pBeats_e v a b
  generalize pBeats v a b = r at hv1 hE ⊢
  obtain ⟨y | e, v1⟩ := r
  · refine mVc_i (wI_r y) ?_
    refine mVc_i (by omega) ?_
    exact ⟨R, va_up f 0 (wI y), rfl, sg, hv1, rfl, rfl⟩
  · have he := hE e rfl
    simp only [List.mem_cons, List.not_mem_nil, or_false] at he
    rcases he with rfl | rfl
    · exact ⟨R, f, rfl, sg, hv1, rfl⟩
    · exact ⟨R, f, rfl, sg, hv1, rfl⟩
theorem pTies_e (v : vV) (a b : Int) : eOk (pTies v a b) [1, 2] := by
  unfold pTies
  repeat' (first | exact eOk_l | exact eOk_r (by decide) | refine eOk_i ?_ ?_)
set_option maxHeartbeats 1000000 in
set_option maxRecDepth 100000 in
theorem lTies (hv : vX S v) {a b : Int} (ha : rI a) (hb : rI b) : zEv X 13 mL_ties [zR 0, zI a, zI b, zR 45] (cX S ++ (cM K ++ (oC f :: W))) (lTp S K W (kcd [1, 2]) wI (pTies v a b)) := by
  refine zEv_run gL_ties 60 [] rfl ?_
  refine zCl_i (zEv_n (cTies hv ha hb)) (by decide) ?_
  rintro o9 h9 ⟨o0, ⟨rfl, R, rfl, sg, hv1⟩, rfl⟩
  have hE := pTies_e v a b
  generalize pTies v a b = r at hv1 hE ⊢
  obtain ⟨y | e, v1⟩ := r
  · refine mVc_i (wI_r y) ?_
    refine mVc_i (by omega) ?_
    exact ⟨R, va_up f 0 (wI y), rfl, sg, hv1, rfl, rfl⟩
  · have he := hE e rfl
    simp only [List.mem_cons, List.not_mem_nil, or_false] at he
    rcases he with rfl | rfl
    · exact ⟨R, f, rfl, sg, hv1, rfl⟩
    · exact ⟨R, f, rfl, sg, hv1, rfl⟩
theorem pShows_e (v : vV) (d q f1 : Int) : eOk (pShows v d q f1) [1, 0, 2] := by
  unfold pShows
  repeat' (first | exact eOk_l | exact eOk_r (by decide) | refine eOk_i ?_ ?_)
set_option maxHeartbeats 1000000 in
set_option maxRecDepth 100000 in
theorem lShows (hv : vX S v) {d q f1 : Int} (hd : rI d) (hq : rI q) (hf1 : rI f1) : zEv X 13 mL_shows [zR 0, zI d, zI q, zI f1, zR 45] (cX S ++ (cM K ++ (oC f :: W))) (lTp S K W (kcd [1, 0, 2]) wI (pShows v d q f1)) := by
  refine zEv_run gL_shows 60 [] rfl ?_
  refine zCl_i (zEv_n (cShows hv hd hq hf1)) (by decide) ?_
  rintro o9 h9 ⟨o0, ⟨rfl, R, rfl, sg, hv1⟩, rfl⟩
  have hE := pShows_e v d q f1
  generalize pShows v d q f1 = r at hv1 hE ⊢
  obtain ⟨y | e, v1⟩ := r
  · refine mVc_i (wI_r y) ?_
    refine mVc_i (by omega) ?_
    exact ⟨R, va_up f 0 (wI y), rfl, sg, hv1, rfl, rfl⟩
  · have he := hE e rfl
    simp only [List.mem_cons, List.not_mem_nil, or_false] at he
    rcases he with rfl | rfl | rfl
    · exact ⟨R, f, rfl, sg, hv1, rfl⟩
    · exact ⟨R, f, rfl, sg, hv1, rfl⟩
    · exact ⟨R, f, rfl, sg, hv1, rfl⟩
theorem pOnce_e (v : vV) (d f1 n : Int) : eOk (pOnce v d f1 n) [1, 0, 2] := by
  unfold pOnce
  repeat' (first | exact eOk_l | exact eOk_r (by decide) | refine eOk_i ?_ ?_)
set_option maxHeartbeats 1000000 in
set_option maxRecDepth 100000 in
theorem lOnce (hv : vX S v) {d f1 n : Int} (hd : rI d) (hf1 : rI f1) (hn : rI n) : zEv X 13 mL_once [zR 0, zI d, zI f1, zI n, zR 45] (cX S ++ (cM K ++ (oC f :: W))) (lTp S K W (kcd [1, 0, 2]) wJ (pOnce v d f1 n)) := by
  refine zEv_run gL_once 60 [] rfl ?_
  refine zCl_i (zEv_n (cOnce hv hd hf1 hn)) (by decide) ?_
  rintro o9 h9 ⟨o0, ⟨rfl, R, rfl, sg, hv1⟩, rfl⟩
  have hE := pOnce_e v d f1 n
  generalize pOnce v d f1 n = r at hv1 hE ⊢
  obtain ⟨y | e, v1⟩ := r
  · refine mVc_i (by omega) ?_
    exact ⟨R, va_up f 0 (wJ y), rfl, sg, hv1, rfl, rfl⟩
  · have he := hE e rfl
    simp only [List.mem_cons, List.not_mem_nil, or_false] at he
    rcases he with rfl | rfl | rfl
    · exact ⟨R, f, rfl, sg, hv1, rfl⟩
    · exact ⟨R, f, rfl, sg, hv1, rfl⟩
    · exact ⟨R, f, rfl, sg, hv1, rfl⟩
theorem pAllFaces_e (v : vV) (d n : Int) : eOk (pAllFaces v d n) [1, 0, 2] := by
  unfold pAllFaces
  repeat' (first | exact eOk_l | exact eOk_r (by decide) | refine eOk_i ?_ ?_)
set_option maxHeartbeats 1000000 in
set_option maxRecDepth 100000 in
theorem lAllFaces (hv : vX S v) {d n : Int} (hd : rI d) (hn : rI n) : zEv X 13 mL_allFaces [zR 0, zI d, zI n, zR 45] (cX S ++ (cM K ++ (oC f :: W))) (lTp S K W (kcd [1, 0, 2]) wJ (pAllFaces v d n)) := by
  refine zEv_run gL_allFaces 60 [] rfl ?_
  refine zCl_i (zEv_n (cAllFaces hv hd hn)) (by decide) ?_
  rintro o9 h9 ⟨o0, ⟨rfl, R, rfl, sg, hv1⟩, rfl⟩
  have hE := pAllFaces_e v d n
  generalize pAllFaces v d n = r at hv1 hE ⊢
  obtain ⟨y | e, v1⟩ := r
  · refine mVc_i (by omega) ?_
    exact ⟨R, va_up f 0 (wJ y), rfl, sg, hv1, rfl, rfl⟩
  · have he := hE e rfl
    simp only [List.mem_cons, List.not_mem_nil, or_false] at he
    rcases he with rfl | rfl | rfl
    · exact ⟨R, f, rfl, sg, hv1, rfl⟩
    · exact ⟨R, f, rfl, sg, hv1, rfl⟩
    · exact ⟨R, f, rfl, sg, hv1, rfl⟩
theorem pCoins_e (v : vV) (d c e1 n : Int) : eOk (pCoins v d c e1 n) [1, 0, 2] := by
  unfold pCoins
  repeat' (first | exact eOk_l | exact eOk_r (by decide) | refine eOk_i ?_ ?_)
set_option maxHeartbeats 1000000 in
set_option maxRecDepth 100000 in
theorem lCoins (hv : vX S v) {d c e1 n : Int} (hd : rI d) (hc : rI c) (he1 : rI e1) (hn : rI n) : zEv X 13 mL_coins [zR 0, zI d, zI c, zI e1, zI n, zR 45] (cX S ++ (cM K ++ (oC f :: W))) (lTp S K W (kcd [1, 0, 2]) wJ (pCoins v d c e1 n)) := by
  refine zEv_run gL_coins 60 [] rfl ?_
  refine zCl_i (zEv_n (cCoins hv hd hc he1 hn)) (by decide) ?_
  rintro o9 h9 ⟨o0, ⟨rfl, R, rfl, sg, hv1⟩, rfl⟩
  have hE := pCoins_e v d c e1 n
  generalize pCoins v d c e1 n = r at hv1 hE ⊢
  obtain ⟨y | e, v1⟩ := r
  · refine mVc_i (by omega) ?_
    exact ⟨R, va_up f 0 (wJ y), rfl, sg, hv1, rfl, rfl⟩
  · have he := hE e rfl
    simp only [List.mem_cons, List.not_mem_nil, or_false] at he
    rcases he with rfl | rfl | rfl
    · exact ⟨R, f, rfl, sg, hv1, rfl⟩
    · exact ⟨R, f, rfl, sg, hv1, rfl⟩
    · exact ⟨R, f, rfl, sg, hv1, rfl⟩
theorem pBack_e (v : vV) (n : Int) : eOk (pBack v n) [0] := by
  unfold pBack
  repeat' (first | exact eOk_l | exact eOk_r (by decide) | refine eOk_i ?_ ?_)
set_option maxHeartbeats 1000000 in
set_option maxRecDepth 100000 in
theorem lBack (hv : vX S v) {n : Int} (hn : rI n) : zEv X 13 mL_back [zR 0, zI n, zR 45] (cX S ++ (cM K ++ (oC f :: W))) (lTp S K W (kcd [0]) wI (pBack v n)) := by
  refine zEv_run gL_back 60 [] rfl ?_
  refine zCl_i (zEv_n (cBack hv hn)) (by decide) ?_
  rintro o9 h9 ⟨o0, ⟨rfl, R, rfl, sg, hv1⟩, rfl⟩
  have hE := pBack_e v n
  generalize pBack v n = r at hv1 hE ⊢
  obtain ⟨y | e, v1⟩ := r
  · refine mVc_i (wI_r y) ?_
    refine mVc_i (by omega) ?_
    exact ⟨R, va_up f 0 (wI y), rfl, sg, hv1, rfl, rfl⟩
  · have he := hE e rfl
    simp only [List.mem_cons, List.not_mem_nil, or_false] at he
    rcases he with rfl
    · exact ⟨R, f, rfl, sg, hv1, rfl⟩
theorem pAnts_e (v : vV) (m : Int) : eOk (pAnts v m) [0] := by
  unfold pAnts
  repeat' (first | exact eOk_l | exact eOk_r (by decide) | refine eOk_i ?_ ?_)
set_option maxHeartbeats 1000000 in
set_option maxRecDepth 100000 in
theorem lAnts (hv : vX S v) {m : Int} (hm : rI m) : zEv X 13 mL_ants [zR 0, zI m, zR 45] (cX S ++ (cM K ++ (oC f :: W))) (lTp S K W (kcd [0]) wI (pAnts v m)) := by
  refine zEv_run gL_ants 60 [] rfl ?_
  refine zCl_i (zEv_n (cAnts hv hm)) (by decide) ?_
  rintro o9 h9 ⟨o0, ⟨rfl, R, rfl, sg, hv1⟩, rfl⟩
  have hE := pAnts_e v m
  generalize pAnts v m = r at hv1 hE ⊢
  obtain ⟨y | e, v1⟩ := r
  · refine mVc_i (wI_r y) ?_
    refine mVc_i (by omega) ?_
    exact ⟨R, va_up f 0 (wI y), rfl, sg, hv1, rfl, rfl⟩
  · have he := hE e rfl
    simp only [List.mem_cons, List.not_mem_nil, or_false] at he
    rcases he with rfl
    · exact ⟨R, f, rfl, sg, hv1, rfl⟩
theorem pRain_e (v : vV) (n : Int) : eOk (pRain v n) [0] := by
  unfold pRain
  repeat' (first | exact eOk_l | exact eOk_r (by decide) | refine eOk_i ?_ ?_)
set_option maxHeartbeats 1000000 in
set_option maxRecDepth 100000 in
theorem lRain (hv : vX S v) {n : Int} (hn : rI n) : zEv X 13 mL_rain [zR 0, zI n, zR 45] (cX S ++ (cM K ++ (oC f :: W))) (lTp S K W (kcd [0]) wI (pRain v n)) := by
  refine zEv_run gL_rain 60 [] rfl ?_
  refine zCl_i (zEv_n (cRain hv hn)) (by decide) ?_
  rintro o9 h9 ⟨o0, ⟨rfl, R, rfl, sg, hv1⟩, rfl⟩
  have hE := pRain_e v n
  generalize pRain v n = r at hv1 hE ⊢
  obtain ⟨y | e, v1⟩ := r
  · refine mVc_i (wI_r y) ?_
    refine mVc_i (by omega) ?_
    exact ⟨R, va_up f 0 (wI y), rfl, sg, hv1, rfl, rfl⟩
  · have he := hE e rfl
    simp only [List.mem_cons, List.not_mem_nil, or_false] at he
    rcases he with rfl
    · exact ⟨R, f, rfl, sg, hv1, rfl⟩
theorem pBestSet_e (v : vV) (n s : Int) : eOk (pBestSet v n s) [0] := by
  unfold pBestSet
  repeat' (first | exact eOk_l | exact eOk_r (by decide) | refine eOk_i ?_ ?_)
set_option maxHeartbeats 1000000 in
set_option maxRecDepth 100000 in
theorem lBestSet (hv : vX S v) {n s : Int} (hn : rI n) (hs : rI s) : zEv X 13 mL_bestSet [zR 0, zI n, zI s, zR 45] (cX S ++ (cM K ++ (oC f :: W))) (lTp S K W (kcd [0]) wI (pBestSet v n s)) := by
  refine zEv_run gL_bestSet 60 [] rfl ?_
  refine zCl_i (zEv_n (cBestSet hv hn hs)) (by decide) ?_
  rintro o9 h9 ⟨o0, ⟨rfl, R, rfl, sg, hv1⟩, rfl⟩
  have hE := pBestSet_e v n s
  generalize pBestSet v n s = r at hv1 hE ⊢
  obtain ⟨y | e, v1⟩ := r
  · refine mVc_i (wI_r y) ?_
    refine mVc_i (by omega) ?_
    exact ⟨R, va_up f 0 (wI y), rfl, sg, hv1, rfl, rfl⟩
  · have he := hE e rfl
    simp only [List.mem_cons, List.not_mem_nil, or_false] at he
    rcases he with rfl
    · exact ⟨R, f, rfl, sg, hv1, rfl⟩
theorem pCannot_e (v : vV) (f1 : Int) : eOk (pCannot v f1) [0] := by
  unfold pCannot
  repeat' (first | exact eOk_l | exact eOk_r (by decide) | refine eOk_i ?_ ?_)
set_option maxHeartbeats 1000000 in
set_option maxRecDepth 100000 in
theorem lCannot (hv : vX S v) {f1 : Int} (hf1 : rI f1) : zEv X 13 mL_cannot [zR 0, zI f1, zR 45] (cX S ++ (cM K ++ (oC f :: W))) (lTp S K W (kcd [0]) wI (pCannot v f1)) := by
  refine zEv_run gL_cannot 60 [] rfl ?_
  refine zCl_i (zEv_n (cCannot hv hf1)) (by decide) ?_
  rintro o9 h9 ⟨o0, ⟨rfl, R, rfl, sg, hv1⟩, rfl⟩
  have hE := pCannot_e v f1
  generalize pCannot v f1 = r at hv1 hE ⊢
  obtain ⟨y | e, v1⟩ := r
  · refine mVc_i (wI_r y) ?_
    refine mVc_i (by omega) ?_
    exact ⟨R, va_up f 0 (wI y), rfl, sg, hv1, rfl, rfl⟩
  · have he := hE e rfl
    simp only [List.mem_cons, List.not_mem_nil, or_false] at he
    rcases he with rfl
    · exact ⟨R, f, rfl, sg, hv1, rfl⟩
theorem pStreak_e (v : vV) (f1 : Int) : eOk (pStreak v f1) [0] := by
  unfold pStreak
  repeat' (first | exact eOk_l | exact eOk_r (by decide) | refine eOk_i ?_ ?_)
set_option maxHeartbeats 1000000 in
set_option maxRecDepth 100000 in
theorem lStreak (hv : vX S v) {f1 : Int} (hf1 : rI f1) : zEv X 13 mL_streak [zR 0, zI f1, zR 45] (cX S ++ (cM K ++ (oC f :: W))) (lTp S K W (kcd [0]) wI (pStreak v f1)) := by
  refine zEv_run gL_streak 60 [] rfl ?_
  refine zCl_i (zEv_n (cStreak hv hf1)) (by decide) ?_
  rintro o9 h9 ⟨o0, ⟨rfl, R, rfl, sg, hv1⟩, rfl⟩
  have hE := pStreak_e v f1
  generalize pStreak v f1 = r at hv1 hE ⊢
  obtain ⟨y | e, v1⟩ := r
  · refine mVc_i (wI_r y) ?_
    refine mVc_i (by omega) ?_
    exact ⟨R, va_up f 0 (wI y), rfl, sg, hv1, rfl, rfl⟩
  · have he := hE e rfl
    simp only [List.mem_cons, List.not_mem_nil, or_false] at he
    rcases he with rfl
    · exact ⟨R, f, rfl, sg, hv1, rfl⟩
theorem pEvening_e (v : vV) (s n : Int) : eOk (pEvening v s n) [0, 2] := by
  unfold pEvening
  repeat' (first | exact eOk_l | exact eOk_r (by decide) | refine eOk_i ?_ ?_)
set_option maxHeartbeats 1000000 in
set_option maxRecDepth 100000 in
theorem lEvening (hv : vX S v) {s n : Int} (hs : rI s) (hn : rI n) : zEv X 13 mL_evening [zR 0, zI s, zI n, zR 45] (cX S ++ (cM K ++ (oC f :: W))) (lTp S K W (kcd [0, 2]) wI (pEvening v s n)) := by
  refine zEv_run gL_evening 60 [] rfl ?_
  refine zCl_i (zEv_n (cEvening hv hs hn)) (by decide) ?_
  rintro o9 h9 ⟨o0, ⟨rfl, R, rfl, sg, hv1⟩, rfl⟩
  have hE := pEvening_e v s n
  generalize pEvening v s n = r at hv1 hE ⊢
  obtain ⟨y | e, v1⟩ := r
  · refine mVc_i (wI_r y) ?_
    refine mVc_i (by omega) ?_
    exact ⟨R, va_up f 0 (wI y), rfl, sg, hv1, rfl, rfl⟩
  · have he := hE e rfl
    simp only [List.mem_cons, List.not_mem_nil, or_false] at he
    rcases he with rfl | rfl
    · exact ⟨R, f, rfl, sg, hv1, rfl⟩
    · exact ⟨R, f, rfl, sg, hv1, rfl⟩
theorem pWhole_e (v : vV) (x : Int) : eOk (pWhole v x) [0, 2] := by
  unfold pWhole
  repeat' (first | exact eOk_l | exact eOk_r (by decide) | refine eOk_i ?_ ?_)
set_option maxHeartbeats 1000000 in
set_option maxRecDepth 100000 in
theorem lWhole (hv : vX S v) {x : Int} (hx : rI x) : zEv X 13 mL_whole [zR 0, zI x, zR 45] (cX S ++ (cM K ++ (oC f :: W))) (lTp S K W (kcd [0, 2]) wJ (pWhole v x)) := by
  refine zEv_run gL_whole 60 [] rfl ?_
  refine zCl_i (zEv_n (cWhole hv hx)) (by decide) ?_
  rintro o9 h9 ⟨o0, ⟨rfl, R, rfl, sg, hv1⟩, rfl⟩
  have hE := pWhole_e v x
  generalize pWhole v x = r at hv1 hE ⊢
  obtain ⟨y | e, v1⟩ := r
  · refine mVc_i (by omega) ?_
    exact ⟨R, va_up f 0 (wJ y), rfl, sg, hv1, rfl, rfl⟩
  · have he := hE e rfl
    simp only [List.mem_cons, List.not_mem_nil, or_false] at he
    rcases he with rfl | rfl
    · exact ⟨R, f, rfl, sg, hv1, rfl⟩
    · exact ⟨R, f, rfl, sg, hv1, rfl⟩
theorem pSum_e (v : vV) (x s : Int) : eOk (pSum v x s) [0, 2] := by
  unfold pSum
  repeat' (first | exact eOk_l | exact eOk_r (by decide) | refine eOk_i ?_ ?_)
set_option maxHeartbeats 1000000 in
set_option maxRecDepth 100000 in
theorem lSum (hv : vX S v) {x s : Int} (hx : rI x) (hs : rI s) : zEv X 13 mL_sum [zR 0, zI x, zI s, zR 45] (cX S ++ (cM K ++ (oC f :: W))) (lTp S K W (kcd [0, 2]) wJ (pSum v x s)) := by
  refine zEv_run gL_sum 60 [] rfl ?_
  refine zCl_i (zEv_n (cSum hv hx hs)) (by decide) ?_
  rintro o9 h9 ⟨o0, ⟨rfl, R, rfl, sg, hv1⟩, rfl⟩
  have hE := pSum_e v x s
  generalize pSum v x s = r at hv1 hE ⊢
  obtain ⟨y | e, v1⟩ := r
  · refine mVc_i (by omega) ?_
    exact ⟨R, va_up f 0 (wJ y), rfl, sg, hv1, rfl, rfl⟩
  · have he := hE e rfl
    simp only [List.mem_cons, List.not_mem_nil, or_false] at he
    rcases he with rfl | rfl
    · exact ⟨R, f, rfl, sg, hv1, rfl⟩
    · exact ⟨R, f, rfl, sg, hv1, rfl⟩
theorem pLeast_e (v : vV) (x s : Int) : eOk (pLeast v x s) [0, 2] := by
  unfold pLeast
  repeat' (first | exact eOk_l | exact eOk_r (by decide) | refine eOk_i ?_ ?_)
set_option maxHeartbeats 1000000 in
set_option maxRecDepth 100000 in
theorem lLeast (hv : vX S v) {x s : Int} (hx : rI x) (hs : rI s) : zEv X 13 mL_least [zR 0, zI x, zI s, zR 45] (cX S ++ (cM K ++ (oC f :: W))) (lTp S K W (kcd [0, 2]) wJ (pLeast v x s)) := by
  refine zEv_run gL_least 60 [] rfl ?_
  refine zCl_i (zEv_n (cLeast hv hx hs)) (by decide) ?_
  rintro o9 h9 ⟨o0, ⟨rfl, R, rfl, sg, hv1⟩, rfl⟩
  have hE := pLeast_e v x s
  generalize pLeast v x s = r at hv1 hE ⊢
  obtain ⟨y | e, v1⟩ := r
  · refine mVc_i (by omega) ?_
    exact ⟨R, va_up f 0 (wJ y), rfl, sg, hv1, rfl, rfl⟩
  · have he := hE e rfl
    simp only [List.mem_cons, List.not_mem_nil, or_false] at he
    rcases he with rfl | rfl
    · exact ⟨R, f, rfl, sg, hv1, rfl⟩
    · exact ⟨R, f, rfl, sg, hv1, rfl⟩
theorem pAlike_e (v : vV) (x : Int) : eOk (pAlike v x) [0, 2] := by
  unfold pAlike
  repeat' (first | exact eOk_l | exact eOk_r (by decide) | refine eOk_i ?_ ?_)
set_option maxHeartbeats 1000000 in
set_option maxRecDepth 100000 in
theorem lAlike (hv : vX S v) {x : Int} (hx : rI x) : zEv X 13 mL_alike [zR 0, zI x, zR 45] (cX S ++ (cM K ++ (oC f :: W))) (lTp S K W (kcd [0, 2]) wJ (pAlike v x)) := by
  refine zEv_run gL_alike 60 [] rfl ?_
  refine zCl_i (zEv_n (cAlike hv hx)) (by decide) ?_
  rintro o9 h9 ⟨o0, ⟨rfl, R, rfl, sg, hv1⟩, rfl⟩
  have hE := pAlike_e v x
  generalize pAlike v x = r at hv1 hE ⊢
  obtain ⟨y | e, v1⟩ := r
  · refine mVc_i (by omega) ?_
    exact ⟨R, va_up f 0 (wJ y), rfl, sg, hv1, rfl, rfl⟩
  · have he := hE e rfl
    simp only [List.mem_cons, List.not_mem_nil, or_false] at he
    rcases he with rfl | rfl
    · exact ⟨R, f, rfl, sg, hv1, rfl⟩
    · exact ⟨R, f, rfl, sg, hv1, rfl⟩
theorem pMode_e (v : vV) (x : Int) : eOk (pMode v x) [0, 2] := by
  unfold pMode
  repeat' (first | exact eOk_l | exact eOk_r (by decide) | refine eOk_i ?_ ?_)
set_option maxHeartbeats 1000000 in
set_option maxRecDepth 100000 in
theorem lMode (hv : vX S v) {x : Int} (hx : rI x) : zEv X 13 mL_mode [zR 0, zI x, zR 45] (cX S ++ (cM K ++ (oC f :: W))) (lTp S K W (kcd [0, 2]) wI (pMode v x)) := by
  refine zEv_run gL_mode 60 [] rfl ?_
  refine zCl_i (zEv_n (cMode hv hx)) (by decide) ?_
  rintro o9 h9 ⟨o0, ⟨rfl, R, rfl, sg, hv1⟩, rfl⟩
  have hE := pMode_e v x
  generalize pMode v x = r at hv1 hE ⊢
  obtain ⟨y | e, v1⟩ := r
  · refine mVc_i (wI_r y) ?_
    refine mVc_i (by omega) ?_
    exact ⟨R, va_up f 0 (wI y), rfl, sg, hv1, rfl, rfl⟩
  · have he := hE e rfl
    simp only [List.mem_cons, List.not_mem_nil, or_false] at he
    rcases he with rfl | rfl
    · exact ⟨R, f, rfl, sg, hv1, rfl⟩
    · exact ⟨R, f, rfl, sg, hv1, rfl⟩
theorem pSums_e (v : vV) (x : Int) : eOk (pSums v x) [0, 2] := by
  unfold pSums
  repeat' (first | exact eOk_l | exact eOk_r (by decide) | refine eOk_i ?_ ?_)
set_option maxHeartbeats 1000000 in
set_option maxRecDepth 100000 in
theorem lSums (hv : vX S v) {x : Int} (hx : rI x) : zEv X 13 mL_sums [zR 0, zI x, zR 45] (cX S ++ (cM K ++ (oC f :: W))) (lTp S K W (kcd [0, 2]) wI (pSums v x)) := by
  refine zEv_run gL_sums 60 [] rfl ?_
  refine zCl_i (zEv_n (cSums hv hx)) (by decide) ?_
  rintro o9 h9 ⟨o0, ⟨rfl, R, rfl, sg, hv1⟩, rfl⟩
  have hE := pSums_e v x
  generalize pSums v x = r at hv1 hE ⊢
  obtain ⟨y | e, v1⟩ := r
  · refine mVc_i (wI_r y) ?_
    refine mVc_i (by omega) ?_
    exact ⟨R, va_up f 0 (wI y), rfl, sg, hv1, rfl, rfl⟩
  · have he := hE e rfl
    simp only [List.mem_cons, List.not_mem_nil, or_false] at he
    rcases he with rfl | rfl
    · exact ⟨R, f, rfl, sg, hv1, rfl⟩
    · exact ⟨R, f, rfl, sg, hv1, rfl⟩
theorem pMean_e (v : vV) (x w : Int) : eOk (pMean v x w) [0, 2] := by
  unfold pMean
  repeat' (first | exact eOk_l | exact eOk_r (by decide) | refine eOk_i ?_ ?_)
set_option maxHeartbeats 1000000 in
set_option maxRecDepth 100000 in
theorem lMean (hv : vX S v) {x w : Int} (hx : rI x) (hw : rI w) : zEv X 13 mL_mean [zR 0, zI x, zI w, zR 45] (cX S ++ (cM K ++ (oC f :: W))) (lTp S K W (kcd [0, 2]) wJ (pMean v x w)) := by
  refine zEv_run gL_mean 60 [] rfl ?_
  refine zCl_i (zEv_n (cMean hv hx hw)) (by decide) ?_
  rintro o9 h9 ⟨o0, ⟨rfl, R, rfl, sg, hv1⟩, rfl⟩
  have hE := pMean_e v x w
  generalize pMean v x w = r at hv1 hE ⊢
  obtain ⟨y | e, v1⟩ := r
  · refine mVc_i (by omega) ?_
    exact ⟨R, va_up f 0 (wJ y), rfl, sg, hv1, rfl, rfl⟩
  · have he := hE e rfl
    simp only [List.mem_cons, List.not_mem_nil, or_false] at he
    rcases he with rfl | rfl
    · exact ⟨R, f, rfl, sg, hv1, rfl⟩
    · exact ⟨R, f, rfl, sg, hv1, rfl⟩
theorem pUnlike_e (v : vV) (x : Int) : eOk (pUnlike v x) [0, 2] := by
  unfold pUnlike
  repeat' (first | exact eOk_l | exact eOk_r (by decide) | refine eOk_i ?_ ?_)
set_option maxHeartbeats 1000000 in
set_option maxRecDepth 100000 in
theorem lUnlike (hv : vX S v) {x : Int} (hx : rI x) : zEv X 13 mL_unlike [zR 0, zI x, zR 45] (cX S ++ (cM K ++ (oC f :: W))) (lTp S K W (kcd [0, 2]) wJ (pUnlike v x)) := by
  refine zEv_run gL_unlike 60 [] rfl ?_
  refine zCl_i (zEv_n (cUnlike hv hx)) (by decide) ?_
  rintro o9 h9 ⟨o0, ⟨rfl, R, rfl, sg, hv1⟩, rfl⟩
  have hE := pUnlike_e v x
  generalize pUnlike v x = r at hv1 hE ⊢
  obtain ⟨y | e, v1⟩ := r
  · refine mVc_i (by omega) ?_
    exact ⟨R, va_up f 0 (wJ y), rfl, sg, hv1, rfl, rfl⟩
  · have he := hE e rfl
    simp only [List.mem_cons, List.not_mem_nil, or_false] at he
    rcases he with rfl | rfl
    · exact ⟨R, f, rfl, sg, hv1, rfl⟩
    · exact ⟨R, f, rfl, sg, hv1, rfl⟩
theorem pRun_e (v : vV) (x : Int) : eOk (pRun v x) [0, 2] := by
  unfold pRun
  repeat' (first | exact eOk_l | exact eOk_r (by decide) | refine eOk_i ?_ ?_)
set_option maxHeartbeats 1000000 in
set_option maxRecDepth 100000 in
theorem lRun (hv : vX S v) {x : Int} (hx : rI x) : zEv X 13 mL_run [zR 0, zI x, zR 45] (cX S ++ (cM K ++ (oC f :: W))) (lTp S K W (kcd [0, 2]) wJ (pRun v x)) := by
  refine zEv_run gL_run 60 [] rfl ?_
  refine zCl_i (zEv_n (cRun hv hx)) (by decide) ?_
  rintro o9 h9 ⟨o0, ⟨rfl, R, rfl, sg, hv1⟩, rfl⟩
  have hE := pRun_e v x
  generalize pRun v x = r at hv1 hE ⊢
  obtain ⟨y | e, v1⟩ := r
  · refine mVc_i (by omega) ?_
    exact ⟨R, va_up f 0 (wJ y), rfl, sg, hv1, rfl, rfl⟩
  · have he := hE e rfl
    simp only [List.mem_cons, List.not_mem_nil, or_false] at he
    rcases he with rfl | rfl
    · exact ⟨R, f, rfl, sg, hv1, rfl⟩
    · exact ⟨R, f, rfl, sg, hv1, rfl⟩
theorem pJudge_e (v : vV) (T : tT) (x w : Int) : eOk (pJudge v T x w) [1, 2, 0] := by
  unfold pJudge
  repeat' (first | exact eOk_l | exact eOk_r (by decide) | refine eOk_i ?_ ?_)
set_option maxHeartbeats 1000000 in
set_option maxRecDepth 100000 in
theorem lJudge (hv : vX S v) (hT : tX S T) {x w : Int} (hx : rI x) (hw : rI w) : zEv X 13 mL_judge [zR 0, zI x, zI w, zR 45] (cX S ++ (cM K ++ (oC f :: W))) (lTp S K W (kcd [1, 2, 0]) wI (pJudge v T x w)) := by
  refine zEv_run gL_judge 60 [] rfl ?_
  refine zCl_i (zEv_n (cJudge hv hT hx hw)) (by decide) ?_
  rintro o9 h9 ⟨o0, ⟨rfl, R, rfl, sg, hv1⟩, rfl⟩
  have hE := pJudge_e v T x w
  generalize pJudge v T x w = r at hv1 hE ⊢
  obtain ⟨y | e, v1⟩ := r
  · refine mVc_i (wI_r y) ?_
    refine mVc_i (by omega) ?_
    exact ⟨R, va_up f 0 (wI y), rfl, sg, hv1, rfl, rfl⟩
  · have he := hE e rfl
    simp only [List.mem_cons, List.not_mem_nil, or_false] at he
    rcases he with rfl | rfl | rfl
    · exact ⟨R, f, rfl, sg, hv1, rfl⟩
    · exact ⟨R, f, rfl, sg, hv1, rfl⟩
    · exact ⟨R, f, rfl, sg, hv1, rfl⟩
theorem pSeries_e (v : vV) (a b n : Int) : eOk (pSeries v a b n) [1, 2, 0] := by
  unfold pSeries
  repeat' (first | exact eOk_l | exact eOk_r (by decide) | refine eOk_i ?_ ?_)
set_option maxHeartbeats 1000000 in
set_option maxRecDepth 100000 in
theorem lSeries (hv : vX S v) {a b n : Int} (ha : rI a) (hb : rI b) (hn : rI n) : zEv X 13 mL_series [zR 0, zI a, zI b, zI n, zR 45] (cX S ++ (cM K ++ (oC f :: W))) (lTp S K W (kcd [1, 2, 0]) wJ (pSeries v a b n)) := by
  refine zEv_run gL_series 60 [] rfl ?_
  refine zCl_i (zEv_n (cSeries hv ha hb hn)) (by decide) ?_
  rintro o9 h9 ⟨o0, ⟨rfl, R, rfl, sg, hv1⟩, rfl⟩
  have hE := pSeries_e v a b n
  generalize pSeries v a b n = r at hv1 hE ⊢
  obtain ⟨y | e, v1⟩ := r
  · refine mVc_i (by omega) ?_
    exact ⟨R, va_up f 0 (wJ y), rfl, sg, hv1, rfl, rfl⟩
  · have he := hE e rfl
    simp only [List.mem_cons, List.not_mem_nil, or_false] at he
    rcases he with rfl | rfl | rfl
    · exact ⟨R, f, rfl, sg, hv1, rfl⟩
    · exact ⟨R, f, rfl, sg, hv1, rfl⟩
    · exact ⟨R, f, rfl, sg, hv1, rfl⟩
theorem pMore_e (v : vV) (a b n : Int) : eOk (pMore v a b n) [1, 2, 0] := by
  unfold pMore
  repeat' (first | exact eOk_l | exact eOk_r (by decide) | refine eOk_i ?_ ?_)
set_option maxHeartbeats 1000000 in
set_option maxRecDepth 100000 in
theorem lMore (hv : vX S v) {a b n : Int} (ha : rI a) (hb : rI b) (hn : rI n) : zEv X 13 mL_more [zR 0, zI a, zI b, zI n, zR 45] (cX S ++ (cM K ++ (oC f :: W))) (lTp S K W (kcd [1, 2, 0]) wJ (pMore v a b n)) := by
  refine zEv_run gL_more 60 [] rfl ?_
  refine zCl_i (zEv_n (cMore hv ha hb hn)) (by decide) ?_
  rintro o9 h9 ⟨o0, ⟨rfl, R, rfl, sg, hv1⟩, rfl⟩
  have hE := pMore_e v a b n
  generalize pMore v a b n = r at hv1 hE ⊢
  obtain ⟨y | e, v1⟩ := r
  · refine mVc_i (by omega) ?_
    exact ⟨R, va_up f 0 (wJ y), rfl, sg, hv1, rfl, rfl⟩
  · have he := hE e rfl
    simp only [List.mem_cons, List.not_mem_nil, or_false] at he
    rcases he with rfl | rfl | rfl
    · exact ⟨R, f, rfl, sg, hv1, rfl⟩
    · exact ⟨R, f, rfl, sg, hv1, rfl⟩
    · exact ⟨R, f, rfl, sg, hv1, rfl⟩
theorem pStopping_e (v : vV) (d n w : Int) : eOk (pStopping v d n w) [1, 2, 0] := by
  unfold pStopping
  repeat' (first | exact eOk_l | exact eOk_r (by decide) | refine eOk_i ?_ ?_)
set_option maxHeartbeats 1000000 in
set_option maxRecDepth 100000 in
theorem lStopping (hv : vX S v) {d n w : Int} (hd : rI d) (hn : rI n) (hw : rI w) : zEv X 13 mL_stopping [zR 0, zI d, zI n, zI w, zR 45] (cX S ++ (cM K ++ (oC f :: W))) (lTp S K W (kcd [1, 2, 0]) wJ (pStopping v d n w)) := by
  refine zEv_run gL_stopping 60 [] rfl ?_
  refine zCl_i (zEv_n (cStopping hv hd hn hw)) (by decide) ?_
  rintro o9 h9 ⟨o0, ⟨rfl, R, rfl, sg, hv1⟩, rfl⟩
  have hE := pStopping_e v d n w
  generalize pStopping v d n w = r at hv1 hE ⊢
  obtain ⟨y | e, v1⟩ := r
  · refine mVc_i (by omega) ?_
    exact ⟨R, va_up f 0 (wJ y), rfl, sg, hv1, rfl, rfl⟩
  · have he := hE e rfl
    simp only [List.mem_cons, List.not_mem_nil, or_false] at he
    rcases he with rfl | rfl | rfl
    · exact ⟨R, f, rfl, sg, hv1, rfl⟩
    · exact ⟨R, f, rfl, sg, hv1, rfl⟩
    · exact ⟨R, f, rfl, sg, hv1, rfl⟩
theorem pLikelier_e (v : vV) (T : tT) (x : Int) : eOk (pLikelier v T x) [1, 2, 0] := by
  unfold pLikelier
  repeat' (first | exact eOk_l | exact eOk_r (by decide) | refine eOk_i ?_ ?_)
set_option maxHeartbeats 1000000 in
set_option maxRecDepth 100000 in
theorem lLikelier (hv : vX S v) (hT : tX S T) {x : Int} (hx : rI x) : zEv X 13 mL_likelier [zR 0, zI x, zR 45] (cX S ++ (cM K ++ (oC f :: W))) (lTp S K W (kcd [1, 2, 0]) wI (pLikelier v T x)) := by
  refine zEv_run gL_likelier 60 [] rfl ?_
  refine zCl_i (zEv_n (cLik hv hT hx)) (by decide) ?_
  rintro o9 h9 ⟨o0, ⟨rfl, R, rfl, sg, hv1⟩, rfl⟩
  have hE := pLikelier_e v T x
  generalize pLikelier v T x = r at hv1 hE ⊢
  obtain ⟨y | e, v1⟩ := r
  · refine mVc_i (wI_r y) ?_
    refine mVc_i (by omega) ?_
    exact ⟨R, va_up f 0 (wI y), rfl, sg, hv1, rfl, rfl⟩
  · have he := hE e rfl
    simp only [List.mem_cons, List.not_mem_nil, or_false] at he
    rcases he with rfl | rfl | rfl
    · exact ⟨R, f, rfl, sg, hv1, rfl⟩
    · exact ⟨R, f, rfl, sg, hv1, rfl⟩
    · exact ⟨R, f, rfl, sg, hv1, rfl⟩
theorem pFits_e (v : vV) (T : tT) (x : Int) : eOk (pFits v T x) [1, 2, 0] := by
  unfold pFits
  repeat' (first | exact eOk_l | exact eOk_r (by decide) | refine eOk_i ?_ ?_)
set_option maxHeartbeats 1000000 in
set_option maxRecDepth 100000 in
theorem lFits (hv : vX S v) (hT : tX S T) {x : Int} (hx : rI x) : zEv X 13 mL_fits [zR 0, zI x, zR 45] (cX S ++ (cM K ++ (oC f :: W))) (lTp S K W (kcd [1, 2, 0]) wI (pFits v T x)) := by
  refine zEv_run gL_fits 60 [] rfl ?_
  refine zCl_i (zEv_n (cFit hv hT hx)) (by decide) ?_
  rintro o9 h9 ⟨o0, ⟨rfl, R, rfl, sg, hv1⟩, rfl⟩
  have hE := pFits_e v T x
  generalize pFits v T x = r at hv1 hE ⊢
  obtain ⟨y | e, v1⟩ := r
  · refine mVc_i (wI_r y) ?_
    refine mVc_i (by omega) ?_
    exact ⟨R, va_up f 0 (wI y), rfl, sg, hv1, rfl, rfl⟩
  · have he := hE e rfl
    simp only [List.mem_cons, List.not_mem_nil, or_false] at he
    rcases he with rfl | rfl | rfl
    · exact ⟨R, f, rfl, sg, hv1, rfl⟩
    · exact ⟨R, f, rfl, sg, hv1, rfl⟩
    · exact ⟨R, f, rfl, sg, hv1, rfl⟩
theorem pWorn_e (v : vV) (T : tT) (d x tt key : Int) : eOk (pWorn v T d x tt key) [1, 2, 0] := by
  unfold pWorn
  repeat' (first | exact eOk_l | exact eOk_r (by decide) | refine eOk_i ?_ ?_)
set_option maxHeartbeats 1000000 in
set_option maxRecDepth 100000 in
theorem lWorn (hv : vX S v) (hT : tX S T) {d x tt key : Int} (hd : rI d) (hx : rI x) (htt : rI tt) (hkey : rI key) : zEv X 13 mL_worn [zR 0, zI d, zI x, zI tt, zI key, zR 45] (cX S ++ (cM K ++ (oC f :: W))) (lTp S K W (kcd [1, 2, 0]) wI (pWorn v T d x tt key)) := by
  refine zEv_run gL_worn 60 [] rfl ?_
  refine zCl_i (zEv_n (cWorn hv hT hd hx htt hkey)) (by decide) ?_
  rintro o9 h9 ⟨o0, ⟨rfl, R, rfl, sg, hv1⟩, rfl⟩
  have hE := pWorn_e v T d x tt key
  generalize pWorn v T d x tt key = r at hv1 hE ⊢
  obtain ⟨y | e, v1⟩ := r
  · refine mVc_i (wI_r y) ?_
    refine mVc_i (by omega) ?_
    exact ⟨R, va_up f 0 (wI y), rfl, sg, hv1, rfl, rfl⟩
  · have he := hE e rfl
    simp only [List.mem_cons, List.not_mem_nil, or_false] at he
    rcases he with rfl | rfl | rfl
    · exact ⟨R, f, rfl, sg, hv1, rfl⟩
    · exact ⟨R, f, rfl, sg, hv1, rfl⟩
    · exact ⟨R, f, rfl, sg, hv1, rfl⟩
end Lw
