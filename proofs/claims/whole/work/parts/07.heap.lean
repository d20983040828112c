/-! rows for fields and arrays -/
def mLk {α : Type} : List (Nat × α) → Nat → Option α
  | [], _ => none
  | q :: r, i => if q.1 = i then some q.2 else mLk r i
theorem mLk_mem {α : Type} {l : List (Nat × α)} {i : Nat} {a : α} (h : mLk l i = some a) : (i, a) ∈ l := by
  induction l with
  | nil => cases h
  | cons q r ih =>
    simp only [mLk] at h
    split at h
    · rename_i hq
      cases h
      subst hq
      exact List.mem_cons_self
    · exact List.mem_cons_of_mem _ (ih h)
def mTy (k : Nat) : Nat → FieldType := match k with
  | 0 => tyX0
  | 1 => tyX1
  | 2 => tyX2
  | 3 => tyX3
  | 4 => tyX4
  | 5 => tyX5
  | 6 => tyX6
  | 7 => tyX7
  | 8 => tyX8
  | 9 => tyX9
  | _ => tyX10
/-- a class of the worlds: its words stand in the tables, its fields' types, their names differ -/
def mClsOk (ci : Nat) (r : vw_C) : Prop := (∀ w ∈ u_ws r.1 r.2.1 r.2.2, w ∈ lw_tbl ∧ mOk w = true) ∧ (∀ k, k < r.2.2 → parseFieldDescriptor (r.2.1 k).2.2.1 = some (mTy ci k)) ∧ (∀ a, a < r.2.2 → ∀ b, b < r.2.2 → a ≠ b → (r.2.1 a).2.1 ≠ (r.2.1 b).2.1) ∧ r.1 = mNm ci
theorem mCls0 : mClsOk 0 (RX0, TX0, 1) := ⟨by decide +kernel, tyX0_ok, nmX0, rfl⟩
theorem mCls1 : mClsOk 1 (RX1, TX1, 1) := ⟨by decide +kernel, tyX1_ok, nmX1, rfl⟩
theorem mCls2 : mClsOk 2 (RX2, TX2, 8) := ⟨by decide +kernel, tyX2_ok, nmX2, rfl⟩
theorem mCls3 : mClsOk 3 (RX3, TX3, 1) := ⟨by decide +kernel, tyX3_ok, nmX3, rfl⟩
theorem mCls4 : mClsOk 4 (RX4, TX4, 4) := ⟨by decide +kernel, tyX4_ok, nmX4, rfl⟩
theorem mCls5 : mClsOk 5 (RX5, TX5, 13) := ⟨by decide +kernel, tyX5_ok, nmX5, rfl⟩
theorem mCls6 : mClsOk 6 (RX6, TX6, 2) := ⟨by decide +kernel, tyX6_ok, nmX6, rfl⟩
theorem mCls7 : mClsOk 7 (RX7, TX7, 4) := ⟨by decide +kernel, tyX7_ok, nmX7, rfl⟩
theorem mCls8 : mClsOk 8 (RX8, TX8, 3) := ⟨by decide +kernel, tyX8_ok, nmX8, rfl⟩
theorem mCls9 : mClsOk 9 (RX9, TX9, 10) := ⟨by decide +kernel, tyX9_ok, nmX9, rfl⟩
theorem mCls10 : mClsOk 10 (RX10, TX10, 27) := ⟨by decide +kernel, tyX10_ok, nmX10, rfl⟩
theorem mCls {ci : Nat} {r : vw_C} (h : vwCl[ci]? = some r) : mClsOk ci r := by
  match ci, h with
  | 0, h => cases h; exact mCls0
  | 1, h => cases h; exact mCls1
  | 2, h => cases h; exact mCls2
  | 3, h => cases h; exact mCls3
  | 4, h => cases h; exact mCls4
  | 5, h => cases h; exact mCls5
  | 6, h => cases h; exact mCls6
  | 7, h => cases h; exact mCls7
  | 8, h => cases h; exact mCls8
  | 9, h => cases h; exact mCls9
  | 10, h => cases h; exact mCls10
  | k + 11, h => simp [vwCl] at h
def mFw (oc : Nat) (q : Nat × Nat × Nat × Bool) : Bool := match vwCl[q.2.1]? with
  | some r => decide (q.2.2.1 < r.2.2) && decide ((bif q.2.2.2 then Cond.fieldLinkNest (mNm oc) q.1 (r.2.1 q.2.2.1).1 (r.2.1 q.2.2.1).2.1 (r.2.1 q.2.2.1).2.2.1 "SugarDice" else Cond.fieldLink (mNm oc) q.1 (r.2.1 q.2.2.1).1 (r.2.1 q.2.2.1).2.1 (r.2.1 q.2.2.1).2.2.1) ∈ lw_tbl)
  | none => false
theorem mFt_ok0 : ∀ q ∈ mFt0, mFw 0 q = true := by decide +kernel
theorem mFt_ok1 : ∀ q ∈ mFt1, mFw 1 q = true := by decide +kernel
theorem mFt_ok2 : ∀ q ∈ mFt2, mFw 2 q = true := by decide +kernel
theorem mFt_ok3 : ∀ q ∈ mFt3, mFw 3 q = true := by decide +kernel
theorem mFt_ok4 : ∀ q ∈ mFt4, mFw 4 q = true := by decide +kernel
theorem mFt_ok5 : ∀ q ∈ mFt5, mFw 5 q = true := by decide +kernel
theorem mFt_ok6 : ∀ q ∈ mFt6, mFw 6 q = true := by decide +kernel
theorem mFt_ok7 : ∀ q ∈ mFt7, mFw 7 q = true := by decide +kernel
theorem mFt_ok8 : ∀ q ∈ mFt8, mFw 8 q = true := by decide +kernel
theorem mFt_ok9 : ∀ q ∈ mFt9, mFw 9 q = true := by decide +kernel
theorem mFt_ok10 : ∀ q ∈ mFt10, mFw 10 q = true := by decide +kernel
theorem mFt_ok11 : ∀ q ∈ mFt11, mFw 11 q = true := by decide +kernel
theorem mFt_ok {oc : Nat} : ∀ q ∈ mFt oc, mFw oc q = true := by
  match oc with
  | 0 => exact mFt_ok0
  | 1 => exact mFt_ok1
  | 2 => exact mFt_ok2
  | 3 => exact mFt_ok3
  | 4 => exact mFt_ok4
  | 5 => exact mFt_ok5
  | 6 => exact mFt_ok6
  | 7 => exact mFt_ok7
  | 8 => exact mFt_ok8
  | 9 => exact mFt_ok9
  | 10 => exact mFt_ok10
  | 11 => exact mFt_ok11
  | k + 12 => intro q hq; cases hq
def mFit (ty : FieldType) (v : Value) : Bool := (match ty with
  | .byte => false
  | .char => false
  | .short => false
  | _ => true) && fits ty v
theorem mFit_ok {ty : FieldType} {v : Value} (ad : Nat → Nat) (h : mFit ty v = true) : narrow ty (mV ad v) = mV ad v ∧ fits ty (mV ad v) = true := by
  simp only [mFit, Bool.and_eq_true] at h
  obtain ⟨h1, h2⟩ := h
  cases ty <;> cases v <;> simp_all [fits, mV]
  all_goals first
    | rfl
    | (rcases h2 with h2 | h2 <;> subst h2 <;> decide)
section mHp
variable {X : mX} {M : mM} {d : Nat} {Q : mO → mH → Prop} {pc : Nat} {L : List (Option Value)} {st : List Value} {h : mH} {bc bs : Nat}
theorem mTlk {dA : Nat → ClassId} {t : Nat} {ty : FieldType} (h : ([.int, .long, .byte, .boolean, .object "SugarDice$Tray", .object "SugarDice$Game"] : List FieldType)[t]? = some ty) : (mT dA)[t]? = some (dA t, ty) := by
  match t, h with
  | 0, h => cases h; rfl
  | 1, h => cases h; rfl
  | 2, h => cases h; rfl
  | 3, h => cases h; rfl
  | 4, h => cases h; rfl
  | 5, h => cases h; rfl
  | k + 6, h => simp at h
theorem wp_get {k ci j idx : Nat} {nest : Bool} {fs : List Value} {v : Value} (hn : mNm M.2.2.2.2.2.1 = M.1.cls) (hd : decode M.2.1 pc = .ok (.getfield idx, 3)) (hf : mLk (mFt M.2.2.2.2.2.1) idx = some (ci, j, nest)) (hk : h[k]? = some (.inr (ci, fs))) (hv : fs[j]? = some v)
    (kk : mWP X M d Q (pc + 3) L (v :: st) h bc bs) : mWP X M d Q pc L (.ref k :: st) h bc bs := by
  intro p e R s m args below meth c H locs cells slots ad a0 n0 ls F G hl
  have hw := mFt_ok _ (mLk_mem hf)
  simp only [mFw] at hw
  split at hw
  · rename_i r hr
    simp only [Bool.and_eq_true, decide_eq_true_eq] at hw
    obtain ⟨hj, hw⟩ := hw
    have hE := F.2.2.2.2.2.2.2.2.1
    have hC := mCls hr
    have hts : ∀ w ∈ u_ws r.1 r.2.1 r.2.2, w.before args s = true := fun w hw => hE.word (hC.1 w hw).1 (hC.1 w hw).2
    have he := mW_at (ad := ad) (dA := X.2.2.1) hk
    have hv' : (fs.map (mV ad))[j]? = some (mV ad v) := by rw [List.getElem?_map, hv]; rfl
    have ho : s.vm.findClass (mNm M.2.2.2.2.2.1) = some m.cls := by rw [hn]; exact F.2.2.2.1
    cases nest with
    | true => exact va_getN (D := X.2.1) (cl := vwCl) (tys := mT X.2.2.1) (C := r.1) (T := r.2.1) (N := r.2.2) F.1 F.2.1 hts (fun w h => h) ho hE.2.1 G.1.1 k he hr j hj (hE.word hw rfl) (fun x h => h) hv' hd (kk p e R s m args below meth c H locs cells slots ad a0 n0 ls F G hl)
    | false => exact va_get (D := X.2.1) (cl := vwCl) (tys := mT X.2.2.1) (C := r.1) (T := r.2.1) (N := r.2.2) F.1 F.2.1 hts (fun w h => h) ho hE.2.1 G.1.1 k he hr j hj (hE.word hw rfl) (fun x h => h) hv' hd (kk p e R s m args below meth c H locs cells slots ad a0 n0 ls F G hl)
  · cases hw
theorem mG.set {R : Room} {s : State} {H H1 : Heap} {locs locs1 : List Loc} {cells slots k n0 : Nat} {ad a0 : Nat → Nat} {e : mE} (G : mG X h bc bs R s H locs cells slots ad a0 n0) (hP : va_P X.2.1 vwCl ((mW ad X.2.2.1 h).set k (ad k, mC ad X.2.2.1 e)) H1) (hD : va_D (mB X) ((mW ad X.2.2.1 h).set k (ad k, mC ad X.2.2.1 e))) (hS : va_S (mB X) s.heap H1 locs1) : mG X (h.set k e) bc bs R s H1 locs1 cells slots ad a0 n0 := by
  rw [mW_set] at hP hD
  exact ⟨⟨hP, hD, G.1.2.2⟩, hS, G.2.2.1, by rw [List.length_set]; exact G.2.2.2.1, G.2.2.2.2.1, G.2.2.2.2.2⟩
theorem wp_put {k ci j idx : Nat} {nest : Bool} {fs : List Value} {v : Value} {r : vw_C} (hn : mNm M.2.2.2.2.2.1 = M.1.cls) (hd : decode M.2.1 pc = .ok (.putfield idx, 3)) (hf : mLk (mFt M.2.2.2.2.2.1) idx = some (ci, j, nest)) (hk : h[k]? = some (.inr (ci, fs))) (hj : j < fs.length) (hr : vwCl[ci]? = some r) (hfin : (r.2.1 j).2.2.2 = false ∨ ((r.2.1 j).2.2.2 = true ∧ M.1.name = "<init>" ∧ (r.2.1 j).1 = mNm M.2.2.2.2.2.1 ∧ nest = false)) (hfit : mFit (mTy ci j) v = true)
    (kk : mWP X M d Q (pc + 3) L st (h.set k (.inr (ci, fs.set j v))) bc bs) : mWP X M d Q pc L (v :: .ref k :: st) h bc bs := by
  intro p e R s m args below meth c H locs cells slots ad a0 n0 ls F G hl
  have hw := mFt_ok _ (mLk_mem hf)
  simp only [mFw] at hw
  rw [hr] at hw
  simp only [Bool.and_eq_true, decide_eq_true_eq] at hw
  obtain ⟨hj2, hw⟩ := hw
  have hE := F.2.2.2.2.2.2.2.2.1
  have hC := mCls hr
  have hts : ∀ w ∈ u_ws r.1 r.2.1 r.2.2, w.before args s = true := fun w hw => hE.word (hC.1 w hw).1 (hC.1 w hw).2
  have he := mW_at (ad := ad) (dA := X.2.2.1) hk
  have ho : s.vm.findClass (mNm M.2.2.2.2.2.1) = some m.cls := by rw [hn]; exact F.2.2.2.1
  have hq := mFit_ok ad hfit
  have e1 : ((fs.map (mV ad)).set j (mV ad v)) = (fs.set j v).map (mV ad) := by rw [List.map_set]
  have go : ∀ (H1 : Heap) (locs1 : List Loc), va_P X.2.1 vwCl ((mW ad X.2.2.1 h).set k (ad k, .inr (ci, (fs.map (mV ad)).set j (mV ad v)))) H1 → va_D (mB X) ((mW ad X.2.2.1 h).set k (ad k, .inr (ci, (fs.map (mV ad)).set j (mV ad v)))) → va_S (mB X) s.heap H1 locs1 → W p X.1 e R s m args below meth c H1 locs1 cells slots (vx_MQ below (mQc X a0 n0 Q) (mXC X a0 n0 Q) args s R.cells R.slots (mB X)) (F0 m (pc + 3) ls (st.map (mV ad))) := by
    intro H1 locs1 h1 h2 h3
    rw [e1] at h1 h2
    exact kk p e R s m args below meth c H1 locs1 cells slots ad a0 n0 ls F (G.set (e := .inr (ci, fs.set j v)) h1 h2 h3) hl
  rcases hfin with hfin | ⟨hfin, hin, hdc, rfl⟩
  · cases nest with
    | true => exact va_putN (D := X.2.1) (cl := vwCl) (tys := mT X.2.2.1) (C := r.1) (T := r.2.1) (N := r.2.2) F.1 F.2.1 hts (fun w h => h) (mTy ci) hC.2.1 hC.2.2.1 ho hE.2.1 G.1.1 G.1.2.1 G.2.1 k he hr j hj2 (hE.word hw rfl) (fun x h => h) hfin (hC.2.1 j hj2) hq.1 hq.2 (by rw [List.length_map]; exact hj) hd go
    | false => exact va_put (D := X.2.1) (cl := vwCl) (tys := mT X.2.2.1) (C := r.1) (T := r.2.1) (N := r.2.2) F.1 F.2.1 hts (fun w h => h) (mTy ci) hC.2.1 hC.2.2.1 ho hE.2.1 G.1.1 G.1.2.1 G.2.1 k he hr j hj2 (hE.word hw rfl) (fun x h => h) hfin (hC.2.1 j hj2) hq.1 hq.2 (by rw [List.length_map]; exact hj) hd go
  · exact va_putF (D := X.2.1) (cl := vwCl) (tys := mT X.2.2.1) (C := r.1) (T := r.2.1) (N := r.2.2) F.1 F.2.1 hts (fun w h => h) (mTy ci) hC.2.1 hC.2.2.1 ho hE.2.1 G.1.1 G.1.2.1 G.2.1 k he hr j hj2 (hE.word hw rfl) (fun x h => h) hfin (by rw [F.2.2.2.2.2.2.2.1]; exact hin) hdc (hC.2.1 j hj2) hq.1 hq.2 (by rw [List.length_map]; exact hj) hd go
theorem wp_iald {k n : Nat} {f : Nat → Int32} {i : Int32} (hd : decode M.2.1 pc = .ok (.iaload, 1)) (hk : h[k]? = some (.inl (0, n, .inl f))) (hi : vp_in i n) (kk : mWP X M d Q (pc + 1) L (.int (f i.toNatClampNeg) :: st) h bc bs) : mWP X M d Q pc L (.int i :: .ref k :: st) h bc bs := by
  intro p e R s m args below meth c H locs cells slots ad a0 n0 ls F G hl
  exact va_iald F.1 F.2.1 F.2.2.2.2.2.2.2.2.1.2.1 G.1.1 k 0 (mW_at hk) (mTlk rfl) hi hd (kk p e R s m args below meth c H locs cells slots ad a0 n0 ls F G hl)
theorem wp_sald {i : Int32} (hd : decode M.2.1 pc = .ok (.iaload, 1)) (hi : vp_in i X.2.2.2.2.2.1) (kk : mWP X M d Q (pc + 1) L (.int (X.2.2.2.2.2.2 i.toNatClampNeg) :: st) h bc bs) : mWP X M d Q pc L (.int i :: .ref (mSB + 500) :: st) h bc bs := by
  intro p e R s m args below meth c H locs cells slots ad a0 n0 ls F G hl
  have hE := F.2.2.2.2.2.2.2.2.1
  have e1 : mV ad (.ref (mSB + 500)) = .ref (X.2.2.2.2.1 500) := by show Value.ref (ad (mSB + 500)) = _; rw [G.1.2.2]
  have hX := hE.2.2.2.2.2.2.2.2.2.2.2.2
  have hz := hE.2.2.2.2.2.2.2.2.2.2.1
  show W p X.1 e R s m args below meth c H locs cells slots _ (F0 m pc ls (.int i :: mV ad (.ref (mSB + 500)) :: st.map (mV ad)))
  rw [e1]
  exact va_sld (A := mB X) F.1 F.2.1 hX.1 (Nat.lt_of_lt_of_le hX.2.1 hz) (Nat.not_le.mpr hX.2.1) G.2.1 hi hd (kk p e R s m args below meth c H locs cells slots ad a0 n0 ls F G hl)
theorem wp_slen (hd : decode M.2.1 pc = .ok (.arraylength, 1)) (kk : mWP X M d Q (pc + 1) L (.int (nI X.2.2.2.2.2.1) :: st) h bc bs) : mWP X M d Q pc L (.ref (mSB + 500) :: st) h bc bs := by
  intro p e R s m args below meth c H locs cells slots ad a0 n0 ls F G hl
  have hE := F.2.2.2.2.2.2.2.2.1
  have e1 : mV ad (.ref (mSB + 500)) = .ref (X.2.2.2.2.1 500) := by show Value.ref (ad (mSB + 500)) = _; rw [G.1.2.2]
  have hX := hE.2.2.2.2.2.2.2.2.2.2.2.2
  have hz := hE.2.2.2.2.2.2.2.2.2.2.1
  show W p X.1 e R s m args below meth c H locs cells slots _ (F0 m pc ls (mV ad (.ref (mSB + 500)) :: st.map (mV ad)))
  rw [e1]
  exact va_slen (A := mB X) F.1 F.2.1 hX.1 (Nat.lt_of_lt_of_le hX.2.1 hz) (Nat.not_le.mpr hX.2.1) G.2.1 hd (kk p e R s m args below meth c H locs cells slots ad a0 n0 ls F G hl)
theorem wp_lald {k n : Nat} {f : Nat → Int64} {i : Int32} (hd : decode M.2.1 pc = .ok (.laload, 1)) (hk : h[k]? = some (.inl (1, n, .inr (.inl f)))) (hi : vp_in i n) (kk : mWP X M d Q (pc + 1) L (.long (f i.toNatClampNeg) :: st) h bc bs) : mWP X M d Q pc L (.int i :: .ref k :: st) h bc bs := by
  intro p e R s m args below meth c H locs cells slots ad a0 n0 ls F G hl
  exact va_lald F.1 F.2.1 F.2.2.2.2.2.2.2.2.1.2.1 G.1.1 k 1 (mW_at hk) (mTlk rfl) hi hd (kk p e R s m args below meth c H locs cells slots ad a0 n0 ls F G hl)
theorem wp_bald {k n : Nat} {f : Nat → Int32} {i : Int32} (hd : decode M.2.1 pc = .ok (.baload, 1)) (hk : h[k]? = some (.inl (2, n, .inl f))) (hi : vp_in i n) (kk : mWP X M d Q (pc + 1) L (.int (f i.toNatClampNeg) :: st) h bc bs) : mWP X M d Q pc L (.int i :: .ref k :: st) h bc bs := by
  intro p e R s m args below meth c H locs cells slots ad a0 n0 ls F G hl
  exact va_bald F.1 F.2.1 F.2.2.2.2.2.2.2.2.1.2.1 G.1.1 k 2 (mW_at hk) (mTlk rfl) hi hd (kk p e R s m args below meth c H locs cells slots ad a0 n0 ls F G hl)
theorem wp_zald {k n : Nat} {f : Nat → Int32} {i : Int32} (hd : decode M.2.1 pc = .ok (.baload, 1)) (hk : h[k]? = some (.inl (3, n, .inl f))) (hi : vp_in i n) (kk : mWP X M d Q (pc + 1) L (.int (f i.toNatClampNeg) :: st) h bc bs) : mWP X M d Q pc L (.int i :: .ref k :: st) h bc bs := by
  intro p e R s m args below meth c H locs cells slots ad a0 n0 ls F G hl
  exact va_zald F.1 F.2.1 F.2.2.2.2.2.2.2.2.1.2.1 G.1.1 k 3 (mW_at hk) (mTlk rfl) hi hd (kk p e R s m args below meth c H locs cells slots ad a0 n0 ls F G hl)
theorem mV_rf (ad : Nat → Nat) (r : Option Nat) : va_rf (r.map ad) = mV ad (va_rf r) := by cases r <;> rfl
theorem wp_aald {t k n : Nat} {C : String} {f : Nat → Option Nat} {i : Int32} (hd : decode M.2.1 pc = .ok (.aaload, 1)) (hk : h[k]? = some (.inl (t, n, .inr (.inr (.inr (.inr f)))))) (ht : ([.int, .long, .byte, .boolean, .object "SugarDice$Tray", .object "SugarDice$Game"] : List FieldType)[t]? = some (.object C)) (hi : vp_in i n) (kk : mWP X M d Q (pc + 1) L (va_rf (f i.toNatClampNeg) :: st) h bc bs) : mWP X M d Q pc L (.int i :: .ref k :: st) h bc bs := by
  intro p e R s m args below meth c H locs cells slots ad a0 n0 ls F G hl
  have k1 := kk p e R s m args below meth c H locs cells slots ad a0 n0 ls F G hl
  simp only [List.map_cons, ← mV_rf] at k1
  exact va_aldq F.1 F.2.1 F.2.2.2.2.2.2.2.2.1.2.1 G.1.1 k t (mW_at hk) (mTlk ht) hi hd k1
theorem wp_alen {t k n : Nat} {g : (Nat → Int32) ⊕ (Nat → Int64) ⊕ (Nat → UInt32) ⊕ (Nat → UInt64) ⊕ (Nat → Option Nat)} {ty : FieldType} (hd : decode M.2.1 pc = .ok (.arraylength, 1)) (hk : h[k]? = some (.inl (t, n, g))) (ht : ([.int, .long, .byte, .boolean, .object "SugarDice$Tray", .object "SugarDice$Game"] : List FieldType)[t]? = some ty) (kk : mWP X M d Q (pc + 1) L (.int (nI n) :: st) h bc bs) : mWP X M d Q pc L (.ref k :: st) h bc bs := by
  intro p e R s m args below meth c H locs cells slots ad a0 n0 ls F G hl
  exact va_alen F.1 F.2.1 F.2.2.2.2.2.2.2.2.1.2.1 G.1.1 k t (x := (n, mQ ad g)) (mW_at hk) (mTlk ht) rfl hd (kk p e R s m args below meth c H locs cells slots ad a0 n0 ls F G hl)
theorem wp_iast {k n : Nat} {f : Nat → Int32} {i x : Int32} (hd : decode M.2.1 pc = .ok (.iastore, 1)) (hk : h[k]? = some (.inl (0, n, .inl f))) (hi : vp_in i n) (kk : mWP X M d Q (pc + 1) L st (h.set k (.inl (0, n, .inl (upd f i.toNatClampNeg x)))) bc bs) : mWP X M d Q pc L (.int x :: .int i :: .ref k :: st) h bc bs := by
  intro p e R s m args below meth c H locs cells slots ad a0 n0 ls F G hl
  exact va_iast F.1 F.2.1 F.2.2.2.2.2.2.2.2.1.2.1 G.1.1 G.1.2.1 G.2.1 k 0 (mW_at hk) (mTlk rfl) hi hd (fun H1 locs1 h1 h2 h3 => kk p e R s m args below meth c H1 locs1 cells slots ad a0 n0 ls F (G.set (e := .inl (0, n, .inl (upd f i.toNatClampNeg x))) h1 h2 h3) hl)
theorem wp_last {k n : Nat} {f : Nat → Int64} {i : Int32} {x : Int64} (hd : decode M.2.1 pc = .ok (.lastore, 1)) (hk : h[k]? = some (.inl (1, n, .inr (.inl f)))) (hi : vp_in i n) (kk : mWP X M d Q (pc + 1) L st (h.set k (.inl (1, n, .inr (.inl (vp_updL f i.toNatClampNeg x))))) bc bs) : mWP X M d Q pc L (.long x :: .int i :: .ref k :: st) h bc bs := by
  intro p e R s m args below meth c H locs cells slots ad a0 n0 ls F G hl
  exact va_last F.1 F.2.1 F.2.2.2.2.2.2.2.2.1.2.1 G.1.1 G.1.2.1 G.2.1 k 1 (mW_at hk) (mTlk rfl) hi hd (fun H1 locs1 h1 h2 h3 => kk p e R s m args below meth c H1 locs1 cells slots ad a0 n0 ls F (G.set (e := .inl (1, n, .inr (.inl (vp_updL f i.toNatClampNeg x)))) h1 h2 h3) hl)
theorem wp_bast {k n : Nat} {f : Nat → Int32} {i x : Int32} (hd : decode M.2.1 pc = .ok (.bastore, 1)) (hk : h[k]? = some (.inl (2, n, .inl f))) (hi : vp_in i n) (kk : mWP X M d Q (pc + 1) L st (h.set k (.inl (2, n, .inl (upd f i.toNatClampNeg (vp_nar .byte x))))) bc bs) : mWP X M d Q pc L (.int x :: .int i :: .ref k :: st) h bc bs := by
  intro p e R s m args below meth c H locs cells slots ad a0 n0 ls F G hl
  exact va_bast F.1 F.2.1 F.2.2.2.2.2.2.2.2.1.2.1 G.1.1 G.1.2.1 G.2.1 k 2 (mW_at hk) (mTlk rfl) hi hd (fun H1 locs1 h1 h2 h3 => kk p e R s m args below meth c H1 locs1 cells slots ad a0 n0 ls F (G.set (e := .inl (2, n, .inl (upd f i.toNatClampNeg (vp_nar .byte x)))) h1 h2 h3) hl)
theorem wp_zast {k n : Nat} {f : Nat → Int32} {i x : Int32} (hd : decode M.2.1 pc = .ok (.bastore, 1)) (hk : h[k]? = some (.inl (3, n, .inl f))) (hi : vp_in i n) (kk : mWP X M d Q (pc + 1) L st (h.set k (.inl (3, n, .inl (upd f i.toNatClampNeg (vp_nar .boolean x))))) bc bs) : mWP X M d Q pc L (.int x :: .int i :: .ref k :: st) h bc bs := by
  intro p e R s m args below meth c H locs cells slots ad a0 n0 ls F G hl
  exact va_zast F.1 F.2.1 F.2.2.2.2.2.2.2.2.1.2.1 G.1.1 G.1.2.1 G.2.1 k 3 (mW_at hk) (mTlk rfl) hi hd (fun H1 locs1 h1 h2 h3 => kk p e R s m args below meth c H1 locs1 cells slots ad a0 n0 ls F (G.set (e := .inl (3, n, .inl (upd f i.toNatClampNeg (vp_nar .boolean x)))) h1 h2 h3) hl)
end mHp
