/-! rows for what is made, copied, thrown, called -/
section mAl
variable {X : mX} {M : mM} {d : Nat} {Q : mO → mH → Prop} {pc : Nat} {L : List (Option Value)} {st : List Value} {h : mH} {bc bs : Nat}
theorem wp_aast {t k n kv ci : Nat} {r : vw_C} {f : Nat → Option Nat} {fs : List Value} {i : Int32} (hd : decode M.2.1 pc = .ok (.aastore, 1)) (hk : h[k]? = some (.inl (t, n, .inr (.inr (.inr (.inr f)))))) (hv : h[kv]? = some (.inr (ci, fs))) (hr : vwCl[ci]? = some r) (ht : ([.int, .long, .byte, .boolean, .object "SugarDice$Tray", .object "SugarDice$Game"] : List FieldType)[t]? = some (.object r.1)) (hi : vp_in i n)
    (kk : mWP X M d Q (pc + 1) L st (h.set k (.inl (t, n, .inr (.inr (.inr (.inr (va_up f i.toNatClampNeg (some kv)))))))) bc bs) : mWP X M d Q pc L (.ref kv :: .int i :: .ref k :: st) h bc bs := by
  intro p e R s m args below meth c H locs cells slots ad a0 n0 ls F G hl
  have e1 : va_up (fun i => (f i).map ad) i.toNatClampNeg (some (ad kv)) = fun j => (va_up f i.toNatClampNeg (some kv) j).map ad := by
    funext j
    simp only [va_up]
    split <;> rfl
  refine va_astq F.1 F.2.1 F.2.2.2.2.2.2.2.2.1.2.1 G.1.1 G.1.2.1 G.2.1 k t kv ci (mW_at hk) (mTlk ht) (mW_at hv) hr hi hd (fun H1 locs1 h1 h2 h3 => ?_)
  rw [e1] at h1 h2
  exact kk p e R s m args below meth c H1 locs1 cells slots ad a0 n0 ls F (G.set (e := .inl (t, n, .inr (.inr (.inr (.inr (va_up f i.toNatClampNeg (some kv))))))) h1 h2 h3) hl
theorem wp_copy {k0 k1 m0 m1 idx : Nat} {f g : Nat → Int32} {sp dp n : Int32} (hn : mNm M.2.2.2.2.2.1 = M.1.cls) (hd : decode M.2.1 pc = .ok (.invokestatic idx, 3)) (hlk : Cond.methodLink (mNm M.2.2.2.2.2.1) idx arraycopyName ∈ lw_tbl) (hk0 : h[k0]? = some (.inl (0, m0, .inl f))) (hk1 : h[k1]? = some (.inl (0, m1, .inl g))) (h1 : ¬ sp < 0) (h2 : ¬ dp < 0) (h3 : ¬ n < 0) (h4 : sp.toNatClampNeg + n.toNatClampNeg ≤ m0) (h5 : dp.toNatClampNeg + n.toNatClampNeg ≤ m1) (hst : (st.map fun v => v.category).sum ≤ 8)
    (kk : mWP X M d Q (pc + 3) L st (h.set k1 (.inl (0, m1, .inl (va_cpy f g sp.toNatClampNeg dp.toNatClampNeg n.toNatClampNeg)))) bc bs) : mWP X M d Q pc L (.int n :: .int dp :: .ref k1 :: .int sp :: .ref k0 :: st) h bc bs := by
  intro p e R s m args below meth c H locs cells slots ad a0 n0 ls F G hl
  have hE := F.2.2.2.2.2.2.2.2.1
  have ho : s.vm.findClass (mNm M.2.2.2.2.2.1) = some m.cls := by rw [hn]; exact F.2.2.2.1
  have hR := F.2.2.2.2.2.2.2.2.2
  have hst' : ((st.map (mV ad)).map fun v => v.category).sum ≤ 8 := by
    rw [List.map_map]
    simpa [Function.comp_def, mV_cat] using hst
  exact va_copyi F.1 F.2.1 (by rw [F.2.2.1]; exact hl.1.symm) ho (hE.word hlk rfl) (hE.word (by decide +kernel) rfl) (hE.word (by decide +kernel) rfl) (hE.word (by decide +kernel) rfl) hE.2.1 G.1.1 G.1.2.1 G.2.1 k0 k1 0 0 (mW_at hk0) (mW_at hk1) (mTlk rfl) (mTlk rfl) rfl h1 h2 h3 h4 h5 (fun _ _ => rfl) (by omega)
    (by have e1 : nativeFrameWords "java/lang/System" "arraycopy" 5 + 11 ≤ 150 := by decide +kernel
        omega) hd (fun H1 locs1 h1 h2 h3 => kk p e R s m args below meth c H1 locs1 cells slots ad a0 n0 ls F (G.set (e := .inl (0, m1, .inl (va_cpy f g sp.toNatClampNeg dp.toNatClampNeg n.toNatClampNeg))) h1 h2 h3) hl)
/-- nothing names the cell n -/
def mNoV (n : Nat) (v : Value) : Prop := match v with
  | .ref k => k ≠ n
  | _ => True
def mNoE (n : Nat) (e : mE) : Prop := match e with
  | .inl (_, _, .inr (.inr (.inr (.inr f)))) => ∀ i, f i ≠ some n
  | .inl _ => True
  | .inr (_, fs) => ∀ v ∈ fs, mNoV n v
def mStab (h : mH) (L : List (Option Value)) (st : List Value) : Prop := (∀ e ∈ h, mNoE h.length e) ∧ (∀ o ∈ L, ∀ v, o = some v → mNoV h.length v) ∧ (∀ v ∈ st, mNoV h.length v)
def mUp (ad : Nat → Nat) (n q : Nat) : Nat → Nat := fun k => if k = n then q else ad k
theorem mUp_n (ad : Nat → Nat) (n q : Nat) : mUp ad n q n = q := by simp [mUp]
theorem mUp_o (ad : Nat → Nat) {n k : Nat} (q : Nat) (hk : k ≠ n) : mUp ad n q k = ad k := by simp [mUp, hk]
theorem mNoV.up {ad : Nat → Nat} {n q : Nat} {v : Value} (h : mNoV n v) : mV (mUp ad n q) v = mV ad v := by
  cases v <;> simp_all [mNoV, mV, mUp]
theorem mNoE.up {ad : Nat → Nat} {dA : Nat → ClassId} {n q : Nat} {e : mE} (h : mNoE n e) : mC (mUp ad n q) dA e = mC ad dA e := by
  match e, h with
  | .inl (t, l, .inr (.inr (.inr (.inr f)))), h =>
    have e1 : (fun i => (f i).map (mUp ad n q)) = fun i => (f i).map ad := by
      funext i
      cases hf : f i with
      | none => rfl
      | some k =>
        have hk : k ≠ n := fun e => h i (by rw [hf, e])
        simp [mUp, hk]
    simp only [mC, mQ, e1]
  | .inl (t, l, .inl f), _ => rfl
  | .inl (t, l, .inr (.inl f)), _ => rfl
  | .inl (t, l, .inr (.inr (.inl f))), _ => rfl
  | .inl (t, l, .inr (.inr (.inr (.inl f)))), _ => rfl
  | .inr (c, fs), h =>
    simp only [mC]
    congr 2
    exact List.map_congr_left fun v hv => (h v hv).up
theorem mW_up {ad : Nat → Nat} {dA : Nat → ClassId} {h : mH} {q : Nat} {e : mE} (hn : ∀ e ∈ h, mNoE h.length e) (he : mNoE h.length e) : mW ad dA h ++ [(q, mC ad dA e)] = mW (mUp ad h.length q) dA (h ++ [e]) := by
  apply List.ext_getElem?
  intro j
  rw [mW_get]
  have hl : (mW ad dA h).length = h.length := by simp [mW]
  by_cases hj : j < h.length
  · rw [List.getElem?_append_left (by rw [hl]; exact hj), List.getElem?_append_left hj, mW_get]
    have hm : h[j]? = some h[j] := List.getElem?_eq_getElem hj
    rw [hm]
    simp only [Option.map_some, Option.some.injEq, Prod.mk.injEq]
    exact ⟨(mUp_o ad q (by omega)).symm, ((hn _ (List.mem_of_getElem? hm)).up).symm⟩
  · by_cases hj2 : j = h.length
    · subst hj2
      rw [List.getElem?_append_right (by omega), List.getElem?_append_right (by omega)]
      simp [hl, mUp_n, he.up]
    · rw [List.getElem?_eq_none (by simp [hl]; omega), List.getElem?_eq_none (by simp; omega)]
      rfl
theorem mG.grow {R : Room} {s : State} {H H1 : Heap} {locs : List Loc} {cells slots q n0 nc ns : Nat} {ad a0 : Nat → Nat} {e : mE} (G : mG X h bc bs R s H locs cells slots ad a0 n0) (hz : h.length < mSB) (hn : ∀ e ∈ h, mNoE h.length e) (he : mNoE h.length e) (hP : va_P X.2.1 vwCl (mW ad X.2.2.1 h ++ [(q, mC ad X.2.2.1 e)]) H1) (hD : va_D (mB X) (mW ad X.2.2.1 h ++ [(q, mC ad X.2.2.1 e)])) (hS : va_S (mB X) s.heap H1 locs) (hb1 : nc ≤ bc) (hb2 : ns ≤ bs) : mG X (h ++ [e]) (bc - nc) (bs - ns) R s H1 locs (cells + nc) (slots + ns) (mUp ad h.length q) a0 n0 := by
  rw [mW_up hn he] at hP hD
  obtain ⟨g1, g2, g3, g4, g5, g6⟩ := G
  refine ⟨⟨hP, hD, fun i => ?_⟩, hS, fun k hk => ?_, by rw [List.length_append]; omega, by omega, by omega⟩
  · rw [mUp_o ad q (by simp only [mSB] at *; omega)]
    exact g1.2.2 i
  · rw [mUp_o ad q (by omega)]
    exact g3 k hk
theorem mLs.up {ad : Nat → Nat} {n q nL : Nat} {ls : Array Slot} (hl : mLs ad L nL ls) (hn : ∀ o ∈ L, ∀ v, o = some v → mNoV n v) : mLs (mUp ad n q) L nL ls := ⟨hl.1, hl.2.1, fun k v hk => by
  rw [(hn _ (List.mem_of_getElem? hk) v rfl).up]
  exact hl.2.2 k v hk⟩
theorem mSt_up {ad : Nat → Nat} {n q : Nat} (hn : ∀ v ∈ st, mNoV n v) : st.map (mV (mUp ad n q)) = st.map (mV ad) := List.map_congr_left fun v hv => (hn v hv).up
def mDf (ci N : Nat) : List Value := (List.range N).map (fun j => defaultValue (mTy ci j))
theorem mDf_no (ad : Nat → Nat) (ci N : Nat) : (mDf ci N).map (mV ad) = mDf ci N := by
  simp only [mDf, List.map_map]
  refine List.map_congr_left fun j _ => ?_
  simp only [Function.comp]
  cases mTy ci j <;> rfl
theorem wp_new {ci idx : Nat} {r : vw_C} (hn : mNm M.2.2.2.2.2.1 = M.1.cls) (hd : decode M.2.1 pc = .ok (.new idx, 3)) (hr : vwCl[ci]? = some r) (hw1 : Cond.classLink (mNm M.2.2.2.2.2.1) idx r.1 ∈ lw_tbl) (hw2 : Cond.instantiable r.1 r.2.2 ∈ lw_tbl) (hw3 : Cond.initialized r.1 ∈ lw_tbl) (hb1 : 1 ≤ bc) (hb2 : r.2.2 ≤ bs) (hz : h.length < mSB) (hs : mStab h L st)
    (kk : mWP X M d Q (pc + 3) L (.ref h.length :: st) (h ++ [.inr (ci, mDf ci r.2.2)]) (bc - 1) (bs - r.2.2)) : mWP X M d Q pc L st h bc bs := by
  intro p e R s m args below meth c H locs cells slots ad a0 n0 ls F G hl
  have hE := F.2.2.2.2.2.2.2.2.1
  have ho : s.vm.findClass (mNm M.2.2.2.2.2.1) = some m.cls := by rw [hn]; exact F.2.2.2.1
  have hC := mCls hr
  have hts : ∀ w ∈ u_ws r.1 r.2.1 r.2.2, w.before args s = true := fun w hw => hE.word (hC.1 w hw).1 (hC.1 w hw).2
  have hno : mNoE h.length (.inr (ci, mDf ci r.2.2)) := by
    intro v hv
    obtain ⟨j, -, rfl⟩ := List.mem_map.mp hv
    cases mTy ci j <;> trivial
  refine va_new (D := X.2.1) (cl := vwCl) (tys := mT X.2.2.1) (ci := ci) (C := r.1) (T := r.2.1) (N := r.2.2) (fs := mDf ci r.2.2) F.1 F.2.1 hts (fun w h => h) (mTy ci) hC.2.1 ho (hE.word hw1 rfl) (hE.word hw2 rfl) (hE.word hw3 rfl) hE.2.1 G.1.1 G.1.2.1 G.2.1 (fun q hq => Nat.le_trans hE.2.2.2.2.2.2.2.2.2.2.1 hq) hr (fun j hj => ?_) (by have := G.2.2.2.2.1; omega) (by have := G.2.2.2.2.2; omega) hd (fun q H1 h1 h2 h3 => ?_)
  · simp [vp_V, mDf, hj]
  · have e0 : (Sum.inr (ci, mDf ci r.2.2) : va_E) = mC ad X.2.2.1 (.inr (ci, mDf ci r.2.2)) := by simp only [mC, mDf_no]
    rw [e0] at h1 h2
    have k1 := kk p e R s m args below meth c H1 locs (cells + 1) (slots + r.2.2) (mUp ad h.length q) a0 n0 ls F (G.grow hz hs.1 hno h1 h2 h3 hb1 hb2) (hl.up hs.2.1)
    rw [List.map_cons, mSt_up hs.2.2] at k1
    simp only [mV, mUp_n] at k1
    exact k1
def mAt (a : ArrayType) : Option (Nat × FieldType) := match a with
  | .int => some (0, .int)
  | .long => some (1, .long)
  | .byte => some (2, .byte)
  | .boolean => some (3, .boolean)
  | _ => none
def mZr (t n : Nat) : mE := .inl (t, n, if t = 1 then .inr (.inl (fun _ => 0)) else .inl (fun _ => 0))
theorem wp_newa {a : ArrayType} {t : Nat} {ty : FieldType} {n : Int32} (hd : decode M.2.1 pc = .ok (.newarray a, 2)) (ha : mAt a = some (t, ty)) (h1 : ¬ n < 0) (h2 : n.toNatClampNeg ≤ 100000) (hb1 : 1 ≤ bc) (hb2 : n.toNatClampNeg ≤ bs) (hz : h.length < mSB) (hs : mStab h L st)
    (kk : mWP X M d Q (pc + 2) L (.ref h.length :: st) (h ++ [mZr t n.toNatClampNeg]) (bc - 1) (bs - n.toNatClampNeg)) : mWP X M d Q pc L (.int n :: st) h bc bs := by
  intro p e R s m args below meth c H locs cells slots ad a0 n0 ls F G hl
  have hE := F.2.2.2.2.2.2.2.2.1
  have hty : newarray.typeOf a = ty ∧ (mT X.2.2.1)[t]? = some (X.2.2.1 t, ty) ∧ Cond.arrayClass ty ∈ lw_tbl ∧ ty.isReference = false ∧ (ty = .long ↔ t = 1) := by
    cases a <;> simp only [mAt, Option.some.injEq, Prod.mk.injEq, reduceCtorEq] at ha <;> obtain ⟨rfl, rfl⟩ := ha
    · exact ⟨rfl, rfl, by decide +kernel, rfl, by decide⟩
    · exact ⟨rfl, rfl, by decide +kernel, rfl, by decide⟩
    · exact ⟨rfl, rfl, by decide +kernel, rfl, by decide⟩
    · exact ⟨rfl, rfl, by decide +kernel, rfl, by decide⟩
  obtain ⟨t1, t2, t3, t4, t5⟩ := hty
  have hno : mNoE h.length (mZr t n.toNatClampNeg) := by
    simp only [mZr]
    split <;> trivial
  have hcell : ∀ cA : ClassId, vp_cell cA (n.toNatClampNeg, if t = 1 then .inr (.inl (fun _ => 0)) else .inl (fun _ => 0)) = arrV cA n.toNatClampNeg (fun _ => defaultValue ty) := by
    intro cA
    cases a <;> simp only [mAt, Option.some.injEq, Prod.mk.injEq, reduceCtorEq] at ha <;> obtain ⟨rfl, rfl⟩ := ha <;> rfl
  have hcb : componentBytes ty ≤ 8 := by
    cases a <;> simp only [mAt, Option.some.injEq, Prod.mk.injEq, reduceCtorEq] at ha <;> obtain ⟨rfl, rfl⟩ := ha <;> decide
  refine va_newa (D := X.2.1) (cl := vwCl) (tys := mT X.2.2.1) (a0 := (n.toNatClampNeg, if t = 1 then .inr (.inl (fun _ => 0)) else .inl (fun _ => 0))) F.1 F.2.1 (by rw [t1]; exact hE.word t3 rfl) t1 hE.2.1 G.1.1 G.1.2.1 G.2.1 (fun q hq => Nat.le_trans hE.2.2.2.2.2.2.2.2.2.2.1 hq) hcell h1 rfl (Nat.le_trans (Nat.mul_le_mul h2 hcb) (by decide)) (by have := G.2.2.2.2.1; omega) (by have := G.2.2.2.2.2; omega) hd (fun q cA H1 hK1 g1 g2 g3 => ?_)
  have hcA : cA = X.2.2.1 t := by
    have q1 := (hE.2.1.2 t _ t2).2
    have q2 := (hK1.2 (mT X.2.2.1).length (cA, ty) (by simp)).2
    cases a <;> simp only [mAt, Option.some.injEq, Prod.mk.injEq, reduceCtorEq] at ha <;> obtain ⟨rfl, rfl⟩ := ha <;> exact Option.some.inj (q2.symm.trans q1)
  subst hcA
  have e0 : (Sum.inl (X.2.2.1 t, n.toNatClampNeg, if t = 1 then .inr (.inl (fun _ => 0)) else .inl (fun _ => 0)) : va_E) = mC ad X.2.2.1 (mZr t n.toNatClampNeg) := by
    simp only [mC, mZr]
    split <;> rfl
  rw [e0] at g1 g2
  have k1 := kk p e R s m args below meth c H1 locs (cells + 1) (slots + n.toNatClampNeg) (mUp ad h.length q) a0 n0 ls F (G.grow hz hs.1 hno g1 g2 g3 hb1 hb2) (hl.up hs.2.1)
  rw [List.map_cons, mSt_up hs.2.2] at k1
  simp only [mV, mUp_n] at k1
  exact k1
end mAl
