/-- what a method's end says -/
def mQc (X : mX) (a0 : Nat → Nat) (n0 : Nat) (Q : mO → mH → Prop) : Array Value → State → Outcome → State → Prop := fun _ st o t => ∃ (r : Option Value) (ad : Nat → Nat) (h : mH), o = .returned (r.map (mV ad)) ∧ Q (.inl r) h ∧ mWd X ad h t.heap ∧ (∀ k, k < n0 → ad k = a0 k) ∧ n0 ≤ h.length ∧ va_F (mB X) st t
def mXC (X : mX) (a0 : Nat → Nat) (n0 : Nat) (Q : mO → mH → Prop) : String → State → State → Prop := fun E st t => ∃ (n : Nat) (ad : Nat → Nat) (h : mH), E = mEx n ∧ Q (.inr n) h ∧ mWd X ad h t.heap ∧ (∀ k, k < n0 → ad k = a0 k) ∧ n0 ≤ h.length ∧ va_F (mB X) st t
def mPc (X : mX) (a0 : Nat → Nat) (as : List Value) (h : mH) : Array Value → State → Prop := fun v U => v = (as.map (mV a0)).toArray ∧ mEnv X U U.heap ∧ mWd X a0 h U.heap
def mCode (M : mM) : Cond := match M.2.2.2.2.1 with
  | [] => .code M.1 M.2.1 M.2.2.1 M.2.2.2.1
  | hh => .codeWith M.1 M.2.1 M.2.2.1 M.2.2.2.1 hh
def mRm (d : Nat) (M : mM) : Room := { frames := 8 + d, cells := M.2.2.2.2.2.2.1, slots := M.2.2.2.2.2.2.2, locals := 200 + 48 * d }
/-- a call of M with these arguments, over these cells, ends as Q says -/
def mEv (X : mX) (d : Nat) (M : mM) (as : List Value) (h : mH) (Q : mO → mH → Prop) : Prop := ∀ a0 : Nat → Nat, vx_Met X.1 M.1 [mCode M] (mRm d M) (mPc X a0 as h) (mQc X a0 h.length Q) (mXC X a0 h.length Q) M.2.2.2.2.2.2.1 M.2.2.2.2.2.2.2 (mB X)
def mLs (ad : Nat → Nat) (L : List (Option Value)) (nL : Nat) (ls : Array Slot) : Prop := ls.size = nL ∧ lv_wf ls ∧ ∀ (k : Nat) (v : Value), L[k]? = some (some v) → ls[k]? = some (.val (mV ad v))
/-- what stays while a method runs -/
def mF (X : mX) (M : mM) (d : Nat) (p : Program) (R : Room) (s : State) (m : MethodId) (meth : Method) (c : Code) : Prop := p.tables.exec = Jvm.exec ∧ c.code = M.2.1 ∧ c.maxLocals = M.2.2.1 ∧ s.vm.findClass M.1.cls = some m.cls ∧ meth.sig.returnType = M.2.2.2.1 ∧ meth.locks = false ∧ c.exceptionTable.toList = tableOf M.2.2.2.2.1 ∧ meth.name = M.1.name ∧ mEnv X s s.heap ∧ 8 + d ≤ R.frames ∧ 200 + 48 * d ≤ R.locals
/-- what changes -/
def mG (X : mX) (h : mH) (bc bs : Nat) (R : Room) (s : State) (H : Heap) (locs : List Loc) (cells slots : Nat) (ad a0 : Nat → Nat) (n0 : Nat) : Prop := mWd X ad h H ∧ va_S (mB X) s.heap H locs ∧ (∀ k, k < n0 → ad k = a0 k) ∧ n0 ≤ h.length ∧ cells + bc ≤ R.cells ∧ slots + bs ≤ R.slots
def mWP (X : mX) (M : mM) (d : Nat) (Q : mO → mH → Prop) (pc : Nat) (L : List (Option Value)) (st : List Value) (h : mH) (bc bs : Nat) : Prop :=
  ∀ (p : Program) (e : Env) (R : Room) (s : State) (m : MethodId) (args : Array Value) (below : List Frame) (meth : Method) (c : Code) (H : Heap) (locs : List Loc) (cells slots : Nat) (ad a0 : Nat → Nat) (n0 : Nat) (ls : Array Slot),
    mF X M d p R s m meth c → mG X h bc bs R s H locs cells slots ad a0 n0 → mLs ad L M.2.2.1 ls → W p X.1 e R s m args below meth c H locs cells slots (vx_MQ below (mQc X a0 n0 Q) (mXC X a0 n0 Q) args s R.cells R.slots (mB X)) (F0 m pc ls (st.map (mV ad)))
def mPr (ad : Nat → Nat) (L : List (Option Value)) : List (Nat × Value) := (List.range L.length).filterMap (fun k => match L[k]? with
  | some (some v) => some (k, mV ad v)
  | _ => none)
theorem mPr_mem {ad : Nat → Nat} {L : List (Option Value)} {q : Nat × Value} : q ∈ mPr ad L ↔ ∃ v, L[q.1]? = some (some v) ∧ q.2 = mV ad v := by
  obtain ⟨k, w⟩ := q
  simp only [mPr, List.mem_filterMap, List.mem_range]
  constructor
  · rintro ⟨j, -, hj⟩
    split at hj
    · rename_i v hv
      cases hj
      exact ⟨v, hv, rfl⟩
    · cases hj
  · rintro ⟨v, hv, rfl⟩
    refine ⟨k, (List.getElem?_eq_some_iff.mp hv).1, ?_⟩
    simp only [hv]
theorem mLs.has {ad : Nat → Nat} {L : List (Option Value)} {nL : Nat} {ls : Array Slot} (h : mLs ad L nL ls) : lv_has ls nL (mPr ad L) := ⟨h.1, h.2.1, fun q hq => by
  obtain ⟨v, h1, h2⟩ := mPr_mem.mp hq
  rw [h2]
  exact h.2.2 _ _ h1⟩
theorem mV_cat (ad : Nat → Nat) (v : Value) : (mV ad v).category = v.category := by cases v <;> rfl
def mKill (L : List (Option Value)) (i : Nat) : List (Option Value) := match i with
  | 0 => L
  | j + 1 => match L[j]? with
    | some (some (.long _)) => L.set j none
    | some (some (.double _)) => L.set j none
    | _ => L
def mSt1 (L : List (Option Value)) (i : Nat) (v : Value) : List (Option Value) := (mKill L i).set i (some v)
def mSt2 (L : List (Option Value)) (i : Nat) (v : Value) : List (Option Value) := ((mKill L i).set i (some v)).set (i + 1) none
theorem mKill_at {L : List (Option Value)} {i k : Nat} {v : Value} (h : (mKill L i)[k]? = some (some v)) : L[k]? = some (some v) ∧ ¬ (k + 1 = i ∧ v.category = 2) := by
  cases i with
  | zero => exact ⟨h, fun q => by omega⟩
  | succ j =>
    simp only [mKill] at h
    split at h
    · rename_i x hx
      rw [List.getElem?_set] at h
      by_cases hj : j = k
      · subst hj
        simp at h
      · simp only [hj, if_false] at h
        exact ⟨h, fun q => by omega⟩
    · rename_i x hx
      rw [List.getElem?_set] at h
      by_cases hj : j = k
      · subst hj
        simp at h
      · simp only [hj, if_false] at h
        exact ⟨h, fun q => by omega⟩
    · rename_i h1 h2
      refine ⟨h, fun q => ?_⟩
      have hk : k = j := by omega
      subst hk
      cases v with
      | long x => exact h1 x h
      | double x => exact h2 x h
      | _ => simp [Value.category] at q
theorem mLs.st1 {ad : Nat → Nat} {L : List (Option Value)} {nL i : Nat} {v : Value} {ls : Array Slot} (h : lv_has ls nL ((i, mV ad v) :: (mPr ad L).filter (fun q => !(q.1 == i) && !(q.1 + 1 == i && q.2.category == 2)))) : mLs ad (mSt1 L i v) nL ls := by
  obtain ⟨h1, h2, h3⟩ := h
  refine ⟨h1, h2, fun k w hk => ?_⟩
  simp only [mSt1, List.getElem?_set] at hk
  by_cases hi : i = k
  · subst hi
    simp only [if_true] at hk
    split at hk
    · cases hk
      exact h3 _ List.mem_cons_self
    · cases hk
  · simp only [hi, if_false] at hk
    obtain ⟨g1, g2⟩ := mKill_at hk
    refine h3 (k, mV ad w) (List.mem_cons_of_mem _ (List.mem_filter.mpr ⟨mPr_mem.mpr ⟨w, g1, rfl⟩, ?_⟩))
    simp only [Bool.and_eq_true, Bool.not_eq_true', beq_eq_false_iff_ne, mV_cat]
    refine ⟨fun q => hi q.symm, ?_⟩
    by_cases q : k + 1 = i
    · have g3 : ¬ w.category = 2 := fun z => g2 ⟨q, z⟩
      simp [g3]
    · simp [q]
theorem mLs.st2 {ad : Nat → Nat} {L : List (Option Value)} {nL i : Nat} {v : Value} {ls : Array Slot} (h : lv_has ls nL ((i, mV ad v) :: (mPr ad L).filter (fun q => !(q.1 == i) && (!(q.1 == i + 1) && !(q.1 + 1 == i && q.2.category == 2))))) : mLs ad (mSt2 L i v) nL ls := by
  obtain ⟨h1, h2, h3⟩ := h
  refine ⟨h1, h2, fun k w hk => ?_⟩
  simp only [mSt2, List.getElem?_set] at hk
  by_cases hi1 : i + 1 = k
  · subst hi1
    simp at hk
  · simp only [hi1, if_false] at hk
    by_cases hi : i = k
    · subst hi
      simp only [if_true] at hk
      split at hk
      · cases hk
        exact h3 _ List.mem_cons_self
      · cases hk
    · simp only [hi, if_false] at hk
      obtain ⟨g1, g2⟩ := mKill_at hk
      refine h3 (k, mV ad w) (List.mem_cons_of_mem _ (List.mem_filter.mpr ⟨mPr_mem.mpr ⟨w, g1, rfl⟩, ?_⟩))
      simp only [Bool.and_eq_true, Bool.not_eq_true', beq_eq_false_iff_ne, mV_cat]
      refine ⟨fun q => hi q.symm, fun q => hi1 q.symm, ?_⟩
      by_cases q : k + 1 = i
      · have g3 : ¬ w.category = 2 := fun z => g2 ⟨q, z⟩
        simp [g3]
      · simp [q]
section mWPs
variable {X : mX} {M : mM} {d : Nat} {Q : mO → mH → Prop} {pc : Nat} {L : List (Option Value)} {st : List Value} {h : mH} {bc bs : Nat}
theorem wp_iadd {x y : Int32} (hd : decode M.2.1 pc = .ok (.iadd, 1))  (k : mWP X M d Q (pc + 1) L (.int (x + y) :: st) h bc bs) : mWP X M d Q pc L (.int y :: .int x :: st) h bc bs := by
  intro p e R s m args below meth c H locs cells slots ad a0 n0 ls F G hl
  exact lv_iadd F.1 F.2.1 hd (k p e R s m args below meth c H locs cells slots ad a0 n0 ls F G hl)
theorem wp_isub {x y : Int32} (hd : decode M.2.1 pc = .ok (.isub, 1))  (k : mWP X M d Q (pc + 1) L (.int (x - y) :: st) h bc bs) : mWP X M d Q pc L (.int y :: .int x :: st) h bc bs := by
  intro p e R s m args below meth c H locs cells slots ad a0 n0 ls F G hl
  exact lv_isub F.1 F.2.1 hd (k p e R s m args below meth c H locs cells slots ad a0 n0 ls F G hl)
theorem wp_imul {x y : Int32} (hd : decode M.2.1 pc = .ok (.imul, 1))  (k : mWP X M d Q (pc + 1) L (.int (x * y) :: st) h bc bs) : mWP X M d Q pc L (.int y :: .int x :: st) h bc bs := by
  intro p e R s m args below meth c H locs cells slots ad a0 n0 ls F G hl
  exact lv_imul F.1 F.2.1 hd (k p e R s m args below meth c H locs cells slots ad a0 n0 ls F G hl)
theorem wp_iand {x y : Int32} (hd : decode M.2.1 pc = .ok (.iand, 1))  (k : mWP X M d Q (pc + 1) L (.int (x &&& y) :: st) h bc bs) : mWP X M d Q pc L (.int y :: .int x :: st) h bc bs := by
  intro p e R s m args below meth c H locs cells slots ad a0 n0 ls F G hl
  exact lv_iand F.1 F.2.1 hd (k p e R s m args below meth c H locs cells slots ad a0 n0 ls F G hl)
theorem wp_ior {x y : Int32} (hd : decode M.2.1 pc = .ok (.ior, 1))  (k : mWP X M d Q (pc + 1) L (.int (x ||| y) :: st) h bc bs) : mWP X M d Q pc L (.int y :: .int x :: st) h bc bs := by
  intro p e R s m args below meth c H locs cells slots ad a0 n0 ls F G hl
  exact lv_ior F.1 F.2.1 hd (k p e R s m args below meth c H locs cells slots ad a0 n0 ls F G hl)
theorem wp_ixor {x y : Int32} (hd : decode M.2.1 pc = .ok (.ixor, 1))  (k : mWP X M d Q (pc + 1) L (.int (x ^^^ y) :: st) h bc bs) : mWP X M d Q pc L (.int y :: .int x :: st) h bc bs := by
  intro p e R s m args below meth c H locs cells slots ad a0 n0 ls F G hl
  exact lv_ixor F.1 F.2.1 hd (k p e R s m args below meth c H locs cells slots ad a0 n0 ls F G hl)
theorem wp_ishl {x y : Int32} (hd : decode M.2.1 pc = .ok (.ishl, 1))  (k : mWP X M d Q (pc + 1) L (.int (x <<< (y &&& 31)) :: st) h bc bs) : mWP X M d Q pc L (.int y :: .int x :: st) h bc bs := by
  intro p e R s m args below meth c H locs cells slots ad a0 n0 ls F G hl
  exact lv_ishl F.1 F.2.1 hd (k p e R s m args below meth c H locs cells slots ad a0 n0 ls F G hl)
theorem wp_ishr {x y : Int32} (hd : decode M.2.1 pc = .ok (.ishr, 1))  (k : mWP X M d Q (pc + 1) L (.int (x >>> (y &&& 31)) :: st) h bc bs) : mWP X M d Q pc L (.int y :: .int x :: st) h bc bs := by
  intro p e R s m args below meth c H locs cells slots ad a0 n0 ls F G hl
  exact lv_ishr F.1 F.2.1 hd (k p e R s m args below meth c H locs cells slots ad a0 n0 ls F G hl)
theorem wp_ladd {x y : Int64} (hd : decode M.2.1 pc = .ok (.ladd, 1))  (k : mWP X M d Q (pc + 1) L (.long (x + y) :: st) h bc bs) : mWP X M d Q pc L (.long y :: .long x :: st) h bc bs := by
  intro p e R s m args below meth c H locs cells slots ad a0 n0 ls F G hl
  exact lv_ladd F.1 F.2.1 hd (k p e R s m args below meth c H locs cells slots ad a0 n0 ls F G hl)
theorem wp_lsub {x y : Int64} (hd : decode M.2.1 pc = .ok (.lsub, 1))  (k : mWP X M d Q (pc + 1) L (.long (x - y) :: st) h bc bs) : mWP X M d Q pc L (.long y :: .long x :: st) h bc bs := by
  intro p e R s m args below meth c H locs cells slots ad a0 n0 ls F G hl
  exact lv_lsub F.1 F.2.1 hd (k p e R s m args below meth c H locs cells slots ad a0 n0 ls F G hl)
theorem wp_lmul {x y : Int64} (hd : decode M.2.1 pc = .ok (.lmul, 1))  (k : mWP X M d Q (pc + 1) L (.long (x * y) :: st) h bc bs) : mWP X M d Q pc L (.long y :: .long x :: st) h bc bs := by
  intro p e R s m args below meth c H locs cells slots ad a0 n0 ls F G hl
  exact lv_lmul F.1 F.2.1 hd (k p e R s m args below meth c H locs cells slots ad a0 n0 ls F G hl)
theorem wp_land {x y : Int64} (hd : decode M.2.1 pc = .ok (.land, 1))  (k : mWP X M d Q (pc + 1) L (.long (x &&& y) :: st) h bc bs) : mWP X M d Q pc L (.long y :: .long x :: st) h bc bs := by
  intro p e R s m args below meth c H locs cells slots ad a0 n0 ls F G hl
  exact lv_land F.1 F.2.1 hd (k p e R s m args below meth c H locs cells slots ad a0 n0 ls F G hl)
theorem wp_lor {x y : Int64} (hd : decode M.2.1 pc = .ok (.lor, 1))  (k : mWP X M d Q (pc + 1) L (.long (x ||| y) :: st) h bc bs) : mWP X M d Q pc L (.long y :: .long x :: st) h bc bs := by
  intro p e R s m args below meth c H locs cells slots ad a0 n0 ls F G hl
  exact lv_lor F.1 F.2.1 hd (k p e R s m args below meth c H locs cells slots ad a0 n0 ls F G hl)
theorem wp_idiv {x y : Int32} (hd : decode M.2.1 pc = .ok (.idiv, 1)) (hne : ¬ y = 0) (k : mWP X M d Q (pc + 1) L (.int (x / y) :: st) h bc bs) : mWP X M d Q pc L (.int y :: .int x :: st) h bc bs := by
  intro p e R s m args below meth c H locs cells slots ad a0 n0 ls F G hl
  exact lv_idiv F.1 F.2.1 hd hne (k p e R s m args below meth c H locs cells slots ad a0 n0 ls F G hl)
theorem wp_irem {x y : Int32} (hd : decode M.2.1 pc = .ok (.irem, 1)) (hne : ¬ y = 0) (k : mWP X M d Q (pc + 1) L (.int (x - x / y * y) :: st) h bc bs) : mWP X M d Q pc L (.int y :: .int x :: st) h bc bs := by
  intro p e R s m args below meth c H locs cells slots ad a0 n0 ls F G hl
  exact lv_irem F.1 F.2.1 hd hne (k p e R s m args below meth c H locs cells slots ad a0 n0 ls F G hl)
theorem wp_ldiv {x y : Int64} (hd : decode M.2.1 pc = .ok (.ldiv, 1)) (hne : ¬ y = 0) (k : mWP X M d Q (pc + 1) L (.long (x / y) :: st) h bc bs) : mWP X M d Q pc L (.long y :: .long x :: st) h bc bs := by
  intro p e R s m args below meth c H locs cells slots ad a0 n0 ls F G hl
  exact lv_ldiv F.1 F.2.1 hd hne (k p e R s m args below meth c H locs cells slots ad a0 n0 ls F G hl)
theorem wp_lrem {x y : Int64} (hd : decode M.2.1 pc = .ok (.lrem, 1)) (hne : ¬ y = 0) (k : mWP X M d Q (pc + 1) L (.long (x - x / y * y) :: st) h bc bs) : mWP X M d Q pc L (.long y :: .long x :: st) h bc bs := by
  intro p e R s m args below meth c H locs cells slots ad a0 n0 ls F G hl
  exact lv_lrem F.1 F.2.1 hd hne (k p e R s m args below meth c H locs cells slots ad a0 n0 ls F G hl)
theorem wp_ineg {x : Int32} (hd : decode M.2.1 pc = .ok (.ineg, 1))  (k : mWP X M d Q (pc + 1) L (.int (-x) :: st) h bc bs) : mWP X M d Q pc L (.int x :: st) h bc bs := by
  intro p e R s m args below meth c H locs cells slots ad a0 n0 ls F G hl
  exact lv_ineg F.1 F.2.1 hd (k p e R s m args below meth c H locs cells slots ad a0 n0 ls F G hl)
theorem wp_i2l {x : Int32} (hd : decode M.2.1 pc = .ok (.i2l, 1))  (k : mWP X M d Q (pc + 1) L (.long x.toInt64 :: st) h bc bs) : mWP X M d Q pc L (.int x :: st) h bc bs := by
  intro p e R s m args below meth c H locs cells slots ad a0 n0 ls F G hl
  exact lv_i2l F.1 F.2.1 hd rfl (k p e R s m args below meth c H locs cells slots ad a0 n0 ls F G hl)
theorem wp_l2i {x : Int64} (hd : decode M.2.1 pc = .ok (.l2i, 1))  (k : mWP X M d Q (pc + 1) L (.int x.toInt32 :: st) h bc bs) : mWP X M d Q pc L (.long x :: st) h bc bs := by
  intro p e R s m args below meth c H locs cells slots ad a0 n0 ls F G hl
  exact lv_l2i F.1 F.2.1 hd rfl (k p e R s m args below meth c H locs cells slots ad a0 n0 ls F G hl)
theorem wp_i2b {x : Int32} (hd : decode M.2.1 pc = .ok (.i2b, 1))  (k : mWP X M d Q (pc + 1) L (.int x.toInt8.toInt32 :: st) h bc bs) : mWP X M d Q pc L (.int x :: st) h bc bs := by
  intro p e R s m args below meth c H locs cells slots ad a0 n0 ls F G hl
  exact lv_i2b F.1 F.2.1 hd rfl (k p e R s m args below meth c H locs cells slots ad a0 n0 ls F G hl)
theorem wp_i2s {x : Int32} (hd : decode M.2.1 pc = .ok (.i2s, 1))  (k : mWP X M d Q (pc + 1) L (.int x.toInt16.toInt32 :: st) h bc bs) : mWP X M d Q pc L (.int x :: st) h bc bs := by
  intro p e R s m args below meth c H locs cells slots ad a0 n0 ls F G hl
  exact lv_i2s F.1 F.2.1 hd rfl (k p e R s m args below meth c H locs cells slots ad a0 n0 ls F G hl)
theorem wp_iushr {x y : Int32} (hd : decode M.2.1 pc = .ok (.iushr, 1))  (k : mWP X M d Q (pc + 1) L (.int (x.toUInt32 >>> (y.toUInt32 &&& Int32.toUInt32 31)).toInt32 :: st) h bc bs) : mWP X M d Q pc L (.int y :: .int x :: st) h bc bs := by
  intro p e R s m args below meth c H locs cells slots ad a0 n0 ls F G hl
  exact lv_iushr F.1 F.2.1 hd rfl (k p e R s m args below meth c H locs cells slots ad a0 n0 ls F G hl)
theorem wp_lshl {x : Int64} {y : Int32} (hd : decode M.2.1 pc = .ok (.lshl, 1))  (k : mWP X M d Q (pc + 1) L (.long (x <<< (y.toInt64 &&& 63)) :: st) h bc bs) : mWP X M d Q pc L (.int y :: .long x :: st) h bc bs := by
  intro p e R s m args below meth c H locs cells slots ad a0 n0 ls F G hl
  exact lv_lshl F.1 F.2.1 hd rfl (k p e R s m args below meth c H locs cells slots ad a0 n0 ls F G hl)
theorem wp_lshr {x : Int64} {y : Int32} (hd : decode M.2.1 pc = .ok (.lshr, 1))  (k : mWP X M d Q (pc + 1) L (.long (x >>> (y.toInt64 &&& 63)) :: st) h bc bs) : mWP X M d Q pc L (.int y :: .long x :: st) h bc bs := by
  intro p e R s m args below meth c H locs cells slots ad a0 n0 ls F G hl
  exact lv_lshr F.1 F.2.1 hd rfl (k p e R s m args below meth c H locs cells slots ad a0 n0 ls F G hl)
theorem wp_lcmp {x y : Int64} (hd : decode M.2.1 pc = .ok (.lcmp, 1))  (k : mWP X M d Q (pc + 1) L (.int (lg_cmp x y) :: st) h bc bs) : mWP X M d Q pc L (.long y :: .long x :: st) h bc bs := by
  intro p e R s m args below meth c H locs cells slots ad a0 n0 ls F G hl
  exact W.lcmp F.1 F.2.1 hd (k p e R s m args below meth c H locs cells slots ad a0 n0 ls F G hl)
theorem wp_dup {v : Value} (hd : decode M.2.1 pc = .ok (.dup, 1)) (hc : v.category = 1) (k : mWP X M d Q (pc + 1) L (v :: v :: st) h bc bs) : mWP X M d Q pc L (v :: st) h bc bs := by
  intro p e R s m args below meth c H locs cells slots ad a0 n0 ls F G hl
  exact lv_dup F.1 F.2.1 hd (by rw [mV_cat]; exact hc) (k p e R s m args below meth c H locs cells slots ad a0 n0 ls F G hl)
theorem wp_pop {v : Value} (hd : decode M.2.1 pc = .ok (.pop, 1)) (hc : v.category = 1) (k : mWP X M d Q (pc + 1) L (st) h bc bs) : mWP X M d Q pc L (v :: st) h bc bs := by
  intro p e R s m args below meth c H locs cells slots ad a0 n0 ls F G hl
  exact lv_pop F.1 F.2.1 hd (by rw [mV_cat]; exact hc) (k p e R s m args below meth c H locs cells slots ad a0 n0 ls F G hl)
theorem wp_dup2_11 {v w : Value} (hd : decode M.2.1 pc = .ok (.dup2, 1)) (hc : v.category = 1) (hc2 : w.category = 1) (k : mWP X M d Q (pc + 1) L (v :: w :: v :: w :: st) h bc bs) : mWP X M d Q pc L (v :: w :: st) h bc bs := by
  intro p e R s m args below meth c H locs cells slots ad a0 n0 ls F G hl
  exact lv_dup2_11 F.1 F.2.1 hd (by rw [mV_cat]; exact hc) (by rw [mV_cat]; exact hc2) (k p e R s m args below meth c H locs cells slots ad a0 n0 ls F G hl)
theorem wp_dup2_2 {v : Value} (hd : decode M.2.1 pc = .ok (.dup2, 1)) (hc : v.category = 2) (k : mWP X M d Q (pc + 1) L (v :: v :: st) h bc bs) : mWP X M d Q pc L (v :: st) h bc bs := by
  intro p e R s m args below meth c H locs cells slots ad a0 n0 ls F G hl
  exact lv_dup2_2 F.1 F.2.1 hd (by rw [mV_cat]; exact hc) (k p e R s m args below meth c H locs cells slots ad a0 n0 ls F G hl)
theorem wp_pop2_2 {v : Value} (hd : decode M.2.1 pc = .ok (.pop2, 1)) (hc : v.category = 2) (k : mWP X M d Q (pc + 1) L (st) h bc bs) : mWP X M d Q pc L (v :: st) h bc bs := by
  intro p e R s m args below meth c H locs cells slots ad a0 n0 ls F G hl
  exact lv_pop2_2 F.1 F.2.1 hd (by rw [mV_cat]; exact hc) (k p e R s m args below meth c H locs cells slots ad a0 n0 ls F G hl)
theorem wp_iconst {n : Int} {v : Int32} (hd : decode M.2.1 pc = .ok (.iconst n, 1)) (hv : Int32.ofInt n = v) (k : mWP X M d Q (pc + 1) L (.int v :: st) h bc bs) : mWP X M d Q pc L (st) h bc bs := by
  intro p e R s m args below meth c H locs cells slots ad a0 n0 ls F G hl
  exact lv_iconst F.1 F.2.1 hd hv (k p e R s m args below meth c H locs cells slots ad a0 n0 ls F G hl)
theorem wp_bipush {n : Int} {v : Int32} (hd : decode M.2.1 pc = .ok (.bipush n, 2)) (hv : (Int8.ofInt n).toInt32 = v) (k : mWP X M d Q (pc + 2) L (.int v :: st) h bc bs) : mWP X M d Q pc L (st) h bc bs := by
  intro p e R s m args below meth c H locs cells slots ad a0 n0 ls F G hl
  exact lv_bipush F.1 F.2.1 hd hv (k p e R s m args below meth c H locs cells slots ad a0 n0 ls F G hl)
theorem wp_sipush {n : Int} {v : Int32} (hd : decode M.2.1 pc = .ok (.sipush n, 3)) (hv : (Int16.ofInt n).toInt32 = v) (k : mWP X M d Q (pc + 3) L (.int v :: st) h bc bs) : mWP X M d Q pc L (st) h bc bs := by
  intro p e R s m args below meth c H locs cells slots ad a0 n0 ls F G hl
  exact lv_sipush F.1 F.2.1 hd hv (k p e R s m args below meth c H locs cells slots ad a0 n0 ls F G hl)
theorem wp_lconst {n : Fin 2} {v : Int64} (hd : decode M.2.1 pc = .ok (.lconst n, 1)) (hv : Int64.ofNat (n : Nat) = v) (k : mWP X M d Q (pc + 1) L (.long v :: st) h bc bs) : mWP X M d Q pc L (st) h bc bs := by
  intro p e R s m args below meth c H locs cells slots ad a0 n0 ls F G hl
  exact lv_lconst F.1 F.2.1 hd hv (k p e R s m args below meth c H locs cells slots ad a0 n0 ls F G hl)
theorem wp_iload_n {j : Fin 4} {x : Int32} (hd : decode M.2.1 pc = .ok (.iload_n j, 1)) (hL : L[(j : Nat)]? = some (some (.int x))) (k : mWP X M d Q (pc + 1) L (.int x :: st) h bc bs) : mWP X M d Q pc L (st) h bc bs := by
  intro p e R s m args below meth c H locs cells slots ad a0 n0 ls F G hl
  exact lv_iload_n F.1 F.2.1 hd rfl (hl.2.2 _ _ hL) (k p e R s m args below meth c H locs cells slots ad a0 n0 ls F G hl)
theorem wp_iload {j : Nat} {x : Int32} (hd : decode M.2.1 pc = .ok (.iload j, 2)) (hL : L[j]? = some (some (.int x))) (k : mWP X M d Q (pc + 2) L (.int x :: st) h bc bs) : mWP X M d Q pc L (st) h bc bs := by
  intro p e R s m args below meth c H locs cells slots ad a0 n0 ls F G hl
  exact lv_iload F.1 F.2.1 hd (hl.2.2 _ _ hL) (k p e R s m args below meth c H locs cells slots ad a0 n0 ls F G hl)
theorem wp_lload_n {j : Fin 4} {x : Int64} (hd : decode M.2.1 pc = .ok (.lload_n j, 1)) (hL : L[(j : Nat)]? = some (some (.long x))) (k : mWP X M d Q (pc + 1) L (.long x :: st) h bc bs) : mWP X M d Q pc L (st) h bc bs := by
  intro p e R s m args below meth c H locs cells slots ad a0 n0 ls F G hl
  exact lv_lload_n F.1 F.2.1 hd rfl (hl.2.2 _ _ hL) (k p e R s m args below meth c H locs cells slots ad a0 n0 ls F G hl)
theorem wp_lload {j : Nat} {x : Int64} (hd : decode M.2.1 pc = .ok (.lload j, 2)) (hL : L[j]? = some (some (.long x))) (k : mWP X M d Q (pc + 2) L (.long x :: st) h bc bs) : mWP X M d Q pc L (st) h bc bs := by
  intro p e R s m args below meth c H locs cells slots ad a0 n0 ls F G hl
  exact lv_lload F.1 F.2.1 hd (hl.2.2 _ _ hL) (k p e R s m args below meth c H locs cells slots ad a0 n0 ls F G hl)
theorem wp_aload_n {j : Fin 4} {x : Nat} (hd : decode M.2.1 pc = .ok (.aload_n j, 1)) (hL : L[(j : Nat)]? = some (some (.ref x))) (k : mWP X M d Q (pc + 1) L (.ref x :: st) h bc bs) : mWP X M d Q pc L (st) h bc bs := by
  intro p e R s m args below meth c H locs cells slots ad a0 n0 ls F G hl
  exact lv_aload_n F.1 F.2.1 hd rfl (hl.2.2 _ _ hL) (k p e R s m args below meth c H locs cells slots ad a0 n0 ls F G hl)
theorem wp_aload {j : Nat} {x : Nat} (hd : decode M.2.1 pc = .ok (.aload j, 2)) (hL : L[j]? = some (some (.ref x))) (k : mWP X M d Q (pc + 2) L (.ref x :: st) h bc bs) : mWP X M d Q pc L (st) h bc bs := by
  intro p e R s m args below meth c H locs cells slots ad a0 n0 ls F G hl
  exact lv_aload F.1 F.2.1 hd (hl.2.2 _ _ hL) (k p e R s m args below meth c H locs cells slots ad a0 n0 ls F G hl)
theorem wp_aload_nN {j : Fin 4} (hd : decode M.2.1 pc = .ok (.aload_n j, 1)) (hL : L[(j : Nat)]? = some (some .null)) (k : mWP X M d Q (pc + 1) L (.null :: st) h bc bs) : mWP X M d Q pc L (st) h bc bs := by
  intro p e R s m args below meth c H locs cells slots ad a0 n0 ls F G hl
  exact lv_aload_nN F.1 F.2.1 hd rfl (hl.2.2 _ _ hL) (k p e R s m args below meth c H locs cells slots ad a0 n0 ls F G hl)
theorem wp_aloadN {j : Nat} (hd : decode M.2.1 pc = .ok (.aload j, 2)) (hL : L[j]? = some (some .null)) (k : mWP X M d Q (pc + 2) L (.null :: st) h bc bs) : mWP X M d Q pc L (st) h bc bs := by
  intro p e R s m args below meth c H locs cells slots ad a0 n0 ls F G hl
  exact lv_aloadN F.1 F.2.1 hd (hl.2.2 _ _ hL) (k p e R s m args below meth c H locs cells slots ad a0 n0 ls F G hl)
theorem wp_istore {j : Nat} {x : Int32} (hd : decode M.2.1 pc = .ok (.istore j, 2)) (hj : j < M.2.2.1) (k : mWP X M d Q (pc + 2) (mSt1 L j (.int x)) st h bc bs) : mWP X M d Q pc L (.int x :: st) h bc bs := by
  intro p e R s m args below meth c H locs cells slots ad a0 n0 ls F G hl
  exact lv_istore F.1 F.2.1 hd hl.has hj rfl (fun ls1 h1 => k p e R s m args below meth c H locs cells slots ad a0 n0 ls1 F G (mLs.st1 (v := .int x) h1))
theorem wp_istore_n {i : Fin 4} {j : Nat} {x : Int32} (hd : decode M.2.1 pc = .ok (.istore_n i, 1)) (hi : (i : Nat) = j) (hj : j < M.2.2.1) (k : mWP X M d Q (pc + 1) (mSt1 L j (.int x)) st h bc bs) : mWP X M d Q pc L (.int x :: st) h bc bs := by
  intro p e R s m args below meth c H locs cells slots ad a0 n0 ls F G hl
  exact lv_istore_n F.1 F.2.1 hd hi hl.has hj rfl (fun ls1 h1 => k p e R s m args below meth c H locs cells slots ad a0 n0 ls1 F G (mLs.st1 (v := .int x) h1))
theorem wp_lstore {j : Nat} {x : Int64} (hd : decode M.2.1 pc = .ok (.lstore j, 2)) (hj : j + 1 < M.2.2.1) (k : mWP X M d Q (pc + 2) (mSt2 L j (.long x)) st h bc bs) : mWP X M d Q pc L (.long x :: st) h bc bs := by
  intro p e R s m args below meth c H locs cells slots ad a0 n0 ls F G hl
  exact lv_lstore F.1 F.2.1 hd hl.has hj rfl (fun ls1 h1 => k p e R s m args below meth c H locs cells slots ad a0 n0 ls1 F G (mLs.st2 (v := .long x) h1))
theorem wp_lstore_n {i : Fin 4} {j : Nat} {x : Int64} (hd : decode M.2.1 pc = .ok (.lstore_n i, 1)) (hi : (i : Nat) = j) (hj : j + 1 < M.2.2.1) (k : mWP X M d Q (pc + 1) (mSt2 L j (.long x)) st h bc bs) : mWP X M d Q pc L (.long x :: st) h bc bs := by
  intro p e R s m args below meth c H locs cells slots ad a0 n0 ls F G hl
  exact lv_lstore_n F.1 F.2.1 hd hi hl.has hj rfl (fun ls1 h1 => k p e R s m args below meth c H locs cells slots ad a0 n0 ls1 F G (mLs.st2 (v := .long x) h1))
theorem wp_astore {j : Nat} {x : Nat} (hd : decode M.2.1 pc = .ok (.astore j, 2)) (hj : j < M.2.2.1) (k : mWP X M d Q (pc + 2) (mSt1 L j (.ref x)) st h bc bs) : mWP X M d Q pc L (.ref x :: st) h bc bs := by
  intro p e R s m args below meth c H locs cells slots ad a0 n0 ls F G hl
  exact lv_astore F.1 F.2.1 hd hl.has hj rfl (fun ls1 h1 => k p e R s m args below meth c H locs cells slots ad a0 n0 ls1 F G (mLs.st1 (v := .ref x) h1))
theorem wp_astore_n {i : Fin 4} {j : Nat} {x : Nat} (hd : decode M.2.1 pc = .ok (.astore_n i, 1)) (hi : (i : Nat) = j) (hj : j < M.2.2.1) (k : mWP X M d Q (pc + 1) (mSt1 L j (.ref x)) st h bc bs) : mWP X M d Q pc L (.ref x :: st) h bc bs := by
  intro p e R s m args below meth c H locs cells slots ad a0 n0 ls F G hl
  exact lv_astore_n F.1 F.2.1 hd hi hl.has hj rfl (fun ls1 h1 => k p e R s m args below meth c H locs cells slots ad a0 n0 ls1 F G (mLs.st1 (v := .ref x) h1))
theorem wp_iinc {j : Nat} {n : Int} {x v : Int32} (hd : decode M.2.1 pc = .ok (.iinc j n, 3)) (hL : L[j]? = some (some (.int x))) (hv : x + Int32.ofInt n = v) (hj : j < M.2.2.1) (k : mWP X M d Q (pc + 3) (mSt1 L j (.int v)) st h bc bs) : mWP X M d Q pc L st h bc bs := by
  intro p e R s m args below meth c H locs cells slots ad a0 n0 ls F G hl
  obtain ⟨q, hq⟩ := List.getElem?_of_mem (mPr_mem.mpr ⟨_, hL, rfl⟩ : (j, mV ad (.int x)) ∈ mPr ad L)
  exact lv_iinc F.1 F.2.1 hd hl.has hq hv hj rfl (fun ls1 h1 => k p e R s m args below meth c H locs cells slots ad a0 n0 ls1 F G (mLs.st1 (v := .int v) h1))
theorem wp_if_eq {x : Int32} {off : Int} {tgt : Nat} (hd : decode M.2.1 pc = .ok (.ifCond .eq off, 3)) (hg : (pc : Int) + off = (tgt : Int)) (ht : x = 0 → mWP X M d Q tgt L st h bc bs) (hf : ¬ (x = 0) → mWP X M d Q (pc + 3) L st h bc bs) : mWP X M d Q pc L (.int x :: st) h bc bs := by
  intro p e R s m args below meth c H locs cells slots ad a0 n0 ls F G hl
  exact lv_if_eq F.1 F.2.1 hd hg (fun q => ht q p e R s m args below meth c H locs cells slots ad a0 n0 ls F G hl) (fun q => hf q p e R s m args below meth c H locs cells slots ad a0 n0 ls F G hl)
theorem wp_icmp_eq {x y : Int32} {off : Int} {tgt : Nat} (hd : decode M.2.1 pc = .ok (.if_icmp .eq off, 3)) (hg : (pc : Int) + off = (tgt : Int)) (ht : x = y → mWP X M d Q tgt L st h bc bs) (hf : ¬ (x = y) → mWP X M d Q (pc + 3) L st h bc bs) : mWP X M d Q pc L (.int y :: .int x :: st) h bc bs := by
  intro p e R s m args below meth c H locs cells slots ad a0 n0 ls F G hl
  exact lv_icmp_eq F.1 F.2.1 hd hg (fun q => ht q p e R s m args below meth c H locs cells slots ad a0 n0 ls F G hl) (fun q => hf q p e R s m args below meth c H locs cells slots ad a0 n0 ls F G hl)
theorem wp_if_ne {x : Int32} {off : Int} {tgt : Nat} (hd : decode M.2.1 pc = .ok (.ifCond .ne off, 3)) (hg : (pc : Int) + off = (tgt : Int)) (hf : ¬ (x = 0) → mWP X M d Q tgt L st h bc bs) (ht : x = 0 → mWP X M d Q (pc + 3) L st h bc bs) : mWP X M d Q pc L (.int x :: st) h bc bs := by
  intro p e R s m args below meth c H locs cells slots ad a0 n0 ls F G hl
  exact lv_if_ne F.1 F.2.1 hd hg (fun q => hf q p e R s m args below meth c H locs cells slots ad a0 n0 ls F G hl) (fun q => ht q p e R s m args below meth c H locs cells slots ad a0 n0 ls F G hl)
theorem wp_icmp_ne {x y : Int32} {off : Int} {tgt : Nat} (hd : decode M.2.1 pc = .ok (.if_icmp .ne off, 3)) (hg : (pc : Int) + off = (tgt : Int)) (hf : ¬ (x = y) → mWP X M d Q tgt L st h bc bs) (ht : x = y → mWP X M d Q (pc + 3) L st h bc bs) : mWP X M d Q pc L (.int y :: .int x :: st) h bc bs := by
  intro p e R s m args below meth c H locs cells slots ad a0 n0 ls F G hl
  exact lv_icmp_ne F.1 F.2.1 hd hg (fun q => hf q p e R s m args below meth c H locs cells slots ad a0 n0 ls F G hl) (fun q => ht q p e R s m args below meth c H locs cells slots ad a0 n0 ls F G hl)
theorem wp_if_lt {x : Int32} {off : Int} {tgt : Nat} (hd : decode M.2.1 pc = .ok (.ifCond .lt off, 3)) (hg : (pc : Int) + off = (tgt : Int)) (ht : x < 0 → mWP X M d Q tgt L st h bc bs) (hf : ¬ (x < 0) → mWP X M d Q (pc + 3) L st h bc bs) : mWP X M d Q pc L (.int x :: st) h bc bs := by
  intro p e R s m args below meth c H locs cells slots ad a0 n0 ls F G hl
  exact lv_if_lt F.1 F.2.1 hd hg (fun q => ht q p e R s m args below meth c H locs cells slots ad a0 n0 ls F G hl) (fun q => hf q p e R s m args below meth c H locs cells slots ad a0 n0 ls F G hl)
theorem wp_icmp_lt {x y : Int32} {off : Int} {tgt : Nat} (hd : decode M.2.1 pc = .ok (.if_icmp .lt off, 3)) (hg : (pc : Int) + off = (tgt : Int)) (ht : x < y → mWP X M d Q tgt L st h bc bs) (hf : ¬ (x < y) → mWP X M d Q (pc + 3) L st h bc bs) : mWP X M d Q pc L (.int y :: .int x :: st) h bc bs := by
  intro p e R s m args below meth c H locs cells slots ad a0 n0 ls F G hl
  exact lv_icmp_lt F.1 F.2.1 hd hg (fun q => ht q p e R s m args below meth c H locs cells slots ad a0 n0 ls F G hl) (fun q => hf q p e R s m args below meth c H locs cells slots ad a0 n0 ls F G hl)
theorem wp_if_ge {x : Int32} {off : Int} {tgt : Nat} (hd : decode M.2.1 pc = .ok (.ifCond .ge off, 3)) (hg : (pc : Int) + off = (tgt : Int)) (ht : 0 ≤ x → mWP X M d Q tgt L st h bc bs) (hf : ¬ (0 ≤ x) → mWP X M d Q (pc + 3) L st h bc bs) : mWP X M d Q pc L (.int x :: st) h bc bs := by
  intro p e R s m args below meth c H locs cells slots ad a0 n0 ls F G hl
  exact lv_if_ge F.1 F.2.1 hd hg (fun q => ht q p e R s m args below meth c H locs cells slots ad a0 n0 ls F G hl) (fun q => hf q p e R s m args below meth c H locs cells slots ad a0 n0 ls F G hl)
theorem wp_icmp_ge {x y : Int32} {off : Int} {tgt : Nat} (hd : decode M.2.1 pc = .ok (.if_icmp .ge off, 3)) (hg : (pc : Int) + off = (tgt : Int)) (ht : y ≤ x → mWP X M d Q tgt L st h bc bs) (hf : ¬ (y ≤ x) → mWP X M d Q (pc + 3) L st h bc bs) : mWP X M d Q pc L (.int y :: .int x :: st) h bc bs := by
  intro p e R s m args below meth c H locs cells slots ad a0 n0 ls F G hl
  exact lv_icmp_ge F.1 F.2.1 hd hg (fun q => ht q p e R s m args below meth c H locs cells slots ad a0 n0 ls F G hl) (fun q => hf q p e R s m args below meth c H locs cells slots ad a0 n0 ls F G hl)
theorem wp_if_gt {x : Int32} {off : Int} {tgt : Nat} (hd : decode M.2.1 pc = .ok (.ifCond .gt off, 3)) (hg : (pc : Int) + off = (tgt : Int)) (ht : 0 < x → mWP X M d Q tgt L st h bc bs) (hf : ¬ (0 < x) → mWP X M d Q (pc + 3) L st h bc bs) : mWP X M d Q pc L (.int x :: st) h bc bs := by
  intro p e R s m args below meth c H locs cells slots ad a0 n0 ls F G hl
  exact lv_if_gt F.1 F.2.1 hd hg (fun q => ht q p e R s m args below meth c H locs cells slots ad a0 n0 ls F G hl) (fun q => hf q p e R s m args below meth c H locs cells slots ad a0 n0 ls F G hl)
theorem wp_icmp_gt {x y : Int32} {off : Int} {tgt : Nat} (hd : decode M.2.1 pc = .ok (.if_icmp .gt off, 3)) (hg : (pc : Int) + off = (tgt : Int)) (ht : y < x → mWP X M d Q tgt L st h bc bs) (hf : ¬ (y < x) → mWP X M d Q (pc + 3) L st h bc bs) : mWP X M d Q pc L (.int y :: .int x :: st) h bc bs := by
  intro p e R s m args below meth c H locs cells slots ad a0 n0 ls F G hl
  exact lv_icmp_gt F.1 F.2.1 hd hg (fun q => ht q p e R s m args below meth c H locs cells slots ad a0 n0 ls F G hl) (fun q => hf q p e R s m args below meth c H locs cells slots ad a0 n0 ls F G hl)
theorem wp_if_le {x : Int32} {off : Int} {tgt : Nat} (hd : decode M.2.1 pc = .ok (.ifCond .le off, 3)) (hg : (pc : Int) + off = (tgt : Int)) (ht : x ≤ 0 → mWP X M d Q tgt L st h bc bs) (hf : ¬ (x ≤ 0) → mWP X M d Q (pc + 3) L st h bc bs) : mWP X M d Q pc L (.int x :: st) h bc bs := by
  intro p e R s m args below meth c H locs cells slots ad a0 n0 ls F G hl
  exact lv_if_le F.1 F.2.1 hd hg (fun q => ht q p e R s m args below meth c H locs cells slots ad a0 n0 ls F G hl) (fun q => hf q p e R s m args below meth c H locs cells slots ad a0 n0 ls F G hl)
theorem wp_icmp_le {x y : Int32} {off : Int} {tgt : Nat} (hd : decode M.2.1 pc = .ok (.if_icmp .le off, 3)) (hg : (pc : Int) + off = (tgt : Int)) (ht : x ≤ y → mWP X M d Q tgt L st h bc bs) (hf : ¬ (x ≤ y) → mWP X M d Q (pc + 3) L st h bc bs) : mWP X M d Q pc L (.int y :: .int x :: st) h bc bs := by
  intro p e R s m args below meth c H locs cells slots ad a0 n0 ls F G hl
  exact lv_icmp_le F.1 F.2.1 hd hg (fun q => ht q p e R s m args below meth c H locs cells slots ad a0 n0 ls F G hl) (fun q => hf q p e R s m args below meth c H locs cells slots ad a0 n0 ls F G hl)
theorem wp_goto {off : Int} {tgt : Nat} (hd : decode M.2.1 pc = .ok (.goto off, 3)) (hg : (pc : Int) + off = (tgt : Int)) (k : mWP X M d Q tgt L st h bc bs) : mWP X M d Q pc L st h bc bs := by
  intro p e R s m args below meth c H locs cells slots ad a0 n0 ls F G hl
  exact lv_goto F.1 F.2.1 hd hg (k p e R s m args below meth c H locs cells slots ad a0 n0 ls F G hl)
theorem wp_ifnonnull {x : Nat} {off : Int} {tgt : Nat} (hd : decode M.2.1 pc = .ok (.ifnonnull off, 3)) (hg : (pc : Int) + off = (tgt : Int)) (k : mWP X M d Q tgt L st h bc bs) : mWP X M d Q pc L (.ref x :: st) h bc bs := by
  intro p e R s m args below meth c H locs cells slots ad a0 n0 ls F G hl
  exact lv_ifnonnull F.1 F.2.1 hd hg (k p e R s m args below meth c H locs cells slots ad a0 n0 ls F G hl)
theorem wp_ifnonnullN {off : Int} (hd : decode M.2.1 pc = .ok (.ifnonnull off, 3)) (k : mWP X M d Q (pc + 3) L st h bc bs) : mWP X M d Q pc L (.null :: st) h bc bs := by
  intro p e R s m args below meth c H locs cells slots ad a0 n0 ls F G hl
  exact lv_ifnonnullN F.1 F.2.1 hd (k p e R s m args below meth c H locs cells slots ad a0 n0 ls F G hl)
theorem wp_tableOut {dflt lo hi : Int} {offs : Array Int} {len : Nat} {x : Int32} {tgt : Nat} (hd : decode M.2.1 pc = .ok (.tableswitch dflt lo hi offs, len)) (hx : x.toInt < lo ∨ hi < x.toInt) (hg : (pc : Int) + dflt = (tgt : Int)) (k : mWP X M d Q tgt L st h bc bs) : mWP X M d Q pc L (.int x :: st) h bc bs := by
  intro p e R s m args below meth c H locs cells slots ad a0 n0 ls F G hl
  exact lv_tableOut F.1 F.2.1 hd hx hg (k p e R s m args below meth c H locs cells slots ad a0 n0 ls F G hl)
theorem wp_tableIn {dflt lo hi : Int} {offs : Array Int} {len : Nat} {x : Int32} {off : Int} {tgt : Nat} (hd : decode M.2.1 pc = .ok (.tableswitch dflt lo hi offs, len)) (h1 : ¬ x.toInt < lo) (h2 : ¬ hi < x.toInt) (ho : offs[(x.toInt - lo).toNat]? = some off) (hg : (pc : Int) + off = (tgt : Int)) (k : mWP X M d Q tgt L st h bc bs) : mWP X M d Q pc L (.int x :: st) h bc bs := by
  intro p e R s m args below meth c H locs cells slots ad a0 n0 ls F G hl
  exact lv_tableIn F.1 F.2.1 hd h1 h2 ho hg (k p e R s m args below meth c H locs cells slots ad a0 n0 ls F G hl)
theorem wp_lookup {dflt : Int} {ps : Array (Int × Int)} {len : Nat} {x : Int32} {off : Int} {tgt : Nat} (hd : decode M.2.1 pc = .ok (.lookupswitch dflt ps, len)) (hp : (ps.toList.zip (ps.toList.drop 1)).all (fun (a, next) => a.1 < next.1) = true) (ho : Op.lookupswitch.offset ps.toList dflt x.toInt = off) (hg : (pc : Int) + off = (tgt : Int)) (k : mWP X M d Q tgt L st h bc bs) : mWP X M d Q pc L (.int x :: st) h bc bs := by
  intro p e R s m args below meth c H locs cells slots ad a0 n0 ls F G hl
  exact lv_lookup F.1 F.2.1 hd hp ho hg (k p e R s m args below meth c H locs cells slots ad a0 n0 ls F G hl)
theorem wp_iret {x : Int32} (hd : decode M.2.1 pc = .ok (.ireturn, 1)) (hr : M.2.2.2.1 = some .int) (hQ : Q (.inl (some (.int x))) h) : mWP X M d Q pc L [.int x] h bc bs := by
  intro p e R s m args below meth c H locs cells slots ad a0 n0 ls F G hl
  have hG := G
  obtain ⟨hWd, hS, hag, hn, hc, hs⟩ := hG
  refine W.widen (Nat.le_trans (Nat.le_add_right _ _) hc) (Nat.le_trans (Nat.le_add_right _ _) hs) ?_
  refine vx_ret ?_
  exact W.iret F.1 F.2.1 (by rw [F.2.2.2.2.1, hr]) (fun t ht hW => ⟨some (.int x), ad, h, rfl, hQ, by rw [ht]; exact hWd, hag, hn, hS.F ht⟩) hS.2.2 hd (hlocks := F.2.2.2.2.2.1)
theorem wp_zret {x : Int32} {ty : FieldType} (hz : narrow ty (.int x) = .int x) (hd : decode M.2.1 pc = .ok (.ireturn, 1)) (hr : M.2.2.2.1 = some ty) (hQ : Q (.inl (some (.int x))) h) : mWP X M d Q pc L [.int x] h bc bs := by
  intro p e R s m args below meth c H locs cells slots ad a0 n0 ls F G hl
  have hG := G
  obtain ⟨hWd, hS, hag, hn, hc, hs⟩ := hG
  refine W.widen (Nat.le_trans (Nat.le_add_right _ _) hc) (Nat.le_trans (Nat.le_add_right _ _) hs) ?_
  refine vx_ret ?_
  exact W.zret F.1 F.2.1 (by rw [F.2.2.2.2.1, hr]) hz (fun t ht hW => ⟨some (.int x), ad, h, rfl, hQ, by rw [ht]; exact hWd, hag, hn, hS.F ht⟩) hS.2.2 hd (hlocks := F.2.2.2.2.2.1)
theorem wp_lret {x : Int64} (hd : decode M.2.1 pc = .ok (.lreturn, 1)) (hr : M.2.2.2.1 = some .long) (hQ : Q (.inl (some (.long x))) h) : mWP X M d Q pc L [.long x] h bc bs := by
  intro p e R s m args below meth c H locs cells slots ad a0 n0 ls F G hl
  have hG := G
  obtain ⟨hWd, hS, hag, hn, hc, hs⟩ := hG
  refine W.widen (Nat.le_trans (Nat.le_add_right _ _) hc) (Nat.le_trans (Nat.le_add_right _ _) hs) ?_
  refine vx_ret ?_
  exact W.lret F.1 F.2.1 (by rw [F.2.2.2.2.1, hr]) (fun t ht hW => ⟨some (.long x), ad, h, rfl, hQ, by rw [ht]; exact hWd, hag, hn, hS.F ht⟩) hS.2.2 hd (hlocks := F.2.2.2.2.2.1)
theorem wp_aret {x : Nat} {C : String} (hd : decode M.2.1 pc = .ok (.areturn, 1)) (hr : M.2.2.2.1 = some (.object C)) (hQ : Q (.inl (some (.ref x))) h) : mWP X M d Q pc L [.ref x] h bc bs := by
  intro p e R s m args below meth c H locs cells slots ad a0 n0 ls F G hl
  have hG := G
  obtain ⟨hWd, hS, hag, hn, hc, hs⟩ := hG
  refine W.widen (Nat.le_trans (Nat.le_add_right _ _) hc) (Nat.le_trans (Nat.le_add_right _ _) hs) ?_
  refine vx_ret ?_
  exact W.aret F.1 F.2.1 (by rw [F.2.2.2.2.1, hr]) (Or.inl ⟨_, rfl⟩) (Or.inr ⟨_, rfl⟩) (fun t ht hW => ⟨some (.ref x), ad, h, rfl, hQ, by rw [ht]; exact hWd, hag, hn, hS.F ht⟩) hS.2.2 hd (hlocks := F.2.2.2.2.2.1)
theorem wp_vret  (hd : decode M.2.1 pc = .ok (.return_, 1)) (hr : M.2.2.2.1 = none) (hQ : Q (.inl (none)) h) : mWP X M d Q pc L [] h bc bs := by
  intro p e R s m args below meth c H locs cells slots ad a0 n0 ls F G hl
  have hG := G
  obtain ⟨hWd, hS, hag, hn, hc, hs⟩ := hG
  refine W.widen (Nat.le_trans (Nat.le_add_right _ _) hc) (Nat.le_trans (Nat.le_add_right _ _) hs) ?_
  refine vx_ret ?_
  exact W.vret F.1 F.2.1 (by rw [F.2.2.2.2.1, hr]) (fun t ht hW => ⟨none, ad, h, rfl, hQ, by rw [ht]; exact hWd, hag, hn, hS.F ht⟩) hS.2.2 hd (hlocks := F.2.2.2.2.2.1)
end mWPs
