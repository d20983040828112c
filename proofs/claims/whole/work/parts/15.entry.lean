/-! a method from its entry -/
def mEnt : List Value → List (Option Value)
  | [] => []
  | .long x :: r => some (.long x) :: none :: mEnt r
  | .double x :: r => some (.double x) :: none :: mEnt r
  | .int x :: r => some (.int x) :: mEnt r
  | .float x :: r => some (.float x) :: mEnt r
  | .null :: r => some .null :: mEnt r
  | .ref x :: r => some (.ref x) :: mEnt r
  | .retAddr x :: r => some (.retAddr x) :: mEnt r
def mPad (n : Nat) (l : List (Option Value)) : List (Option Value) := match n, l with
  | n + 1, v :: r => v :: mPad n r
  | n + 1, [] => none :: mPad n []
  | 0, l => l
theorem mEnt_len (ad : Nat → Nat) : ∀ as : List Value, (lg_sl (as.map (mV ad))).length = (mEnt as).length
  | [] => rfl
  | v :: r => by
    have ih := mEnt_len ad r
    cases v <;> simp_all [lg_sl, mEnt, mV, Value.category]
theorem mEnt_at (ad : Nat → Nat) : ∀ (as : List Value) (k : Nat) (v : Value), (mEnt as)[k]? = some (some v) → (lg_sl (as.map (mV ad)))[k]? = some (.val (mV ad v))
  | [], k, v, h => by simp [mEnt] at h
  | w :: r, k, v, h => by
    have ih := mEnt_at ad r
    cases w with
    | long x =>
      match k, h with
      | 0, h => simp [mEnt] at h; subst h; simp [lg_sl, mV, Value.category]
      | 1, h => simp [mEnt] at h
      | k + 2, h => simpa [lg_sl, mV, Value.category] using ih k v (by simpa [mEnt] using h)
    | double x =>
      match k, h with
      | 0, h => simp [mEnt] at h; subst h; simp [lg_sl, mV, Value.category]
      | 1, h => simp [mEnt] at h
      | k + 2, h => simpa [lg_sl, mV, Value.category] using ih k v (by simpa [mEnt] using h)
    | int x =>
      match k, h with
      | 0, h => simp [mEnt] at h; subst h; simp [lg_sl, mV, Value.category]
      | k + 1, h => simpa [lg_sl, mV, Value.category] using ih k v (by simpa [mEnt] using h)
    | float x =>
      match k, h with
      | 0, h => simp [mEnt] at h; subst h; simp [lg_sl, mV, Value.category]
      | k + 1, h => simpa [lg_sl, mV, Value.category] using ih k v (by simpa [mEnt] using h)
    | null =>
      match k, h with
      | 0, h => simp [mEnt] at h; subst h; simp [lg_sl, mV, Value.category]
      | k + 1, h => simpa [lg_sl, mV, Value.category] using ih k v (by simpa [mEnt] using h)
    | ref x =>
      match k, h with
      | 0, h => simp [mEnt] at h; subst h; simp [lg_sl, mV, Value.category]
      | k + 1, h => simpa [lg_sl, mV, Value.category] using ih k v (by simpa [mEnt] using h)
    | retAddr x =>
      match k, h with
      | 0, h => simp [mEnt] at h; subst h; simp [lg_sl, mV, Value.category]
      | k + 1, h => simpa [lg_sl, mV, Value.category] using ih k v (by simpa [mEnt] using h)
theorem mPad_at : ∀ {n : Nat} {l : List (Option Value)} {k : Nat} {v : Value}, (mPad n l)[k]? = some (some v) → l[k]? = some (some v)
  | 0, l, k, v, h => h
  | n + 1, [], k, v, h => by
    match k, h with
    | 0, h => simp [mPad] at h
    | k + 1, h => exact absurd (mPad_at (n := n) (l := []) (k := k) (v := v) (by simpa [mPad] using h)) (by simp)
  | n + 1, w :: l, k, v, h => by
    match k, h with
    | 0, h => simpa [mPad] using h
    | k + 1, h => simpa using mPad_at (n := n) (l := l) (k := k) (v := v) (by simpa [mPad] using h)
/-- what is known of a method and its table, ahead of any run -/
def mGood (M : mM) (tb : mTb) : Prop := plainName M.1.cls = true ∧ mOkM M ∧ mNoSt M tb ∧ ∀ q ∈ tb, mTbOk M.2.1 q = true
section mEy
variable {X : mX} {M : mM} {d : Nat} {Q : mO → mH → Prop} {h : mH}
theorem mEv_of {as : List Value} (hp : plainName M.1.cls = true) (hlen : (mEnt as).length ≤ M.2.2.1) (k : mWP X M d Q 0 (mPad M.2.2.1 (mEnt as)) [] h M.2.2.2.2.2.2.1 M.2.2.2.2.2.2.2) : mEv X d M as h Q := by
  intro a0
  have body : ∀ p e s m args below meth c s₁, BodyLoose p X.1 M.1 (headSpec [mCode M] (mRm d M)) M.2.1 M.2.2.1 M.2.2.2.1 e s m args below meth c s₁ → c.maxLocals = M.2.2.1 → c.exceptionTable.toList = tableOf M.2.2.2.2.1 → mPc X a0 as h args s →
      W p X.1 e (headSpec [mCode M] (mRm d M)).room s m args below meth c s.heap [] 0 0 (vx_MQ below (mQc X a0 h.length Q) (mXC X a0 h.length Q) args s M.2.2.2.2.2.2.1 M.2.2.2.2.2.2.2 (mB X)) (entryFrame m args M.2.2.1) := by
    intro p e s m args below meth c s₁ B hml hex hv
    obtain ⟨rfl, hE, hW⟩ := hv
    have hl2 : (lg_sl (as.map (mV a0))).length ≤ M.2.2.1 := by rw [mEnt_len]; exact hlen
    have hl := lv_entry (as.map (mV a0)) (n := M.2.2.1) hl2
    rw [lg_entry_eq]
    refine k p e _ s m _ below meth c s.heap [] 0 0 a0 a0 h.length _ ⟨B.exec, B.bytes, hml, findClass_of_methodNamed B.named, B.returns, B.notSynchronized, hex, (name_of_methodNamed B.named B.method).1, hE, Nat.le_refl _, Nat.le_refl _⟩ ⟨hW, va_S.rf, fun _ _ => rfl, Nat.le_refl _, by show 0 + _ ≤ _; rw [Nat.zero_add]; exact Nat.le_refl _, by show 0 + _ ≤ _; rw [Nat.zero_add]; exact Nat.le_refl _⟩ ⟨hl.1, hl.2.1, fun i v hi => ?_⟩
    have h2 := mEnt_at a0 as i v (mPad_at hi)
    rw [List.getElem?_toArray, List.getElem?_append_left (List.getElem?_eq_some_iff.mp h2).1]
    exact h2
  cases hh : M.2.2.2.2.1 with
  | nil =>
    have hc : mCode M = .code M.1 M.2.1 M.2.2.1 M.2.2.2.1 := by simp only [mCode, hh]
    refine vx_ofW (cc := M.2.1) (maxL := M.2.2.1) (ret := M.2.2.2.1) (ws' := []) hp (by rw [hc]) (fun p e s m args below meth c s₁ B hml hex hv => body p e s m args below meth c s₁ B hml ?_ hv)
    rw [hh]
    cases he : c.exceptionTable.toList with
    | nil => rfl
    | cons x r => exact (hex x (by rw [he]; exact List.mem_cons_self)).elim
  | cons q r =>
    have hc : mCode M = .codeWith M.1 M.2.1 M.2.2.1 M.2.2.2.1 M.2.2.2.2.1 := by simp only [mCode, hh]
    refine vx_ofWH (cc := M.2.1) (maxL := M.2.2.1) (ret := M.2.2.2.1) (hh := M.2.2.2.2.1) (ws' := []) hp (by rw [hc]) (fun p e s m args below meth c s₁ B hml hv => body p e s m args below meth c s₁ B hml ?_ hv)
    exact vx_table (x := M.1) B (atoms_spec (ws := [mCode M]) B.pre (.codeWith M.1 M.2.1 M.2.2.1 M.2.2.2.1 M.2.2.2.2.1) (by rw [hc]; exact List.mem_cons_self))
theorem mEv_run {as : List Value} {tb : mTb} (g : mGood M tb) (f : Nat) (cuts : List Nat) (hlen : Nat.ble (mEnt as).length M.2.2.1 = true) (k : mRun X M d Q tb cuts f 0 (mPad M.2.2.1 (mEnt as)) [] h M.2.2.2.2.2.2.1 M.2.2.2.2.2.2.2) : mEv X d M as h Q := mEv_of g.1 (Nat.le_of_ble_eq_true hlen) (mRun_sound g.2.1 g.2.2.1 g.2.2.2 f _ _ _ _ _ _ k)
theorem mWP_run {tb : mTb} (g : mGood M tb) (f : Nat) (cuts : List Nat) {pc : Nat} {L : List (Option Value)} {st : List Value} {bc bs : Nat} (k : mRun X M d Q tb cuts f pc L st h bc bs) : mWP X M d Q pc L st h bc bs := mRun_sound g.2.1 g.2.2.1 g.2.2.2 f _ _ _ _ _ _ k
theorem mBr_i {c a b : Prop} (ha : c → a) (hb : ¬ c → b) : mBr c a b := ⟨ha, hb⟩
theorem mBr_t {c a b : Prop} (hc : c) (ha : a) : mBr c a b := ⟨fun _ => ha, fun q => (q hc).elim⟩
theorem mBr_f {c a b : Prop} (hc : ¬ c) (hb : b) : mBr c a b := ⟨fun q => (hc q).elim, fun _ => hb⟩
theorem mVc_i {c a : Prop} (hc : c) (ha : a) : mVc c a := ⟨hc, ha⟩
theorem mCl_i {d2 : Nat} {M2 : mM} {as : List Value} {K Q2 : mO → mH → Prop} (hE : mEv X d2 M2 as h Q2) (hd : d2 < d) (hk : ∀ (o : mO) (h1 : mH), Q2 o h1 → K o h1) : mCl X d M2 as h K := ⟨d2, Q2, hd, hE, hk⟩
/-- a call with one outcome -/
theorem mCl_e {d2 : Nat} {M2 : mM} {as : List Value} {K : mO → mH → Prop} {o : mO} {h1 : mH} (hE : mEv X d2 M2 as h (fun o9 h9 => o9 = o ∧ h9 = h1)) (hd : d2 < d) (hk : K o h1) : mCl X d M2 as h K := ⟨d2, _, hd, hE, fun o9 h9 q => by rw [q.1, q.2]; exact hk⟩
end mEy
