/-! A small machine of its own: cells by numbers, values with cell numbers for addresses; what it says of a method holds of the machine. -/
abbrev mE : Type := (Nat × vp_A) ⊕ (Nat × List Value)
abbrev mH : Type := List mE
/-- an outcome: what is answered, or which exception, by its number -/
abbrev mO : Type := Option Value ⊕ Nat
def mEx (n : Nat) : String := match n with
  | 0 => "java/lang/IllegalArgumentException"
  | 1 => "java/util/NoSuchElementException"
  | 2 => "java/lang/IllegalStateException"
  | _ => "java/lang/IndexOutOfBoundsException"
/-- the launch, the classes' numbers, the array classes, the first cell that is ours, places of what was there, the script's length and ints -/
abbrev mX : Type := Launch × va_G × (Nat → ClassId) × Nat × (Nat → Nat) × Nat × (Nat → Int32)
/-- a method: its name, code, locals, answer's type, handlers, class number, cells, slots -/
abbrev mM : Type := MethodName × ByteArray × Nat × Option FieldType × List (Nat × Nat × Nat × Nat) × Nat × Nat × Nat
def mSB : Nat := 1000000
def mV (ad : Nat → Nat) (v : Value) : Value := match v with
  | .ref k => .ref (ad k)
  | v => v
def mQ (ad : Nat → Nat) (r : (Nat → Int32) ⊕ (Nat → Int64) ⊕ (Nat → UInt32) ⊕ (Nat → UInt64) ⊕ (Nat → Option Nat)) : (Nat → Int32) ⊕ (Nat → Int64) ⊕ (Nat → UInt32) ⊕ (Nat → UInt64) ⊕ (Nat → Option Nat) := match r with
  | .inr (.inr (.inr (.inr f))) => .inr (.inr (.inr (.inr (fun i => (f i).map ad))))
  | r => r
def mC (ad : Nat → Nat) (dA : Nat → ClassId) (e : mE) : va_E := match e with
  | .inl a => .inl (dA a.1, a.2.1, mQ ad a.2.2)
  | .inr o => .inr (o.1, o.2.map (mV ad))
def mW (ad : Nat → Nat) (dA : Nat → ClassId) (h : mH) : va_W := h.mapIdx (fun k e => (ad k, mC ad dA e))
def mB (X : mX) : Nat → Prop := fun q => X.2.2.2.1 ≤ q
def mT (dA : Nat → ClassId) : List (ClassId × FieldType) := [(dA 0, .int), (dA 1, .long), (dA 2, .byte), (dA 3, .boolean), (dA 4, .object "SugarDice$Tray"), (dA 5, .object "SugarDice$Game")]
def mWd (X : mX) (ad : Nat → Nat) (h : mH) (H : Heap) : Prop := va_P X.2.1 vwCl (mW ad X.2.2.1 h) H ∧ va_D (mB X) (mW ad X.2.2.1 h) ∧ ∀ i, ad (mSB + i) = X.2.2.2.2.1 i
def mStrs : List (String × Nat × String × Nat) := [("SugarDice", 94, "the tape has not so many bytes", 200), ("SugarDice$TableText", 101, "die", 0), ("SugarDice$TableText", 107, "salt", 1), ("SugarDice$TableText", 109, "hand", 2), ("SugarDice$TableText", 111, "ants", 3), ("SugarDice", 424, "no such die", 201), ("SugarDice", 441, "another what", 202), ("SugarDice", 429, "no such hand", 203), ("SugarDice", 431, "the die is gone", 204), ("SugarDice", 433, "there are 60 throws", 205), ("SugarDice", 439, "no face", 206), ("SugarDice", 182, "it can't be thrown so", 207), ("SugarDice", 188, "there are not so many throws", 208), ("SugarDice", 195, "no such throw", 209), ("SugarDice", 207, "times aren't 1 to 40", 210), ("SugarDice", 215, "no dice or no hands", 211), ("SugarDice", 460, "no such tray", 212), ("SugarDice", 466, "the tray is missing", 213), ("SugarDice", 443, "not so many minutes", 214), ("SugarDice", 255, "rain isn't 1 to 20", 215), ("SugarDice", 449, "a set with others than the dice", 216), ("SugarDice", 451, "a die of the set is gone", 217), ("SugarDice", 447, "it isn't 1 to 3", 218), ("SugarDice", 445, "not so many throws", 219), ("SugarDice", 320, "not such coins, not such a goal", 220), ("SugarDice", 352, "throws aren't 1 to 5", 221), ("SugarDice", 456, "not 1 to 5 numbers, or one is no face", 222), ("SugarDice", 389, "no such sort, or not so many", 223), ("SugarDice", 396, "the tray has no such place", 224), ("SugarDice", 458, "no such image", 225), ("SugarDice", 413, "no image was made", 226), ("SugarDiceModel", 136, "die", 0), ("SugarDiceModel", 131, "salt", 1), ("SugarDiceModel", 141, "hand", 2), ("SugarDiceModel", 146, "ants", 3)]
def mNcs : List (String × String) := [("java/lang/IllegalArgumentException", "java/lang/IllegalStateException"), ("java/lang/IllegalArgumentException", "java/lang/IndexOutOfBoundsException"), ("java/lang/IllegalArgumentException", "java/util/NoSuchElementException"), ("java/lang/IllegalStateException", "java/lang/IllegalArgumentException"), ("java/lang/IllegalStateException", "java/lang/IndexOutOfBoundsException"), ("java/lang/IllegalStateException", "java/util/NoSuchElementException"), ("java/lang/IndexOutOfBoundsException", "java/lang/IllegalArgumentException"), ("java/lang/IndexOutOfBoundsException", "java/lang/IllegalStateException"), ("java/lang/IndexOutOfBoundsException", "java/util/NoSuchElementException"), ("java/util/NoSuchElementException", "java/lang/IllegalArgumentException"), ("java/util/NoSuchElementException", "java/lang/IllegalStateException"), ("java/util/NoSuchElementException", "java/lang/IndexOutOfBoundsException")]
/-- the words that hold at every later state too -/
def mOk (w : Cond) : Bool := goodWord w || match w with
  | .privateMethod _ => true
  | .declares _ => true
  | .castable .. => true
  | .methodLinkNest .. => true
  | .fieldLinkNest .. => true
  | _ => false
def mStr : List (String × Nat × String × Nat) := mStrs
/-- the words die, salt, hand, ants: their bytes -/
def mByt : List (List Int32) := [[100, 105, 101], [115, 97, 108, 116], [104, 97, 110, 100], [97, 110, 116, 115]]
def mTx (X : mX) (i : Nat) (U : State) (H : Heap) : Prop := va_O "java/lang/String" (X.2.2.2.2.1 i) (mB X) U H ∧ va_OF "java/lang/String" "coder" "B" (.int 0) (X.2.2.2.2.1 i) (mB X) U H ∧ va_OF "java/lang/String" "value" "[B" (.ref (X.2.2.2.2.1 (100 + i))) (X.2.2.2.2.1 i) (mB X) U H ∧ va_T .byte (X.2.2.2.2.1 (100 + i)) (mByt.getD i []).length (fun j => .int ((mByt.getD i []).getD j 0)) (mB X) U H
def mNc : List (String × String) := mNcs
/-- the formatter that Preconditions holds: null, or what lies at its place -/
def mFm (X : mX) (U : State) (H : Heap) : Prop := va_Z "jdk/internal/util/Preconditions" "SIOOBE_FORMATTER" "Ljava/util/function/BiFunction;" .null (mB X) U H ∨ va_Z "jdk/internal/util/Preconditions" "SIOOBE_FORMATTER" "Ljava/util/function/BiFunction;" (.ref (X.2.2.2.2.1 501)) (mB X) U H
def mEnv (X : mX) (U : State) (H : Heap) : Prop :=
  (∀ w ∈ lw_tbl, mOk w = true → w.before #[] U = true) ∧ va_K X.2.1 vwCl (mT X.2.2.1) U ∧ vx_Zq Bundle.tN "UNASSIGNED_STACK" Bundle.steD (mB X) U H ∧ vx_Zq Bundle.tN "SUPPRESSED_SENTINEL" Bundle.listD (mB X) U H ∧
  (∀ q ∈ mStr, vk_R q.1 q.2.1 q.2.2.1 (X.2.2.2.2.1 q.2.2.2) U) ∧ (∀ i, i < 4 → mTx X i U H) ∧ (va_Z "java/lang/String" "COMPACT_STRINGS" "Z" (.int 1) (mB X) U H ∧ mFm X U H) ∧ (∀ q ∈ mNc, va_Nc q.1 q.2 U) ∧ va_AO "SugarDice$Tray" U ∧ va_AO "SugarDice$Game" U ∧ X.2.2.2.1 ≤ H.size ∧ X.1.stackTraces = false ∧ va_X (X.2.2.2.2.1 500) X.2.2.2.2.2.1 X.2.2.2.2.2.2 U H ∧ X.2.2.2.2.1 500 < X.2.2.2.1 ∧ X.2.2.2.2.2.1 < 2 ^ 31
theorem mOk_keep {w : Cond} {a a' : Array Value} {s U : State} (hW : s.WarmedH U.vm) (hk : mOk w = true) (h : w.before a s = true) : w.before a' U = true := by
  simp only [mOk, Bool.or_eq_true] at hk
  rcases hk with hk | hk
  · exact word_at hW (good_of_word hk) h
  · cases w with
    | privateMethod x => exact va_tabs rfl (rfl : (s.setVm U.vm).vm = U.vm) (by rw [Cond.privateMethod_setVm hW.alike]; exact h)
    | declares x => exact va_Nw.use rfl (va_Nw.warmD hW (va_Nw.of rfl h))
    | castable x y => exact va_Nw.use rfl (va_Nw.warmC hW (va_Nw.of rfl h))
    | methodLinkNest x y z u => exact va_Nw.use rfl (va_Nw.warmM hW (va_Nw.of rfl h))
    | fieldLinkNest x y z u v t => exact va_Nw.use rfl (va_Nw.warmF hW (va_Nw.of rfl h))
    | _ => cases hk
theorem mTx.moved {X : mX} {i : Nat} {u U : State} {H : Heap} (hvm : u.vm.Alike U.vm) (h : mTx X i u H) : mTx X i U H := ⟨va_O.moved hvm h.1, va_OF.moved hvm h.2.1, va_OF.moved hvm h.2.2.1, va_T.moved hvm h.2.2.2⟩
theorem mTx.kept {X : mX} {i : Nat} {U : State} {H H1 : Heap} (h : mTx X i U H) (hq : ∀ a : Nat, a < H.size → ¬ mB X a → H1[a]? = H[a]?) : mTx X i U H1 := ⟨h.1.kept hq, h.2.1.kept hq, h.2.2.1.kept hq, h.2.2.2.kept hq⟩
theorem mEnv.moved {X : mX} {u U : State} {H : Heap} (hW : u.WarmedH U.vm) (h : mEnv X u H) : mEnv X U H := by
  obtain ⟨h1, h2, h3, h4, h5, h6, h7, h8, h9, h10, h11, h12, h13, h14, h15⟩ := h
  exact ⟨fun w hw hk => mOk_keep hW hk (h1 w hw hk), h2.moved hW.alike, h3.moved hW.alike, h4.moved hW.alike, fun q hq => (h5 q hq).warm hW, fun i hi => (h6 i hi).moved hW.alike, ⟨h7.1.moved hW.alike, h7.2.elim (fun q => Or.inl (q.moved hW.alike)) (fun q => Or.inr (q.moved hW.alike))⟩, fun q hq => (h8 q hq).moved hW.alike, h9.moved hW.alike, h10.moved hW.alike, h11, h12, h13.moved hW.alike, h14, h15⟩
theorem mEnv.kept {X : mX} {U : State} {H H1 : Heap} (h : mEnv X U H) (hz : H.size ≤ H1.size) (hq : ∀ a : Nat, a < H.size → ¬ mB X a → H1[a]? = H[a]?) : mEnv X U H1 := by
  obtain ⟨h1, h2, h3, h4, h5, h6, h7, h8, h9, h10, h11, h12, h13, h14, h15⟩ := h
  exact ⟨h1, h2, h3.kept hq, h4.kept hq, h5, fun i hi => (h6 i hi).kept hq, ⟨h7.1.kept hq, h7.2.elim (fun q => Or.inl (q.kept hq)) (fun q => Or.inr (q.kept hq))⟩, h8, h9, h10, Nat.le_trans h11 hz, h12, h13.kept (hq _ (Nat.lt_of_lt_of_le h14 h11) (Nat.not_le.mpr h14)), h14, h15⟩
theorem mEnv.word {X : mX} {U : State} {H : Heap} (h : mEnv X U H) {w : Cond} {a : Array Value} (hw : w ∈ lw_tbl) (hk : mOk w = true) : w.before a U = true := mOk_keep (State.WarmedH.refl U) hk (h.1 w hw hk)
theorem mW_get (ad : Nat → Nat) (dA : Nat → ClassId) (h : mH) (k : Nat) : (mW ad dA h)[k]? = (h[k]?).map (fun e => (ad k, mC ad dA e)) := by
  simp [mW, List.getElem?_mapIdx]
theorem mW_at {ad : Nat → Nat} {dA : Nat → ClassId} {h : mH} {k : Nat} {e : mE} (hk : h[k]? = some e) : (mW ad dA h)[k]? = some (ad k, mC ad dA e) := by
  rw [mW_get, hk]; rfl
theorem mW_set (ad : Nat → Nat) (dA : Nat → ClassId) (h : mH) (k : Nat) (e : mE) : (mW ad dA h).set k (ad k, mC ad dA e) = mW ad dA (h.set k e) := by
  apply List.ext_getElem?
  intro j
  rw [mW_get, List.getElem?_set, List.getElem?_set]
  by_cases hj : k = j
  · subst hj
    simp only [if_true]
    by_cases hl : k < h.length
    · simp [mW, hl]
    · simp [mW, hl]
  · simp only [hj, if_false]
    rw [mW_get]
