/-! The same machine over whole numbers: an int is Int32.ofInt of one, a long Int64.ofInt. -/
abbrev zV : Type := Int ⊕ Int ⊕ Option Nat
abbrev zE : Type := (Nat × Nat × ((Nat → Int) ⊕ (Nat → Option Nat))) ⊕ (Nat × List zV)
abbrev zH : Type := List zE
abbrev zO : Type := Option zV ⊕ Nat
def zT (v : zV) : Value := match v with
  | .inl z => .int (Int32.ofInt z)
  | .inr (.inl z) => .long (Int64.ofInt z)
  | .inr (.inr none) => .null
  | .inr (.inr (some k)) => .ref k
def zA (t : Nat) (f : (Nat → Int) ⊕ (Nat → Option Nat)) : (Nat → Int32) ⊕ (Nat → Int64) ⊕ (Nat → UInt32) ⊕ (Nat → UInt64) ⊕ (Nat → Option Nat) := match f with
  | .inl f => if t = 1 then .inr (.inl (fun i => Int64.ofInt (f i))) else .inl (fun i => Int32.ofInt (f i))
  | .inr f => .inr (.inr (.inr (.inr f)))
def zC (e : zE) : mE := match e with
  | .inl a => .inl (a.1, a.2.1, zA a.1 a.2.2)
  | .inr c => .inr (c.1, c.2.map zT)
def zOt (o : zO) : mO := match o with
  | .inl r => .inl (r.map zT)
  | .inr n => .inr n
def zQ (Q : zO → zH → Prop) : mO → mH → Prop := fun o h => ∃ (o2 : zO) (h2 : zH), o = zOt o2 ∧ h = h2.map zC ∧ Q o2 h2
def zL (L : List (Option zV)) : List (Option Value) := L.map (Option.map zT)
def zWP (X : mX) (M : mM) (d : Nat) (Q : zO → zH → Prop) (pc : Nat) (L : List (Option zV)) (st : List zV) (h : zH) (bc bs : Nat) : Prop := mWP X M d (zQ Q) pc (zL L) (st.map zT) (h.map zC) bc bs
def zEv (X : mX) (d : Nat) (M : mM) (as : List zV) (h : zH) (Q : zO → zH → Prop) : Prop := mEv X d M (as.map zT) (h.map zC) (zQ Q)
/-- in the range of an int, of a long -/
def rI (z : Int) : Prop := -2147483648 ≤ z ∧ z < 2147483648
def rL (z : Int) : Prop := -9223372036854775808 ≤ z ∧ z < 9223372036854775808
def zKill (L : List (Option zV)) (i : Nat) : List (Option zV) := match i with
  | 0 => L
  | j + 1 => match L[j]? with
    | some (some (.inr (.inl _))) => L.set j none
    | _ => L
def zSt1 (L : List (Option zV)) (i : Nat) (v : zV) : List (Option zV) := (zKill L i).set i (some v)
def zSt2 (L : List (Option zV)) (i : Nat) (v : zV) : List (Option zV) := ((zKill L i).set i (some v)).set (i + 1) none
theorem zL_get (L : List (Option zV)) (k : Nat) : (zL L)[k]? = (L[k]?).map (Option.map zT) := by simp [zL]
theorem zL_at {L : List (Option zV)} {k : Nat} {v : zV} (h : L[k]? = some (some v)) : (zL L)[k]? = some (some (zT v)) := by rw [zL_get, h]; rfl
theorem zKill_eq (L : List (Option zV)) (i : Nat) : mKill (zL L) i = zL (zKill L i) := by
  cases i with
  | zero => rfl
  | succ j =>
    simp only [mKill, zKill, zL_get]
    cases hj : L[j]? with
    | none => rfl
    | some o =>
      cases o with
      | none => rfl
      | some v =>
        match v with
        | .inl z => rfl
        | .inr (.inl z) => simp [zT, zL]
        | .inr (.inr none) => rfl
        | .inr (.inr (some k)) => rfl
theorem zSt1_eq (L : List (Option zV)) (i : Nat) (v : zV) : mSt1 (zL L) i (zT v) = zL (zSt1 L i v) := by
  simp only [mSt1, zSt1, zKill_eq]
  simp [zL]
theorem zSt2_eq (L : List (Option zV)) (i : Nat) (v : zV) : mSt2 (zL L) i (zT v) = zL (zSt2 L i v) := by
  simp only [mSt2, zSt2, zKill_eq]
  simp [zL]
theorem rI_to {z : Int} (h : rI z) : (Int32.ofInt z).toInt = z := Int32.toInt_ofInt_of_le (by have := h.1; omega) (by have := h.2; omega)
theorem rL_to {z : Int} (h : rL z) : (Int64.ofInt z).toInt = z := Int64.toInt_ofInt_of_le (by have := h.1; omega) (by have := h.2; omega)
theorem zI_lt {a b : Int} (ha : rI a) (hb : rI b) : Int32.ofInt a < Int32.ofInt b ↔ a < b := by rw [Int32.lt_iff_toInt_lt, rI_to ha, rI_to hb]
theorem zI_le {a b : Int} (ha : rI a) (hb : rI b) : Int32.ofInt a ≤ Int32.ofInt b ↔ a ≤ b := by rw [Int32.le_iff_toInt_le, rI_to ha, rI_to hb]
theorem zI_eq {a b : Int} (ha : rI a) (hb : rI b) : Int32.ofInt a = Int32.ofInt b ↔ a = b := by rw [← Int32.toInt_inj, rI_to ha, rI_to hb]
theorem zL_lt {a b : Int} (ha : rL a) (hb : rL b) : Int64.ofInt a < Int64.ofInt b ↔ a < b := by rw [Int64.lt_iff_toInt_lt, rL_to ha, rL_to hb]
theorem zL_eq {a b : Int} (ha : rL a) (hb : rL b) : Int64.ofInt a = Int64.ofInt b ↔ a = b := by rw [← Int64.toInt_inj, rL_to ha, rL_to hb]
theorem rI_0 : rI 0 := ⟨by omega, by omega⟩
theorem zI_asI (x : Int32) : Int32.ofInt x.toInt = x := by apply Int32.toInt_inj.mp; rw [Int32.toInt_ofInt_of_le (Int32.le_toInt x) (Int32.toInt_lt x)]
theorem zL_asI (x : Int64) : Int64.ofInt x.toInt = x := by apply Int64.toInt_inj.mp; rw [Int64.toInt_ofInt_of_le (Int64.le_toInt x) (Int64.toInt_lt x)]
theorem zI_in {z : Int} {n : Nat} (hr : rI z) (h1 : 0 ≤ z) (h2 : z < n) : vp_in (Int32.ofInt z) n ∧ (Int32.ofInt z).toNatClampNeg = z.toNat := by
  have e : (Int32.ofInt z).toNatClampNeg = z.toNat := by
    show (Int32.ofInt z).toInt.toNat = _
    rw [rI_to hr]
  refine ⟨?_, e⟩
  intro q
  rcases q with q | q
  · have q2 : Int32.ofInt z < Int32.ofInt 0 := q
    rw [zI_lt hr rI_0] at q2
    omega
  · rw [e] at q
    omega
theorem zH_at {h : zH} {k : Nat} {e : zE} (hk : h[k]? = some e) : (h.map zC)[k]? = some (zC e) := by rw [List.getElem?_map, hk]; rfl
theorem zH_set (h : zH) (k : Nat) (e : zE) : (h.map zC).set k (zC e) = (h.set k e).map zC := by rw [List.map_set]
