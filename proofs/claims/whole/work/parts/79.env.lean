/-! what holds at the law's entry -/
theorem sOne {args : Array Value} {s : State} {tm : Term} {bs : List Int32} {A : Nat → Prop} (hN : bs.length < 2 ^ 31) (hex : (Cond.exactly tm "java/lang/String").before args s = true) (hco : (Cond.eq (.field tm "java/lang/String" "coder" "B") (.int 0)).before args s = true) (har : (Cond.arrayOf (.field tm "java/lang/String" "value" "[B") .byte).before args s = true) (hle : (Cond.eq (.length (.field tm "java/lang/String" "value" "[B")) (.int (Int32.ofNat bs.length))).before args s = true) (hel : ∀ j : Nat, j < bs.length → (Cond.eq (.elem (.field tm "java/lang/String" "value" "[B") (.int (Int32.ofNat j))) (.int (bs.getD j 0))).before args s = true) (hA : ∀ a : Nat, a < s.heap.size → ¬ A a) :
    ∃ q t : Nat, tm.eval args s none [] s = some (.ref q) ∧ va_O "java/lang/String" q A s s.heap ∧ va_OF "java/lang/String" "coder" "B" (.int 0) q A s s.heap ∧ va_OF "java/lang/String" "value" "[B" (.ref t) q A s s.heap ∧ va_T .byte t bs.length (fun j => .int (bs.getD j 0)) A s s.heap := by
  obtain ⟨a, c, cA, kA, q1, q2, q3, q4, q5, q6, -⟩ := Cond.exactly_spec (args := args) (first := s) (o := none) (s := s) (idx := []) (t := tm) (cls := "java/lang/String") hex
  obtain ⟨t, ht, hT⟩ := va_Tof (f := fun j => .int (bs.getD j 0)) (A := A) hN har (va_eqt hle) (fun j hj => va_eqt (hel j hj)) hA
  exact ⟨a, t, q1, ⟨cA, q3, q5, by rw [q6]; exact q2, hA a (Array.getElem?_eq_some_iff.mp q3).1⟩, vk_OFof q1 (va_eqt hco) hA, vk_OFof q1 ht hA, hT⟩
theorem sTwo {args : Array Value} {s : State} {tm : Term} (hex : (Cond.exactly tm "java/lang/String").before args s = true) : ∃ q : Nat, tm.eval args s none [] s = some (.ref q) := by
  obtain ⟨a, c, cA, kA, q1, -⟩ := Cond.exactly_spec (args := args) (first := s) (o := none) (s := s) (idx := []) (t := tm) (cls := "java/lang/String") hex
  exact ⟨a, q1⟩
theorem aPrim {args : Array Value} {s : State} {ty : FieldType} (h : (Cond.arrayClass ty).before args s = true) : ∃ c : ClassId, ArrOfT s c ty ∧ s.vm.findClass ("[" ++ ty.toString) = some c := by
  obtain ⟨c, k, comp, h1, h2, h3⟩ := Cond.arrayClass_spec h
  exact ⟨c, fun n z => ⟨fun k h => (by cases h), k, h2, comp, h3⟩, h1⟩
theorem aObj {args : Array Value} {s : State} {C : String} (h : (Cond.arrayOver (.object C)).before args s = true) : ∃ c : ClassId, ArrOfT s c (.object C) ∧ va_RA s c (.object C) := by
  obtain ⟨comp, c, k, h1, h2, h3, h4, h5⟩ := Cond.arrayOver_spec h
  exact ⟨c, fun n z => ⟨fun k h => (by cases h), k, h3, comp, h4⟩, k, comp, h3, h4, h1, h5⟩
/-- the places of what was there: the strings by their numbers, their bytes, the script, the formatter -/
def plc (a t : Nat → Nat) (b z : Nat) : Nat → Nat := fun p => if p = 500 then b else if p = 501 then z else if 100 ≤ p ∧ p < 104 then t (p - 100) else a p
section En
variable {l : Launch} {s : State} {b : Nat}
set_option maxHeartbeats 1000000 in
set_option maxRecDepth 100000 in
theorem en_cl (hts : ∀ w ∈ lw_tbl, w.before #[Value.ref b] s = true) : ∃ D : va_G, ∀ (c : Nat) (q : vw_C), vwCl[c]? = some q → u_Kn s q.1 q.2.1 q.2.2 (D.1 c) (D.2 c) := by
  have hcl : ∀ k : Nat, ∃ p : ClassId × (Nat → Nat), ∀ q : vw_C, vwCl[k]? = some q → u_Kn s q.1 q.2.1 q.2.2 p.1 p.2 := by
    intro k
    match k with
    | 0 =>
      obtain ⟨c0, i0, h⟩ := u_known (C := RX0) (T := TX0) (N := 1) (n := 1) hts (fun w hw => (mCls0.1 w hw).1) (hts (.instantiable RX0 1) (by decide +kernel))
      exact ⟨(c0, i0), fun q hq => by cases hq; exact h⟩
    | 1 =>
      obtain ⟨c0, i0, h⟩ := u_known (C := RX1) (T := TX1) (N := 1) (n := 1) hts (fun w hw => (mCls1.1 w hw).1) (hts (.instantiable RX1 1) (by decide +kernel))
      exact ⟨(c0, i0), fun q hq => by cases hq; exact h⟩
    | 2 =>
      obtain ⟨c0, i0, h⟩ := u_known (C := RX2) (T := TX2) (N := 8) (n := 8) hts (fun w hw => (mCls2.1 w hw).1) (hts (.instantiable RX2 8) (by decide +kernel))
      exact ⟨(c0, i0), fun q hq => by cases hq; exact h⟩
    | 3 =>
      obtain ⟨c0, i0, h⟩ := u_known (C := RX3) (T := TX3) (N := 1) (n := 1) hts (fun w hw => (mCls3.1 w hw).1) (hts (.instantiable RX3 1) (by decide +kernel))
      exact ⟨(c0, i0), fun q hq => by cases hq; exact h⟩
    | 4 =>
      obtain ⟨c0, i0, h⟩ := u_known (C := RX4) (T := TX4) (N := 4) (n := 4) hts (fun w hw => (mCls4.1 w hw).1) (hts (.instantiable RX4 4) (by decide +kernel))
      exact ⟨(c0, i0), fun q hq => by cases hq; exact h⟩
    | 5 =>
      obtain ⟨c0, i0, h⟩ := u_known (C := RX5) (T := TX5) (N := 13) (n := 13) hts (fun w hw => (mCls5.1 w hw).1) (hts (.instantiable RX5 13) (by decide +kernel))
      exact ⟨(c0, i0), fun q hq => by cases hq; exact h⟩
    | 6 =>
      obtain ⟨c0, i0, h⟩ := u_known (C := RX6) (T := TX6) (N := 2) (n := 2) hts (fun w hw => (mCls6.1 w hw).1) (hts (.instantiable RX6 2) (by decide +kernel))
      exact ⟨(c0, i0), fun q hq => by cases hq; exact h⟩
    | 7 =>
      obtain ⟨c0, i0, h⟩ := u_known (C := RX7) (T := TX7) (N := 4) (n := 4) hts (fun w hw => (mCls7.1 w hw).1) (hts (.instantiable RX7 4) (by decide +kernel))
      exact ⟨(c0, i0), fun q hq => by cases hq; exact h⟩
    | 8 =>
      obtain ⟨c0, i0, h⟩ := u_known (C := RX8) (T := TX8) (N := 3) (n := 3) hts (fun w hw => (mCls8.1 w hw).1) (hts (.instantiable RX8 3) (by decide +kernel))
      exact ⟨(c0, i0), fun q hq => by cases hq; exact h⟩
    | 9 =>
      obtain ⟨c0, i0, h⟩ := u_known (C := RX9) (T := TX9) (N := 10) (n := 10) hts (fun w hw => (mCls9.1 w hw).1) (hts (.instantiable RX9 10) (by decide +kernel))
      exact ⟨(c0, i0), fun q hq => by cases hq; exact h⟩
    | 10 =>
      obtain ⟨c0, i0, h⟩ := u_known (C := RX10) (T := TX10) (N := 27) (n := 27) hts (fun w hw => (mCls10.1 w hw).1) (hts (.instantiable RX10 27) (by decide +kernel))
      exact ⟨(c0, i0), fun q hq => by cases hq; exact h⟩
    | k + 11 => exact ⟨(0, fun _ => 0), fun q hq => by simp [vwCl] at hq⟩
  obtain ⟨D, hD⟩ := Classical.skolem.mp hcl
  exact ⟨(fun k => (D k).1, fun k => (D k).2), fun c q hq => hD c q hq⟩
set_option maxHeartbeats 1000000 in
set_option maxRecDepth 100000 in
theorem en_ar (hts : ∀ w ∈ lw_tbl, w.before #[Value.ref b] s = true) : ∃ dA : Nat → ClassId, ∀ (k : Nat) (q : ClassId × FieldType), (mT dA)[k]? = some q → ArrOfT s q.1 q.2 ∧ va_RA s q.1 q.2 := by
  obtain ⟨c0, a0, e0⟩ := aPrim (hts (.arrayClass .int) (by decide +kernel))
  obtain ⟨c1, a1, e1⟩ := aPrim (hts (.arrayClass .long) (by decide +kernel))
  obtain ⟨c2, a2, e2⟩ := aPrim (hts (.arrayClass .byte) (by decide +kernel))
  obtain ⟨c3, a3, e3⟩ := aPrim (hts (.arrayClass .boolean) (by decide +kernel))
  obtain ⟨c4, a4, e4⟩ := aObj (hts (.arrayOver (.object "SugarDice$Tray")) (by decide +kernel))
  obtain ⟨c5, a5, e5⟩ := aObj (hts (.arrayOver (.object "SugarDice$Game")) (by decide +kernel))
  refine ⟨fun k => match k with
    | 0 => c0
    | 1 => c1
    | 2 => c2
    | 3 => c3
    | 4 => c4
    | _ => c5, ?_⟩
  intro k q hq
  match k, hq with
  | 0, hq => have e : (c0, FieldType.int) = q := Option.some.inj hq; subst e; exact ⟨a0, e0⟩
  | 1, hq => have e : (c1, FieldType.long) = q := Option.some.inj hq; subst e; exact ⟨a1, e1⟩
  | 2, hq => have e : (c2, FieldType.byte) = q := Option.some.inj hq; subst e; exact ⟨a2, e2⟩
  | 3, hq => have e : (c3, FieldType.boolean) = q := Option.some.inj hq; subst e; exact ⟨a3, e3⟩
  | 4, hq => have e : (c4, FieldType.object "SugarDice$Tray") = q := Option.some.inj hq; subst e; exact ⟨a4, e4⟩
  | 5, hq => have e : (c5, FieldType.object "SugarDice$Game") = q := Option.some.inj hq; subst e; exact ⟨a5, e5⟩
  | k + 6, hq => simp [mT] at hq
set_option maxHeartbeats 1000000 in
set_option maxRecDepth 100000 in
theorem en_t0 (hgv : (Jvm.Cond.and given_1 narrow_1).before #[Value.ref b] s = true) {A : Nat → Prop} (hA : ∀ a : Nat, a < s.heap.size → ¬ A a) : ∃ q t : Nat, (Term.string "SugarDice$TableText" 101).eval #[Value.ref b] s none [] s = some (.ref q) ∧ (Term.string "SugarDiceModel" 136).eval #[Value.ref b] s none [] s = some (.ref q) ∧ va_O "java/lang/String" q A s s.heap ∧ va_OF "java/lang/String" "coder" "B" (.int 0) q A s s.heap ∧ va_OF "java/lang/String" "value" "[B" (.ref t) q A s s.heap ∧ va_T .byte t (mByt.getD 0 []).length (fun j => .int ((mByt.getD 0 []).getD j 0)) A s s.heap := by
  have hs := flat_of_before _ hgv
  obtain ⟨q, t, h1, h2⟩ := sOne (tm := (.string "SugarDice$TableText" 101)) (bs := mByt.getD 0 []) (A := A) (by decide) (hs _ (by decide +kernel)) (hs _ (by decide +kernel)) (hs _ (by decide +kernel)) (hs _ (by decide +kernel)) (fun j hj => by
    have hj2 : j < 3 := hj
    have e : j = 0 ∨ j = 1 ∨ j = 2 := by omega
    rcases e with rfl | rfl | rfl
    · exact hs _ (by decide +kernel)
    · exact hs _ (by decide +kernel)
    · exact hs _ (by decide +kernel)
    ) hA
  obtain ⟨q2, g1⟩ := sTwo (tm := .string "SugarDiceModel" 136) (hs _ (by decide +kernel))
  have e := Cond.eq_refs (hs (Cond.eq (.string "SugarDice$TableText" 101) (.string "SugarDiceModel" 136)) (by decide +kernel)) g1 rfl
  rw [h1] at e
  cases e
  exact ⟨q, t, h1, g1, h2⟩
set_option maxHeartbeats 1000000 in
set_option maxRecDepth 100000 in
theorem en_t1 (hgv : (Jvm.Cond.and given_1 narrow_1).before #[Value.ref b] s = true) {A : Nat → Prop} (hA : ∀ a : Nat, a < s.heap.size → ¬ A a) : ∃ q t : Nat, (Term.string "SugarDice$TableText" 107).eval #[Value.ref b] s none [] s = some (.ref q) ∧ (Term.string "SugarDiceModel" 131).eval #[Value.ref b] s none [] s = some (.ref q) ∧ va_O "java/lang/String" q A s s.heap ∧ va_OF "java/lang/String" "coder" "B" (.int 0) q A s s.heap ∧ va_OF "java/lang/String" "value" "[B" (.ref t) q A s s.heap ∧ va_T .byte t (mByt.getD 1 []).length (fun j => .int ((mByt.getD 1 []).getD j 0)) A s s.heap := by
  have hs := flat_of_before _ hgv
  obtain ⟨q, t, h1, h2⟩ := sOne (tm := (.string "SugarDice$TableText" 107)) (bs := mByt.getD 1 []) (A := A) (by decide) (hs _ (by decide +kernel)) (hs _ (by decide +kernel)) (hs _ (by decide +kernel)) (hs _ (by decide +kernel)) (fun j hj => by
    have hj2 : j < 4 := hj
    have e : j = 0 ∨ j = 1 ∨ j = 2 ∨ j = 3 := by omega
    rcases e with rfl | rfl | rfl | rfl
    · exact hs _ (by decide +kernel)
    · exact hs _ (by decide +kernel)
    · exact hs _ (by decide +kernel)
    · exact hs _ (by decide +kernel)
    ) hA
  obtain ⟨q2, g1⟩ := sTwo (tm := .string "SugarDiceModel" 131) (hs _ (by decide +kernel))
  have e := Cond.eq_refs (hs (Cond.eq (.string "SugarDice$TableText" 107) (.string "SugarDiceModel" 131)) (by decide +kernel)) g1 rfl
  rw [h1] at e
  cases e
  exact ⟨q, t, h1, g1, h2⟩
set_option maxHeartbeats 1000000 in
set_option maxRecDepth 100000 in
theorem en_t2 (hgv : (Jvm.Cond.and given_1 narrow_1).before #[Value.ref b] s = true) {A : Nat → Prop} (hA : ∀ a : Nat, a < s.heap.size → ¬ A a) : ∃ q t : Nat, (Term.string "SugarDice$TableText" 109).eval #[Value.ref b] s none [] s = some (.ref q) ∧ (Term.string "SugarDiceModel" 141).eval #[Value.ref b] s none [] s = some (.ref q) ∧ va_O "java/lang/String" q A s s.heap ∧ va_OF "java/lang/String" "coder" "B" (.int 0) q A s s.heap ∧ va_OF "java/lang/String" "value" "[B" (.ref t) q A s s.heap ∧ va_T .byte t (mByt.getD 2 []).length (fun j => .int ((mByt.getD 2 []).getD j 0)) A s s.heap := by
  have hs := flat_of_before _ hgv
  obtain ⟨q, t, h1, h2⟩ := sOne (tm := (.string "SugarDice$TableText" 109)) (bs := mByt.getD 2 []) (A := A) (by decide) (hs _ (by decide +kernel)) (hs _ (by decide +kernel)) (hs _ (by decide +kernel)) (hs _ (by decide +kernel)) (fun j hj => by
    have hj2 : j < 4 := hj
    have e : j = 0 ∨ j = 1 ∨ j = 2 ∨ j = 3 := by omega
    rcases e with rfl | rfl | rfl | rfl
    · exact hs _ (by decide +kernel)
    · exact hs _ (by decide +kernel)
    · exact hs _ (by decide +kernel)
    · exact hs _ (by decide +kernel)
    ) hA
  obtain ⟨q2, g1⟩ := sTwo (tm := .string "SugarDiceModel" 141) (hs _ (by decide +kernel))
  have e := Cond.eq_refs (hs (Cond.eq (.string "SugarDice$TableText" 109) (.string "SugarDiceModel" 141)) (by decide +kernel)) g1 rfl
  rw [h1] at e
  cases e
  exact ⟨q, t, h1, g1, h2⟩
set_option maxHeartbeats 1000000 in
set_option maxRecDepth 100000 in
theorem en_t3 (hgv : (Jvm.Cond.and given_1 narrow_1).before #[Value.ref b] s = true) {A : Nat → Prop} (hA : ∀ a : Nat, a < s.heap.size → ¬ A a) : ∃ q t : Nat, (Term.string "SugarDice$TableText" 111).eval #[Value.ref b] s none [] s = some (.ref q) ∧ (Term.string "SugarDiceModel" 146).eval #[Value.ref b] s none [] s = some (.ref q) ∧ va_O "java/lang/String" q A s s.heap ∧ va_OF "java/lang/String" "coder" "B" (.int 0) q A s s.heap ∧ va_OF "java/lang/String" "value" "[B" (.ref t) q A s s.heap ∧ va_T .byte t (mByt.getD 3 []).length (fun j => .int ((mByt.getD 3 []).getD j 0)) A s s.heap := by
  have hs := flat_of_before _ hgv
  obtain ⟨q, t, h1, h2⟩ := sOne (tm := (.string "SugarDice$TableText" 111)) (bs := mByt.getD 3 []) (A := A) (by decide) (hs _ (by decide +kernel)) (hs _ (by decide +kernel)) (hs _ (by decide +kernel)) (hs _ (by decide +kernel)) (fun j hj => by
    have hj2 : j < 4 := hj
    have e : j = 0 ∨ j = 1 ∨ j = 2 ∨ j = 3 := by omega
    rcases e with rfl | rfl | rfl | rfl
    · exact hs _ (by decide +kernel)
    · exact hs _ (by decide +kernel)
    · exact hs _ (by decide +kernel)
    · exact hs _ (by decide +kernel)
    ) hA
  obtain ⟨q2, g1⟩ := sTwo (tm := .string "SugarDiceModel" 146) (hs _ (by decide +kernel))
  have e := Cond.eq_refs (hs (Cond.eq (.string "SugarDice$TableText" 111) (.string "SugarDiceModel" 146)) (by decide +kernel)) g1 rfl
  rw [h1] at e
  cases e
  exact ⟨q, t, h1, g1, h2⟩
set_option maxHeartbeats 1000000 in
set_option maxRecDepth 100000 in
theorem en_so (hgv : (Jvm.Cond.and given_1 narrow_1).before #[Value.ref b] s = true) : ∃ a : Nat → Nat, (Term.string "SugarDice" 94).eval #[Value.ref b] s none [] s = some (.ref (a 200)) ∧ (Term.string "SugarDice" 424).eval #[Value.ref b] s none [] s = some (.ref (a 201)) ∧ (Term.string "SugarDice" 441).eval #[Value.ref b] s none [] s = some (.ref (a 202)) ∧ (Term.string "SugarDice" 429).eval #[Value.ref b] s none [] s = some (.ref (a 203)) ∧ (Term.string "SugarDice" 431).eval #[Value.ref b] s none [] s = some (.ref (a 204)) ∧ (Term.string "SugarDice" 433).eval #[Value.ref b] s none [] s = some (.ref (a 205)) ∧ (Term.string "SugarDice" 439).eval #[Value.ref b] s none [] s = some (.ref (a 206)) ∧ (Term.string "SugarDice" 182).eval #[Value.ref b] s none [] s = some (.ref (a 207)) ∧ (Term.string "SugarDice" 188).eval #[Value.ref b] s none [] s = some (.ref (a 208)) ∧ (Term.string "SugarDice" 195).eval #[Value.ref b] s none [] s = some (.ref (a 209)) ∧ (Term.string "SugarDice" 207).eval #[Value.ref b] s none [] s = some (.ref (a 210)) ∧ (Term.string "SugarDice" 215).eval #[Value.ref b] s none [] s = some (.ref (a 211)) ∧ (Term.string "SugarDice" 460).eval #[Value.ref b] s none [] s = some (.ref (a 212)) ∧ (Term.string "SugarDice" 466).eval #[Value.ref b] s none [] s = some (.ref (a 213)) ∧ (Term.string "SugarDice" 443).eval #[Value.ref b] s none [] s = some (.ref (a 214)) ∧ (Term.string "SugarDice" 255).eval #[Value.ref b] s none [] s = some (.ref (a 215)) ∧ (Term.string "SugarDice" 449).eval #[Value.ref b] s none [] s = some (.ref (a 216)) ∧ (Term.string "SugarDice" 451).eval #[Value.ref b] s none [] s = some (.ref (a 217)) ∧ (Term.string "SugarDice" 447).eval #[Value.ref b] s none [] s = some (.ref (a 218)) ∧ (Term.string "SugarDice" 445).eval #[Value.ref b] s none [] s = some (.ref (a 219)) ∧ (Term.string "SugarDice" 320).eval #[Value.ref b] s none [] s = some (.ref (a 220)) ∧ (Term.string "SugarDice" 352).eval #[Value.ref b] s none [] s = some (.ref (a 221)) ∧ (Term.string "SugarDice" 456).eval #[Value.ref b] s none [] s = some (.ref (a 222)) ∧ (Term.string "SugarDice" 389).eval #[Value.ref b] s none [] s = some (.ref (a 223)) ∧ (Term.string "SugarDice" 396).eval #[Value.ref b] s none [] s = some (.ref (a 224)) ∧ (Term.string "SugarDice" 458).eval #[Value.ref b] s none [] s = some (.ref (a 225)) ∧ (Term.string "SugarDice" 413).eval #[Value.ref b] s none [] s = some (.ref (a 226)) := by
  have hs := flat_of_before _ hgv
  obtain ⟨a200, e200⟩ := sTwo (tm := .string "SugarDice" 94) (hs _ (by decide +kernel))
  obtain ⟨a201, e201⟩ := sTwo (tm := .string "SugarDice" 424) (hs _ (by decide +kernel))
  obtain ⟨a202, e202⟩ := sTwo (tm := .string "SugarDice" 441) (hs _ (by decide +kernel))
  obtain ⟨a203, e203⟩ := sTwo (tm := .string "SugarDice" 429) (hs _ (by decide +kernel))
  obtain ⟨a204, e204⟩ := sTwo (tm := .string "SugarDice" 431) (hs _ (by decide +kernel))
  obtain ⟨a205, e205⟩ := sTwo (tm := .string "SugarDice" 433) (hs _ (by decide +kernel))
  obtain ⟨a206, e206⟩ := sTwo (tm := .string "SugarDice" 439) (hs _ (by decide +kernel))
  obtain ⟨a207, e207⟩ := sTwo (tm := .string "SugarDice" 182) (hs _ (by decide +kernel))
  obtain ⟨a208, e208⟩ := sTwo (tm := .string "SugarDice" 188) (hs _ (by decide +kernel))
  obtain ⟨a209, e209⟩ := sTwo (tm := .string "SugarDice" 195) (hs _ (by decide +kernel))
  obtain ⟨a210, e210⟩ := sTwo (tm := .string "SugarDice" 207) (hs _ (by decide +kernel))
  obtain ⟨a211, e211⟩ := sTwo (tm := .string "SugarDice" 215) (hs _ (by decide +kernel))
  obtain ⟨a212, e212⟩ := sTwo (tm := .string "SugarDice" 460) (hs _ (by decide +kernel))
  obtain ⟨a213, e213⟩ := sTwo (tm := .string "SugarDice" 466) (hs _ (by decide +kernel))
  obtain ⟨a214, e214⟩ := sTwo (tm := .string "SugarDice" 443) (hs _ (by decide +kernel))
  obtain ⟨a215, e215⟩ := sTwo (tm := .string "SugarDice" 255) (hs _ (by decide +kernel))
  obtain ⟨a216, e216⟩ := sTwo (tm := .string "SugarDice" 449) (hs _ (by decide +kernel))
  obtain ⟨a217, e217⟩ := sTwo (tm := .string "SugarDice" 451) (hs _ (by decide +kernel))
  obtain ⟨a218, e218⟩ := sTwo (tm := .string "SugarDice" 447) (hs _ (by decide +kernel))
  obtain ⟨a219, e219⟩ := sTwo (tm := .string "SugarDice" 445) (hs _ (by decide +kernel))
  obtain ⟨a220, e220⟩ := sTwo (tm := .string "SugarDice" 320) (hs _ (by decide +kernel))
  obtain ⟨a221, e221⟩ := sTwo (tm := .string "SugarDice" 352) (hs _ (by decide +kernel))
  obtain ⟨a222, e222⟩ := sTwo (tm := .string "SugarDice" 456) (hs _ (by decide +kernel))
  obtain ⟨a223, e223⟩ := sTwo (tm := .string "SugarDice" 389) (hs _ (by decide +kernel))
  obtain ⟨a224, e224⟩ := sTwo (tm := .string "SugarDice" 396) (hs _ (by decide +kernel))
  obtain ⟨a225, e225⟩ := sTwo (tm := .string "SugarDice" 458) (hs _ (by decide +kernel))
  obtain ⟨a226, e226⟩ := sTwo (tm := .string "SugarDice" 413) (hs _ (by decide +kernel))
  exact ⟨fun p => if p = 200 then a200 else if p = 201 then a201 else if p = 202 then a202 else if p = 203 then a203 else if p = 204 then a204 else if p = 205 then a205 else if p = 206 then a206 else if p = 207 then a207 else if p = 208 then a208 else if p = 209 then a209 else if p = 210 then a210 else if p = 211 then a211 else if p = 212 then a212 else if p = 213 then a213 else if p = 214 then a214 else if p = 215 then a215 else if p = 216 then a216 else if p = 217 then a217 else if p = 218 then a218 else if p = 219 then a219 else if p = 220 then a220 else if p = 221 then a221 else if p = 222 then a222 else if p = 223 then a223 else if p = 224 then a224 else if p = 225 then a225 else if p = 226 then a226 else 0, e200, e201, e202, e203, e204, e205, e206, e207, e208, e209, e210, e211, e212, e213, e214, e215, e216, e217, e218, e219, e220, e221, e222, e223, e224, e225, e226⟩
set_option maxHeartbeats 1000000 in
set_option maxRecDepth 100000 in
theorem en_nc (hgv : (Jvm.Cond.and given_1 narrow_1).before #[Value.ref b] s = true) : ∀ q ∈ mNc, va_Nc q.1 q.2 s := by
  have hs := flat_of_before _ hgv
  show ∀ q ∈ mNcs, va_Nc q.1 q.2 s
  exact List.forall_mem_cons.mpr ⟨va_Nc.of (hs (Cond.not (.castable "java/lang/IllegalArgumentException" "java/lang/IllegalStateException")) (by decide +kernel)), List.forall_mem_cons.mpr ⟨va_Nc.of (hs (Cond.not (.castable "java/lang/IllegalArgumentException" "java/lang/IndexOutOfBoundsException")) (by decide +kernel)), List.forall_mem_cons.mpr ⟨va_Nc.of (hs (Cond.not (.castable "java/lang/IllegalArgumentException" "java/util/NoSuchElementException")) (by decide +kernel)), List.forall_mem_cons.mpr ⟨va_Nc.of (hs (Cond.not (.castable "java/lang/IllegalStateException" "java/lang/IllegalArgumentException")) (by decide +kernel)), List.forall_mem_cons.mpr ⟨va_Nc.of (hs (Cond.not (.castable "java/lang/IllegalStateException" "java/lang/IndexOutOfBoundsException")) (by decide +kernel)), List.forall_mem_cons.mpr ⟨va_Nc.of (hs (Cond.not (.castable "java/lang/IllegalStateException" "java/util/NoSuchElementException")) (by decide +kernel)), List.forall_mem_cons.mpr ⟨va_Nc.of (hs (Cond.not (.castable "java/lang/IndexOutOfBoundsException" "java/lang/IllegalArgumentException")) (by decide +kernel)), List.forall_mem_cons.mpr ⟨va_Nc.of (hs (Cond.not (.castable "java/lang/IndexOutOfBoundsException" "java/lang/IllegalStateException")) (by decide +kernel)), List.forall_mem_cons.mpr ⟨va_Nc.of (hs (Cond.not (.castable "java/lang/IndexOutOfBoundsException" "java/util/NoSuchElementException")) (by decide +kernel)), List.forall_mem_cons.mpr ⟨va_Nc.of (hs (Cond.not (.castable "java/util/NoSuchElementException" "java/lang/IllegalArgumentException")) (by decide +kernel)), List.forall_mem_cons.mpr ⟨va_Nc.of (hs (Cond.not (.castable "java/util/NoSuchElementException" "java/lang/IllegalStateException")) (by decide +kernel)), List.forall_mem_cons.mpr ⟨va_Nc.of (hs (Cond.not (.castable "java/util/NoSuchElementException" "java/lang/IndexOutOfBoundsException")) (by decide +kernel)), fun _ h => absurd h List.not_mem_nil⟩⟩⟩⟩⟩⟩⟩⟩⟩⟩⟩⟩
set_option maxHeartbeats 1000000 in
set_option maxRecDepth 100000 in
theorem env_start {L : Nat} {xs : Nat → Int32} (hl : l.stackTraces = false) (hL : L ≤ 3072) (hts : ∀ w ∈ lw_tbl, w.before #[Value.ref b] s = true) (hX : va_X b L xs s s.heap) (hbl : b < s.heap.size) (hgv : (Jvm.Cond.and given_1 narrow_1).before #[Value.ref b] s = true) : ∃ (D : va_G) (dA : Nat → ClassId) (pl : Nat → Nat), pl 500 = b ∧ mEnv (l, D, dA, s.heap.size, pl, L, xs) s s.heap := by
  have hA : ∀ a : Nat, a < s.heap.size → ¬ (fun q : Nat => s.heap.size ≤ q) a := fun a h => Nat.not_le.mpr h
  have hs := flat_of_before _ hgv
  obtain ⟨D, hD⟩ := en_cl hts
  obtain ⟨dA, hdA⟩ := en_ar hts
  obtain ⟨q0, t0, s0, m0, o0, c0, v0, w0⟩ := en_t0 hgv hA
  obtain ⟨q1, t1, s1, m1, o1, c1, v1, w1⟩ := en_t1 hgv hA
  obtain ⟨q2, t2, s2, m2, o2, c2, v2, w2⟩ := en_t2 hgv hA
  obtain ⟨q3, t3, s3, m3, o3, c3, v3, w3⟩ := en_t3 hgv hA
  obtain ⟨a, e200, e201, e202, e203, e204, e205, e206, e207, e208, e209, e210, e211, e212, e213, e214, e215, e216, e217, e218, e219, e220, e221, e222, e223, e224, e225, e226⟩ := en_so hgv
  have hfm := va_Zqof (A := fun q : Nat => s.heap.size ≤ q) (hts (.laysStatic "jdk/internal/util/Preconditions" "SIOOBE_FORMATTER" "Ljava/util/function/BiFunction;") (by decide +kernel)) (hts (.initialized "jdk/internal/util/Preconditions") (by decide +kernel)) (hs (.isRef (.static "jdk/internal/util/Preconditions" "SIOOBE_FORMATTER" "Ljava/util/function/BiFunction;")) (by decide +kernel)) hA
  obtain ⟨z, hz⟩ : ∃ z : Nat, va_Z "jdk/internal/util/Preconditions" "SIOOBE_FORMATTER" "Ljava/util/function/BiFunction;" .null (fun q : Nat => s.heap.size ≤ q) s s.heap ∨ va_Z "jdk/internal/util/Preconditions" "SIOOBE_FORMATTER" "Ljava/util/function/BiFunction;" (.ref z) (fun q : Nat => s.heap.size ≤ q) s s.heap := by
    rcases hfm with h | ⟨z, h⟩
    · exact ⟨0, Or.inl h⟩
    · exact ⟨z, Or.inr h⟩
  refine ⟨D, dA, plc (fun p => if p = 0 then q0 else if p = 1 then q1 else if p = 2 then q2 else if p = 3 then q3 else a p) (fun p => if p = 0 then t0 else if p = 1 then t1 else if p = 2 then t2 else t3) b z, rfl, ?_⟩
  refine ⟨fun w hw hk => mOk_keep (State.WarmedH.refl s) hk (hts w hw), ⟨hD, hdA⟩, vx_Zqof (hts (.laysStatic "java/lang/Throwable" "UNASSIGNED_STACK" "[Ljava/lang/StackTraceElement;") (by decide +kernel)) (hts (.initialized "java/lang/Throwable") (by decide +kernel)) (hs (.isRef (.static "java/lang/Throwable" "UNASSIGNED_STACK" "[Ljava/lang/StackTraceElement;")) (by decide +kernel)) hA, vx_Zqof (hts (.laysStatic "java/lang/Throwable" "SUPPRESSED_SENTINEL" "Ljava/util/List;") (by decide +kernel)) (hts (.initialized "java/lang/Throwable") (by decide +kernel)) (hs (.isRef (.static "java/lang/Throwable" "SUPPRESSED_SENTINEL" "Ljava/util/List;")) (by decide +kernel)) hA, ?_, ?_, ⟨va_Zof (hts (.laysStatic "java/lang/String" "COMPACT_STRINGS" "Z") (by decide +kernel)) (hts (.initialized "java/lang/String") (by decide +kernel)) (va_eqt (hs (Cond.eq (.static "java/lang/String" "COMPACT_STRINGS" "Z") (.int 1)) (by decide +kernel))) hA, hz⟩, en_nc hgv, va_AO.of (hts (.arrayOver (.object "SugarDice$Tray")) (by decide +kernel)), va_AO.of (hts (.arrayOver (.object "SugarDice$Game")) (by decide +kernel)), Nat.le_refl _, hl, hX, hbl, ?_⟩
  · show ∀ q ∈ mStrs, _
    exact List.forall_mem_cons.mpr ⟨vk_R.of (hts (.stringRef "SugarDice" 94 "the tape has not so many bytes") (by decide +kernel)) e200, List.forall_mem_cons.mpr ⟨vk_R.of (hts (.stringRef "SugarDice$TableText" 101 "die") (by decide +kernel)) s0, List.forall_mem_cons.mpr ⟨vk_R.of (hts (.stringRef "SugarDice$TableText" 107 "salt") (by decide +kernel)) s1, List.forall_mem_cons.mpr ⟨vk_R.of (hts (.stringRef "SugarDice$TableText" 109 "hand") (by decide +kernel)) s2, List.forall_mem_cons.mpr ⟨vk_R.of (hts (.stringRef "SugarDice$TableText" 111 "ants") (by decide +kernel)) s3, List.forall_mem_cons.mpr ⟨vk_R.of (hts (.stringRef "SugarDice" 424 "no such die") (by decide +kernel)) e201, List.forall_mem_cons.mpr ⟨vk_R.of (hts (.stringRef "SugarDice" 441 "another what") (by decide +kernel)) e202, List.forall_mem_cons.mpr ⟨vk_R.of (hts (.stringRef "SugarDice" 429 "no such hand") (by decide +kernel)) e203, List.forall_mem_cons.mpr ⟨vk_R.of (hts (.stringRef "SugarDice" 431 "the die is gone") (by decide +kernel)) e204, List.forall_mem_cons.mpr ⟨vk_R.of (hts (.stringRef "SugarDice" 433 "there are 60 throws") (by decide +kernel)) e205, List.forall_mem_cons.mpr ⟨vk_R.of (hts (.stringRef "SugarDice" 439 "no face") (by decide +kernel)) e206, List.forall_mem_cons.mpr ⟨vk_R.of (hts (.stringRef "SugarDice" 182 "it can't be thrown so") (by decide +kernel)) e207, List.forall_mem_cons.mpr ⟨vk_R.of (hts (.stringRef "SugarDice" 188 "there are not so many throws") (by decide +kernel)) e208, List.forall_mem_cons.mpr ⟨vk_R.of (hts (.stringRef "SugarDice" 195 "no such throw") (by decide +kernel)) e209, List.forall_mem_cons.mpr ⟨vk_R.of (hts (.stringRef "SugarDice" 207 "times aren't 1 to 40") (by decide +kernel)) e210, List.forall_mem_cons.mpr ⟨vk_R.of (hts (.stringRef "SugarDice" 215 "no dice or no hands") (by decide +kernel)) e211, List.forall_mem_cons.mpr ⟨vk_R.of (hts (.stringRef "SugarDice" 460 "no such tray") (by decide +kernel)) e212, List.forall_mem_cons.mpr ⟨vk_R.of (hts (.stringRef "SugarDice" 466 "the tray is missing") (by decide +kernel)) e213, List.forall_mem_cons.mpr ⟨vk_R.of (hts (.stringRef "SugarDice" 443 "not so many minutes") (by decide +kernel)) e214, List.forall_mem_cons.mpr ⟨vk_R.of (hts (.stringRef "SugarDice" 255 "rain isn't 1 to 20") (by decide +kernel)) e215, List.forall_mem_cons.mpr ⟨vk_R.of (hts (.stringRef "SugarDice" 449 "a set with others than the dice") (by decide +kernel)) e216, List.forall_mem_cons.mpr ⟨vk_R.of (hts (.stringRef "SugarDice" 451 "a die of the set is gone") (by decide +kernel)) e217, List.forall_mem_cons.mpr ⟨vk_R.of (hts (.stringRef "SugarDice" 447 "it isn't 1 to 3") (by decide +kernel)) e218, List.forall_mem_cons.mpr ⟨vk_R.of (hts (.stringRef "SugarDice" 445 "not so many throws") (by decide +kernel)) e219, List.forall_mem_cons.mpr ⟨vk_R.of (hts (.stringRef "SugarDice" 320 "not such coins, not such a goal") (by decide +kernel)) e220, List.forall_mem_cons.mpr ⟨vk_R.of (hts (.stringRef "SugarDice" 352 "throws aren't 1 to 5") (by decide +kernel)) e221, List.forall_mem_cons.mpr ⟨vk_R.of (hts (.stringRef "SugarDice" 456 "not 1 to 5 numbers, or one is no face") (by decide +kernel)) e222, List.forall_mem_cons.mpr ⟨vk_R.of (hts (.stringRef "SugarDice" 389 "no such sort, or not so many") (by decide +kernel)) e223, List.forall_mem_cons.mpr ⟨vk_R.of (hts (.stringRef "SugarDice" 396 "the tray has no such place") (by decide +kernel)) e224, List.forall_mem_cons.mpr ⟨vk_R.of (hts (.stringRef "SugarDice" 458 "no such image") (by decide +kernel)) e225, List.forall_mem_cons.mpr ⟨vk_R.of (hts (.stringRef "SugarDice" 413 "no image was made") (by decide +kernel)) e226, List.forall_mem_cons.mpr ⟨vk_R.of (hts (.stringRef "SugarDiceModel" 136 "die") (by decide +kernel)) m0, List.forall_mem_cons.mpr ⟨vk_R.of (hts (.stringRef "SugarDiceModel" 131 "salt") (by decide +kernel)) m1, List.forall_mem_cons.mpr ⟨vk_R.of (hts (.stringRef "SugarDiceModel" 141 "hand") (by decide +kernel)) m2, List.forall_mem_cons.mpr ⟨vk_R.of (hts (.stringRef "SugarDiceModel" 146 "ants") (by decide +kernel)) m3, fun _ h => absurd h List.not_mem_nil⟩⟩⟩⟩⟩⟩⟩⟩⟩⟩⟩⟩⟩⟩⟩⟩⟩⟩⟩⟩⟩⟩⟩⟩⟩⟩⟩⟩⟩⟩⟩⟩⟩⟩⟩
  · intro i hi
    have e : i = 0 ∨ i = 1 ∨ i = 2 ∨ i = 3 := by omega
    rcases e with rfl | rfl | rfl | rfl
    · exact ⟨o0, c0, v0, w0⟩
    · exact ⟨o1, c1, v1, w1⟩
    · exact ⟨o2, c2, v2, w2⟩
    · exact ⟨o3, c3, v3, w3⟩
  · show L < 2 ^ 31
    omega
end En
