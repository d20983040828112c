/-! what the computation says holds of the machine -/
def mLn (i : Instr) : Nat := match i with
  | .aload _ => 2
  | .astore _ => 2
  | .iload _ => 2
  | .istore _ => 2
  | .lload _ => 2
  | .lstore _ => 2
  | .iinc _ _ => 3
  | .bipush _ => 2
  | .sipush _ => 3
  | .ldc _ => 2
  | .ldc_w _ => 3
  | .ldc2_w _ => 3
  | .ifCond _ _ => 3
  | .if_icmp _ _ => 3
  | .goto _ => 3
  | .ifnonnull _ => 3
  | .getfield _ => 3
  | .putfield _ => 3
  | .getstatic _ => 3
  | .new _ => 3
  | .newarray _ => 2
  | .anewarray _ => 3
  | .invokevirtual _ => 3
  | .invokestatic _ => 3
  | .invokespecial _ => 3
  | _ => 1
def mTg (i : Instr) (pc nx : Nat) (tg : List Nat) : Bool := match i with
  | .goto off => decide (nx = pc + 3) && (match tg with
    | [t] => decide ((pc : Int) + off = (t : Int))
    | _ => false)
  | .ifCond _ off => decide (nx = pc + 3) && (match tg with
    | [t] => decide ((pc : Int) + off = (t : Int))
    | _ => false)
  | .if_icmp _ off => decide (nx = pc + 3) && (match tg with
    | [t] => decide ((pc : Int) + off = (t : Int))
    | _ => false)
  | .ifnonnull off => decide (nx = pc + 3) && (match tg with
    | [t] => decide ((pc : Int) + off = (t : Int))
    | _ => false)
  | .tableswitch df lo hi offs => decide (tg.map (fun t : Nat => (t : Int)) = ((pc : Int) + df) :: offs.toList.map (fun x => (pc : Int) + x)) && decide (hi = lo + offs.toList.length - 1)
  | .lookupswitch df ps => decide (tg.map (fun t : Nat => (t : Int)) = ((pc : Int) + df) :: ps.toList.map (fun x => (pc : Int) + x.2)) && (ps.toList.zip (ps.toList.drop 1)).all (fun (a, next) => a.1 < next.1)
  | i => decide (nx = pc + mLn i)
def mTbOk (cc : ByteArray) (q : Nat × mI) : Bool := Nat.blt q.1 q.2.2.1 && decide (decode cc q.1 = .ok (q.2.1, q.2.2.1 - q.1)) && mTg q.2.1 q.1 q.2.2.1 q.2.2.2
theorem mCond {b : Bool} {P : Prop} (h : bif b then P else False) : b = true ∧ P := by
  cases b with
  | true => exact ⟨rfl, h⟩
  | false => exact h.elim
theorem mDl {cc : ByteArray} {i : Instr} {nx pc n : Nat} (hd : decode cc pc = .ok (i, nx - pc)) (h : nx = pc + n) : decode cc pc = .ok (i, n) := by
  rw [hd, h, Nat.add_sub_cancel_left]
theorem mCs_eq (st : List Value) : mCs st = (st.map fun v => v.category).sum := by
  induction st with
  | nil => rfl
  | cons v r ih => simp [mCs, ih]
theorem mPop_spec {k : List Value → List Value → Prop} : ∀ {n : Nat} {st acc : List Value}, mPop n st acc k → ∃ as rest, st = as.reverse ++ rest ∧ as.length = n ∧ k (as ++ acc) rest
  | 0, st, acc, h => ⟨[], st, rfl, rfl, h⟩
  | n + 1, [], acc, h => h.elim
  | n + 1, v :: st, acc, h => by
    obtain ⟨as, rest, h1, h2, h3⟩ := mPop_spec (n := n) h
    exact ⟨as ++ [v], rest, by simp [h1], by simp [h2], by simpa using h3⟩
theorem mC_of (k : Nat) : Int32.ofInt (Int.ofNat k) = nI k := by simp [nI, Int32.ofInt_eq_ofNat]
theorem mC_neg (k : Nat) : Int32.ofInt (Int.negSucc k) = -(nI (k + 1)) := by
  have e : Int.negSucc k = -((k + 1 : Nat) : Int) := rfl
  rw [e, Int32.ofInt_neg, nI]
  congr 1
theorem mC8 {k : Nat} (h : k < 128) : (Int8.ofInt (Int.ofNat k)).toInt32 = nI k := by
  apply Int32.toInt_inj.mp
  rw [nI_toInt (by omega), Int8.toInt_toInt32, Int8.toInt_ofInt_of_le (by simp <;> omega) (by simp <;> omega)]
  rfl
theorem mC8n {k : Nat} (h : k < 128) : (Int8.ofInt (Int.negSucc k)).toInt32 = -(nI (k + 1)) := by
  rw [← mC_neg]
  apply Int32.toInt_inj.mp
  rw [Int8.toInt_toInt32, Int8.toInt_ofInt_of_le (by omega) (by omega), Int32.toInt_ofInt_of_le (by omega) (by omega)]
theorem mC16 {k : Nat} (h : k < 32768) : (Int16.ofInt (Int.ofNat k)).toInt32 = nI k := by
  apply Int32.toInt_inj.mp
  rw [nI_toInt (by omega), Int16.toInt_toInt32, Int16.toInt_ofInt_of_le (by simp <;> omega) (by simp <;> omega)]
  rfl
theorem mC16n {k : Nat} (h : k < 32768) : (Int16.ofInt (Int.negSucc k)).toInt32 = -(nI (k + 1)) := by
  rw [← mC_neg]
  apply Int32.toInt_inj.mp
  rw [Int16.toInt_toInt32, Int16.toInt_ofInt_of_le (by omega) (by omega), Int32.toInt_ofInt_of_le (by omega) (by omega)]
theorem mKi_ok : ∀ oc : Fin 17, ∀ q ∈ mKi oc, Cond.constant (mNm oc) q.1 q.2 ∈ lw_tbl := by decide +kernel
theorem mKl_ok : ∀ oc : Fin 17, ∀ q ∈ mKl oc, Cond.constantLong (mNm oc) q.1 q.2 ∈ lw_tbl := by decide +kernel
theorem mSt_all : ∀ oc : Fin 17, ∀ q ∈ mSt oc, (mNm oc, q) ∈ mStr := by decide +kernel
theorem mCt_ok : ∀ oc : Fin 17, ∀ q ∈ mCt oc, Cond.classLink (mNm oc) q.1 (mNm q.2) ∈ lw_tbl ∧ q.2 < 11 := by decide +kernel
theorem mCi_ok : ∀ ci : Fin 11, ∀ r, vwCl[(ci : Nat)]? = some r → Cond.instantiable r.1 r.2.2 ∈ lw_tbl ∧ Cond.initialized r.1 ∈ lw_tbl ∧ r.1 = mNm ci := by
  intro ci r hr
  have h0 : (match vwCl[(ci : Nat)]? with
    | some r => decide (Cond.instantiable r.1 r.2.2 ∈ lw_tbl) && decide (Cond.initialized r.1 ∈ lw_tbl) && decide (r.1 = mNm ci)
    | none => true) = true := by
    revert ci
    have h1 : ∀ ci : Fin 11, (match vwCl[(ci : Nat)]? with
      | some r => decide (Cond.instantiable r.1 r.2.2 ∈ lw_tbl) && decide (Cond.initialized r.1 ∈ lw_tbl) && decide (r.1 = mNm ci)
      | none => true) = true := by decide +kernel
    intro ci _
    exact h1 ci
  rw [hr] at h0
  simp only [Bool.and_eq_true, decide_eq_true_eq] at h0
  exact ⟨h0.1.1, h0.1.2, h0.2⟩
section mSn
variable {X : mX} {M : mM} {d : Nat} {Q : mO → mH → Prop} {pc : Nat} {L : List (Option Value)} {st : List Value} {h : mH} {bc bs : Nat}
theorem wp_ldc {i : Nat} {v : Int32} (hoc : M.2.2.2.2.2.1 < 17) (hn : mNm M.2.2.2.2.2.1 = M.1.cls) (hd : decode M.2.1 pc = .ok (.ldc i, 2)) (hv : mLk (mKi M.2.2.2.2.2.1) i = some v) (k : mWP X M d Q (pc + 2) L (.int v :: st) h bc bs) : mWP X M d Q pc L st h bc bs := by
  intro p e R s m args below meth c H locs cells slots ad a0 n0 ls F G hl
  exact lv_ldc F.1 F.2.1 (by rw [hn]; exact F.2.2.2.1) (F.2.2.2.2.2.2.2.2.1.word (mKi_ok ⟨_, hoc⟩ _ (mLk_mem hv)) rfl) hd (k p e R s m args below meth c H locs cells slots ad a0 n0 ls F G hl)
theorem wp_ldcw {i : Nat} {v : Int32} (hoc : M.2.2.2.2.2.1 < 17) (hn : mNm M.2.2.2.2.2.1 = M.1.cls) (hd : decode M.2.1 pc = .ok (.ldc_w i, 3)) (hv : mLk (mKi M.2.2.2.2.2.1) i = some v) (k : mWP X M d Q (pc + 3) L (.int v :: st) h bc bs) : mWP X M d Q pc L st h bc bs := by
  intro p e R s m args below meth c H locs cells slots ad a0 n0 ls F G hl
  exact lv_ldcw F.1 F.2.1 (by rw [hn]; exact F.2.2.2.1) (F.2.2.2.2.2.2.2.2.1.word (mKi_ok ⟨_, hoc⟩ _ (mLk_mem hv)) rfl) hd (k p e R s m args below meth c H locs cells slots ad a0 n0 ls F G hl)
theorem wp_ldc2 {i : Nat} {v : Int64} (hoc : M.2.2.2.2.2.1 < 17) (hn : mNm M.2.2.2.2.2.1 = M.1.cls) (hd : decode M.2.1 pc = .ok (.ldc2_w i, 3)) (hv : mLk (mKl M.2.2.2.2.2.1) i = some v) (k : mWP X M d Q (pc + 3) L (.long v :: st) h bc bs) : mWP X M d Q pc L st h bc bs := by
  intro p e R s m args below meth c H locs cells slots ad a0 n0 ls F G hl
  exact lv_ldc2 F.1 F.2.1 (by rw [hn]; exact F.2.2.2.1) (F.2.2.2.2.2.2.2.2.1.word (mKl_ok ⟨_, hoc⟩ _ (mLk_mem hv)) rfl) hd (k p e R s m args below meth c H locs cells slots ad a0 n0 ls F G hl)
theorem wp_ldcS {i n : Nat} {tx : String} (hoc : M.2.2.2.2.2.1 < 17) (hn : mNm M.2.2.2.2.2.1 = M.1.cls) (hd : decode M.2.1 pc = .ok (.ldc i, 2)) (hv : mLk (mSt M.2.2.2.2.2.1) i = some (tx, n)) (k : mWP X M d Q (pc + 2) L (.ref (mSB + n) :: st) h bc bs) : mWP X M d Q pc L st h bc bs := by
  intro p e R s m args below meth c H locs cells slots ad a0 n0 ls F G hl
  have k1 := k p e R s m args below meth c H locs cells slots ad a0 n0 ls F G hl
  rw [List.map_cons] at k1
  simp only [mV, G.1.2.2] at k1
  exact va_ldcS F.1 F.2.1 (by rw [hn]; exact F.2.2.2.1) (F.2.2.2.2.2.2.2.2.1.2.2.2.2.1 _ (mSt_all ⟨_, hoc⟩ _ (mLk_mem hv))) hd k1
theorem mSwIn_spec {x : Int32} {k : Nat → Prop} : ∀ {ts : List Nat} {lo : Int}, mSwIn x lo ts k → ∀ (j t : Nat), ts[j]? = some t → x.toInt = lo + j → k t
  | [], lo, _, j, t, ht, _ => by simp at ht
  | t0 :: ts, lo, h, 0, t, ht, hx => by
    cases ht
    exact h.1 (by simpa using hx)
  | t0 :: ts, lo, h, j + 1, t, ht, hx => mSwIn_spec h.2 j t (by simpa using ht) (by rw [hx]; omega)
theorem mSwL_spec {x : Int32} {k : Nat → Prop} {kd : Prop} {pc : Nat} {df : Int} {td : Nat} (hd : (pc : Int) + df = (td : Int)) : ∀ {ps : List (Int × Int)} {ts : List Nat}, ts.map (fun t : Nat => (t : Int)) = ps.map (fun x => (pc : Int) + x.2) → mSwL x ps ts kd k → ∃ t : Nat, (pc : Int) + Op.lookupswitch.offset ps df x.toInt = (t : Int) ∧ ((t = td ∧ kd) ∨ k t)
  | [], [], _, h => ⟨td, by simpa [Op.lookupswitch.offset] using hd, Or.inl ⟨rfl, h⟩⟩
  | [], _ :: _, e, _ => by simp at e
  | _ :: _, [], e, _ => by simp at e
  | p :: ps, t :: ts, e, h => by
    simp only [List.map_cons, List.cons.injEq] at e
    by_cases hx : x.toInt = p.1
    · exact ⟨t, by simp only [Op.lookupswitch.offset, hx]; simpa using e.1.symm, Or.inr (h.1 hx)⟩
    · obtain ⟨t2, h1, h2⟩ := mSwL_spec hd e.2 (h.2 hx)
      refine ⟨t2, ?_, h2⟩
      rw [← h1]
      simp only [Op.lookupswitch.offset]
      simp [hx, Ne.symm hx]
theorem mInv_spec {tb : mTb} {K : mK} {nx kd : Nat} {M2 : mM} {as rest : List Value} (hs : mInv X M d Q tb K pc nx L h bc bs kd M2 as rest) : (rest.map fun v => v.category).sum ≤ 8 ∧ M2.2.2.2.2.2.2.1 ≤ bc ∧ M2.2.2.2.2.2.2.2 ≤ bs ∧ mWfS h L rest = true ∧ ∃ (d2 : Nat) (Q2 : mO → mH → Prop), d2 < d ∧ mEv X d2 M2 as h Q2 ∧ (∀ (r : Option Value) (h1 : mH), Q2 (.inl r) h1 → K nx L (r.toList ++ rest) h1 (bc - M2.2.2.2.2.2.2.1) (bs - M2.2.2.2.2.2.2.2)) ∧ ∀ (E : Nat) (h1 : mH), Q2 (.inr E) h1 → mXc M Q tb pc kd E h1 := by
  replace hs := mCond hs
  obtain ⟨hb, hs⟩ := hs
  simp only [Bool.and_eq_true] at hb
  obtain ⟨⟨⟨b1, b2⟩, b3⟩, b4⟩ := hb
  obtain ⟨d2, Q2, h1, h2, h3⟩ := hs
  refine ⟨by rw [← mCs_eq]; exact Nat.le_of_ble_eq_true b1, Nat.le_of_ble_eq_true b2, Nat.le_of_ble_eq_true b3, b4, d2, Q2, h1, h2, fun r h4 hq => ?_, fun E h4 hq => h3 (.inr E) h4 hq⟩
  cases r with
  | none => exact h3 (.inl none) h4 hq
  | some v => exact h3 (.inl (some v)) h4 hq
/-- what is asked of a method's own numbers -/
def mOkM (M : mM) : Prop := M.2.2.2.2.2.1 < 17 ∧ mNm M.2.2.2.2.2.1 = M.1.cls ∧ (M.2.2.2.2.1 = [] ∨ (M.1.cls = RL ∧ M.2.2.2.1 = some .int))
def mNoSt (M : mM) (tb : mTb) : Prop := M.2.2.2.2.1 = [] ∨ ∀ q ∈ tb, ∀ i, q.2.1 ≠ .invokestatic i
theorem mTb_at {cc : ByteArray} {tb : mTb} {p : Nat} {i : Instr} {nx : Nat} {tg : List Nat} (hok : ∀ q ∈ tb, mTbOk cc q = true) (h : mLk tb p = some (i, nx, tg)) (hi : mTg i p nx tg = decide (nx = p + mLn i) := by rfl) : nx = p + mLn i ∧ decode cc p = .ok (i, mLn i) := by
  have h1 := hok _ (mLk_mem h)
  simp only [mTbOk, Bool.and_eq_true, decide_eq_true_eq] at h1
  obtain ⟨⟨-, h2⟩, h3⟩ := h1
  rw [hi, decide_eq_true_eq] at h3
  exact ⟨h3, mDl h2 h3⟩
set_option maxHeartbeats 4000000 in
theorem mOp_sound {tb : mTb} {K : mK} {i : Instr} {nx : Nat} {tg : List Nat} (hM : mOkM M) (hns : mNoSt M tb) (hok : ∀ q ∈ tb, mTbOk M.2.1 q = true) (hlk : mLk tb pc = some (i, nx, tg)) (hk : ∀ pc L st h bc bs, K pc L st h bc bs → mWP X M d Q pc L st h bc bs) (hs : mOp X M d Q tb K i nx tg pc L st h bc bs) : mWP X M d Q pc L st h bc bs := by
  obtain ⟨hoc, hn, hrt0⟩ := hM
  have hLw : ∀ h0 hr0, M.2.2.2.2.1 = h0 :: hr0 → M.1.cls = RL := fun h0 hr0 e => by
    rcases hrt0 with q | q
    · rw [q] at e; cases e
    · exact q.1
  have hrw : ∀ h0 hr0, M.2.2.2.2.1 = h0 :: hr0 → M.2.2.2.1 = some .int := fun h0 hr0 e => by
    rcases hrt0 with q | q
    · rw [q] at e; cases e
    · exact q.2
  have hok1 := hok _ (mLk_mem hlk)
  simp only [mTbOk, Bool.and_eq_true, decide_eq_true_eq] at hok1
  obtain ⟨⟨-, hd⟩, hg⟩ := hok1
  cases i with
  | ifCond cd off =>
      simp only [mOp] at hs
      simp only [mTg] at hg
      split at hs
      · simp only [Bool.and_eq_true, decide_eq_true_eq] at hg
        obtain ⟨rfl, hg⟩ := hg
        have hd := mDl hd rfl
        split at hs
        · exact wp_if_eq hd hg (fun q => hk _ _ _ _ _ _ (hs.1 q)) (fun q => hk _ _ _ _ _ _ (hs.2 q))
        · exact wp_if_ne hd hg (fun q => hk _ _ _ _ _ _ (hs.2 q)) (fun q => hk _ _ _ _ _ _ (hs.1 q))
        · exact wp_if_lt hd hg (fun q => hk _ _ _ _ _ _ (hs.1 q)) (fun q => hk _ _ _ _ _ _ (hs.2 q))
        · exact wp_if_ge hd hg (fun q => hk _ _ _ _ _ _ (hs.1 q)) (fun q => hk _ _ _ _ _ _ (hs.2 q))
        · exact wp_if_gt hd hg (fun q => hk _ _ _ _ _ _ (hs.1 q)) (fun q => hk _ _ _ _ _ _ (hs.2 q))
        · exact wp_if_le hd hg (fun q => hk _ _ _ _ _ _ (hs.1 q)) (fun q => hk _ _ _ _ _ _ (hs.2 q))
      · exact hs.elim
  | if_icmp cd off =>
      simp only [mOp] at hs
      simp only [mTg] at hg
      split at hs
      · simp only [Bool.and_eq_true, decide_eq_true_eq] at hg
        obtain ⟨rfl, hg⟩ := hg
        have hd := mDl hd rfl
        split at hs
        · exact wp_icmp_eq hd hg (fun q => hk _ _ _ _ _ _ (hs.1 q)) (fun q => hk _ _ _ _ _ _ (hs.2 q))
        · exact wp_icmp_ne hd hg (fun q => hk _ _ _ _ _ _ (hs.2 q)) (fun q => hk _ _ _ _ _ _ (hs.1 q))
        · exact wp_icmp_lt hd hg (fun q => hk _ _ _ _ _ _ (hs.1 q)) (fun q => hk _ _ _ _ _ _ (hs.2 q))
        · exact wp_icmp_ge hd hg (fun q => hk _ _ _ _ _ _ (hs.1 q)) (fun q => hk _ _ _ _ _ _ (hs.2 q))
        · exact wp_icmp_gt hd hg (fun q => hk _ _ _ _ _ _ (hs.1 q)) (fun q => hk _ _ _ _ _ _ (hs.2 q))
        · exact wp_icmp_le hd hg (fun q => hk _ _ _ _ _ _ (hs.1 q)) (fun q => hk _ _ _ _ _ _ (hs.2 q))
      · exact hs.elim
  | goto off =>
      simp only [mOp] at hs
      simp only [mTg] at hg
      split at hs
      · simp only [Bool.and_eq_true, decide_eq_true_eq] at hg
        obtain ⟨rfl, hg⟩ := hg
        exact wp_goto (mDl hd rfl) hg (hk _ _ _ _ _ _ hs)
      · exact hs.elim
  | ifnonnull off =>
      simp only [mOp] at hs
      simp only [mTg] at hg
      split at hs
      · simp only [Bool.and_eq_true, decide_eq_true_eq] at hg
        obtain ⟨rfl, hg⟩ := hg
        exact wp_ifnonnull (mDl hd rfl) hg (hk _ _ _ _ _ _ hs)
      · simp only [Bool.and_eq_true, decide_eq_true_eq] at hg
        obtain ⟨rfl, hg⟩ := hg
        exact wp_ifnonnullN (mDl hd rfl) (hk _ _ _ _ _ _ hs)
      · exact hs.elim
  | tableswitch df lo hi offs =>
      simp only [mOp] at hs
      simp only [mTg] at hg
      split at hs
      · rename_i x r t ts
        simp only [Bool.and_eq_true, decide_eq_true_eq, List.map_cons, List.cons.injEq] at hg
        obtain ⟨⟨g1, g2⟩, g3⟩ := hg
        by_cases hx : x.toInt < lo ∨ hi < x.toInt
        · exact wp_tableOut hd hx g1.symm (hk _ _ _ _ _ _ (hs.1 hx))
        · have hx1 : ¬ x.toInt < lo := fun q => hx (Or.inl q)
          have hx2 : ¬ hi < x.toInt := fun q => hx (Or.inr q)
          have hlen : ts.length = offs.toList.length := by simpa using congrArg List.length g2
          have hj : (x.toInt - lo).toNat < ts.length := by omega
          have e1 : ts[(x.toInt - lo).toNat]? = some (ts[(x.toInt - lo).toNat]) := List.getElem?_eq_getElem hj
          have e2 : (offs.toList)[(x.toInt - lo).toNat]? = some (offs.toList[(x.toInt - lo).toNat]) := List.getElem?_eq_getElem (by omega)
          have e3 := congrArg (fun l => l[(x.toInt - lo).toNat]?) g2
          simp only [List.getElem?_map, e1, e2, Option.map_some, Option.some.injEq] at e3
          exact wp_tableIn hd hx1 hx2 (by rw [← Array.getElem?_toList]; exact e2) e3.symm (hk _ _ _ _ _ _ (mSwIn_spec hs.2 _ _ e1 (by omega)))
      · exact hs.elim
  | lookupswitch df ps =>
      simp only [mOp] at hs
      simp only [mTg] at hg
      split at hs
      · rename_i x r t ts
        simp only [Bool.and_eq_true, decide_eq_true_eq, List.map_cons, List.cons.injEq] at hg
        obtain ⟨⟨g1, g2⟩, g3⟩ := hg
        obtain ⟨t2, h1, h2⟩ := mSwL_spec g1.symm g2 hs
        refine wp_lookup hd g3 rfl h1 ?_
        rcases h2 with ⟨rfl, h2⟩ | h2
        · exact hk _ _ _ _ _ _ h2
        · exact hk _ _ _ _ _ _ h2
      · exact hs.elim
  | aload_n j =>
      simp only [mOp] at hs
      simp only [mTg, decide_eq_true_eq] at hg
      have hd1 := mDl hd hg
      clear hd
      subst hg
      split at hs
      · exact wp_aload_n hd1 ‹_› (hk _ _ _ _ _ _ hs)
      · exact wp_aload_nN hd1 ‹_› (hk _ _ _ _ _ _ hs)
      · exact hs.elim
  | aload j =>
      simp only [mOp] at hs
      simp only [mTg, decide_eq_true_eq] at hg
      have hd1 := mDl hd hg
      clear hd
      subst hg
      split at hs
      · exact wp_aload hd1 ‹_› (hk _ _ _ _ _ _ hs)
      · exact wp_aloadN hd1 ‹_› (hk _ _ _ _ _ _ hs)
      · exact hs.elim
  | iload_n j =>
      simp only [mOp] at hs
      simp only [mTg, decide_eq_true_eq] at hg
      have hd1 := mDl hd hg
      clear hd
      subst hg
      split at hs
      · exact wp_iload_n hd1 ‹_› (hk _ _ _ _ _ _ hs)
      · exact hs.elim
  | iload j =>
      simp only [mOp] at hs
      simp only [mTg, decide_eq_true_eq] at hg
      have hd1 := mDl hd hg
      clear hd
      subst hg
      split at hs
      · exact wp_iload hd1 ‹_› (hk _ _ _ _ _ _ hs)
      · exact hs.elim
  | lload_n j =>
      simp only [mOp] at hs
      simp only [mTg, decide_eq_true_eq] at hg
      have hd1 := mDl hd hg
      clear hd
      subst hg
      split at hs
      · exact wp_lload_n hd1 ‹_› (hk _ _ _ _ _ _ hs)
      · exact hs.elim
  | lload j =>
      simp only [mOp] at hs
      simp only [mTg, decide_eq_true_eq] at hg
      have hd1 := mDl hd hg
      clear hd
      subst hg
      split at hs
      · exact wp_lload hd1 ‹_› (hk _ _ _ _ _ _ hs)
      · exact hs.elim
  | istore_n j =>
      simp only [mOp] at hs
      simp only [mTg, decide_eq_true_eq] at hg
      have hd1 := mDl hd hg
      clear hd
      subst hg
      split at hs
      · replace hs := mCond hs
        obtain ⟨hb, hs⟩ := hs
        exact wp_istore_n hd1 rfl (by simpa using hb) (hk _ _ _ _ _ _ hs)
      · exact hs.elim
  | istore j =>
      simp only [mOp] at hs
      simp only [mTg, decide_eq_true_eq] at hg
      have hd1 := mDl hd hg
      clear hd
      subst hg
      split at hs
      · replace hs := mCond hs
        obtain ⟨hb, hs⟩ := hs
        exact wp_istore hd1 (by simpa using hb) (hk _ _ _ _ _ _ hs)
      · exact hs.elim
  | lstore_n j =>
      simp only [mOp] at hs
      simp only [mTg, decide_eq_true_eq] at hg
      have hd1 := mDl hd hg
      clear hd
      subst hg
      split at hs
      · replace hs := mCond hs
        obtain ⟨hb, hs⟩ := hs
        exact wp_lstore_n hd1 rfl (by simpa using hb) (hk _ _ _ _ _ _ hs)
      · exact hs.elim
  | lstore j =>
      simp only [mOp] at hs
      simp only [mTg, decide_eq_true_eq] at hg
      have hd1 := mDl hd hg
      clear hd
      subst hg
      split at hs
      · replace hs := mCond hs
        obtain ⟨hb, hs⟩ := hs
        exact wp_lstore hd1 (by simpa using hb) (hk _ _ _ _ _ _ hs)
      · exact hs.elim
  | astore_n j =>
      simp only [mOp] at hs
      simp only [mTg, decide_eq_true_eq] at hg
      have hd1 := mDl hd hg
      clear hd
      subst hg
      split at hs
      · replace hs := mCond hs
        obtain ⟨hb, hs⟩ := hs
        exact wp_astore_n hd1 rfl (by simpa using hb) (hk _ _ _ _ _ _ hs)
      · exact hs.elim
  | astore j =>
      simp only [mOp] at hs
      simp only [mTg, decide_eq_true_eq] at hg
      have hd1 := mDl hd hg
      clear hd
      subst hg
      split at hs
      · replace hs := mCond hs
        obtain ⟨hb, hs⟩ := hs
        exact wp_astore hd1 (by simpa using hb) (hk _ _ _ _ _ _ hs)
      · exact hs.elim
  | iinc j n =>
      simp only [mOp] at hs
      simp only [mTg, decide_eq_true_eq] at hg
      have hd1 := mDl hd hg
      clear hd
      subst hg
      split at hs
      · replace hs := mCond hs
        obtain ⟨hb, hs⟩ := hs
        split at hs
        · exact wp_iinc hd1 ‹_› (by rw [mC_of]) (by simpa using hb) (hk _ _ _ _ _ _ hs)
        · exact wp_iinc hd1 ‹_› (by rw [mC_neg, Int32.sub_eq_add_neg]) (by simpa using hb) (hk _ _ _ _ _ _ hs)
      · exact hs.elim
  | iconst n =>
      simp only [mOp] at hs
      simp only [mTg, decide_eq_true_eq] at hg
      have hd1 := mDl hd hg
      clear hd
      subst hg
      split at hs
      · exact wp_iconst hd1 (mC_of _) (hk _ _ _ _ _ _ hs)
      · exact wp_iconst hd1 rfl (hk _ _ _ _ _ _ hs)
      · exact wp_iconst hd1 (mC_neg _) (hk _ _ _ _ _ _ hs)
  | bipush n =>
      simp only [mOp] at hs
      simp only [mTg, decide_eq_true_eq] at hg
      have hd1 := mDl hd hg
      clear hd
      subst hg
      split at hs
      · replace hs := mCond hs
        obtain ⟨hb, hs⟩ := hs
        exact wp_bipush hd1 (mC8 (by simpa using hb)) (hk _ _ _ _ _ _ hs)
      · replace hs := mCond hs
        obtain ⟨hb, hs⟩ := hs
        exact wp_bipush hd1 (mC8n (by simpa using hb)) (hk _ _ _ _ _ _ hs)
  | sipush n =>
      simp only [mOp] at hs
      simp only [mTg, decide_eq_true_eq] at hg
      have hd1 := mDl hd hg
      clear hd
      subst hg
      split at hs
      · replace hs := mCond hs
        obtain ⟨hb, hs⟩ := hs
        exact wp_sipush hd1 (mC16 (by simpa using hb)) (hk _ _ _ _ _ _ hs)
      · replace hs := mCond hs
        obtain ⟨hb, hs⟩ := hs
        exact wp_sipush hd1 (mC16n (by simpa using hb)) (hk _ _ _ _ _ _ hs)
  | lconst n =>
      simp only [mOp] at hs
      simp only [mTg, decide_eq_true_eq] at hg
      have hd1 := mDl hd hg
      clear hd
      subst hg
      match n, hd1, hs with
      | 0, hd2, hs => exact wp_lconst hd2 rfl (hk _ _ _ _ _ _ hs)
      | 1, hd2, hs => exact wp_lconst hd2 rfl (hk _ _ _ _ _ _ hs)
  | ldc j =>
      simp only [mOp] at hs
      simp only [mTg, decide_eq_true_eq] at hg
      have hd1 := mDl hd hg
      clear hd
      subst hg
      split at hs
      · exact wp_ldc hoc hn hd1 ‹_› (hk _ _ _ _ _ _ hs)
      · split at hs
        · exact wp_ldcS hoc hn hd1 ‹_› (hk _ _ _ _ _ _ hs)
        · exact hs.elim
  | ldc_w j =>
      simp only [mOp] at hs
      simp only [mTg, decide_eq_true_eq] at hg
      have hd1 := mDl hd hg
      clear hd
      subst hg
      split at hs
      · exact wp_ldcw hoc hn hd1 ‹_› (hk _ _ _ _ _ _ hs)
      · exact hs.elim
  | ldc2_w j =>
      simp only [mOp] at hs
      simp only [mTg, decide_eq_true_eq] at hg
      have hd1 := mDl hd hg
      clear hd
      subst hg
      split at hs
      · exact wp_ldc2 hoc hn hd1 ‹_› (hk _ _ _ _ _ _ hs)
      · exact hs.elim
  | iadd =>
      simp only [mOp] at hs
      simp only [mTg, decide_eq_true_eq] at hg
      have hd1 := mDl hd hg
      clear hd
      subst hg
      split at hs
      · exact wp_iadd hd1 (hk _ _ _ _ _ _ hs)
      · exact hs.elim
  | isub =>
      simp only [mOp] at hs
      simp only [mTg, decide_eq_true_eq] at hg
      have hd1 := mDl hd hg
      clear hd
      subst hg
      split at hs
      · exact wp_isub hd1 (hk _ _ _ _ _ _ hs)
      · exact hs.elim
  | imul =>
      simp only [mOp] at hs
      simp only [mTg, decide_eq_true_eq] at hg
      have hd1 := mDl hd hg
      clear hd
      subst hg
      split at hs
      · exact wp_imul hd1 (hk _ _ _ _ _ _ hs)
      · exact hs.elim
  | iand =>
      simp only [mOp] at hs
      simp only [mTg, decide_eq_true_eq] at hg
      have hd1 := mDl hd hg
      clear hd
      subst hg
      split at hs
      · exact wp_iand hd1 (hk _ _ _ _ _ _ hs)
      · exact hs.elim
  | ior =>
      simp only [mOp] at hs
      simp only [mTg, decide_eq_true_eq] at hg
      have hd1 := mDl hd hg
      clear hd
      subst hg
      split at hs
      · exact wp_ior hd1 (hk _ _ _ _ _ _ hs)
      · exact hs.elim
  | ixor =>
      simp only [mOp] at hs
      simp only [mTg, decide_eq_true_eq] at hg
      have hd1 := mDl hd hg
      clear hd
      subst hg
      split at hs
      · exact wp_ixor hd1 (hk _ _ _ _ _ _ hs)
      · exact hs.elim
  | ishl =>
      simp only [mOp] at hs
      simp only [mTg, decide_eq_true_eq] at hg
      have hd1 := mDl hd hg
      clear hd
      subst hg
      split at hs
      · exact wp_ishl hd1 (hk _ _ _ _ _ _ hs)
      · exact hs.elim
  | ishr =>
      simp only [mOp] at hs
      simp only [mTg, decide_eq_true_eq] at hg
      have hd1 := mDl hd hg
      clear hd
      subst hg
      split at hs
      · exact wp_ishr hd1 (hk _ _ _ _ _ _ hs)
      · exact hs.elim
  | iushr =>
      simp only [mOp] at hs
      simp only [mTg, decide_eq_true_eq] at hg
      have hd1 := mDl hd hg
      clear hd
      subst hg
      split at hs
      · exact wp_iushr hd1 (hk _ _ _ _ _ _ hs)
      · exact hs.elim
  | ineg =>
      simp only [mOp] at hs
      simp only [mTg, decide_eq_true_eq] at hg
      have hd1 := mDl hd hg
      clear hd
      subst hg
      split at hs
      · exact wp_ineg hd1 (hk _ _ _ _ _ _ hs)
      · exact hs.elim
  | ladd =>
      simp only [mOp] at hs
      simp only [mTg, decide_eq_true_eq] at hg
      have hd1 := mDl hd hg
      clear hd
      subst hg
      split at hs
      · exact wp_ladd hd1 (hk _ _ _ _ _ _ hs)
      · exact hs.elim
  | lsub =>
      simp only [mOp] at hs
      simp only [mTg, decide_eq_true_eq] at hg
      have hd1 := mDl hd hg
      clear hd
      subst hg
      split at hs
      · exact wp_lsub hd1 (hk _ _ _ _ _ _ hs)
      · exact hs.elim
  | lmul =>
      simp only [mOp] at hs
      simp only [mTg, decide_eq_true_eq] at hg
      have hd1 := mDl hd hg
      clear hd
      subst hg
      split at hs
      · exact wp_lmul hd1 (hk _ _ _ _ _ _ hs)
      · exact hs.elim
  | land =>
      simp only [mOp] at hs
      simp only [mTg, decide_eq_true_eq] at hg
      have hd1 := mDl hd hg
      clear hd
      subst hg
      split at hs
      · exact wp_land hd1 (hk _ _ _ _ _ _ hs)
      · exact hs.elim
  | lor =>
      simp only [mOp] at hs
      simp only [mTg, decide_eq_true_eq] at hg
      have hd1 := mDl hd hg
      clear hd
      subst hg
      split at hs
      · exact wp_lor hd1 (hk _ _ _ _ _ _ hs)
      · exact hs.elim
  | lshl =>
      simp only [mOp] at hs
      simp only [mTg, decide_eq_true_eq] at hg
      have hd1 := mDl hd hg
      clear hd
      subst hg
      split at hs
      · exact wp_lshl hd1 (hk _ _ _ _ _ _ hs)
      · exact hs.elim
  | lshr =>
      simp only [mOp] at hs
      simp only [mTg, decide_eq_true_eq] at hg
      have hd1 := mDl hd hg
      clear hd
      subst hg
      split at hs
      · exact wp_lshr hd1 (hk _ _ _ _ _ _ hs)
      · exact hs.elim
  | lcmp =>
      simp only [mOp] at hs
      simp only [mTg, decide_eq_true_eq] at hg
      have hd1 := mDl hd hg
      clear hd
      subst hg
      split at hs
      · exact wp_lcmp hd1 (hk _ _ _ _ _ _ hs)
      · exact hs.elim
  | i2l =>
      simp only [mOp] at hs
      simp only [mTg, decide_eq_true_eq] at hg
      have hd1 := mDl hd hg
      clear hd
      subst hg
      split at hs
      · exact wp_i2l hd1 (hk _ _ _ _ _ _ hs)
      · exact hs.elim
  | l2i =>
      simp only [mOp] at hs
      simp only [mTg, decide_eq_true_eq] at hg
      have hd1 := mDl hd hg
      clear hd
      subst hg
      split at hs
      · exact wp_l2i hd1 (hk _ _ _ _ _ _ hs)
      · exact hs.elim
  | i2b =>
      simp only [mOp] at hs
      simp only [mTg, decide_eq_true_eq] at hg
      have hd1 := mDl hd hg
      clear hd
      subst hg
      split at hs
      · exact wp_i2b hd1 (hk _ _ _ _ _ _ hs)
      · exact hs.elim
  | i2s =>
      simp only [mOp] at hs
      simp only [mTg, decide_eq_true_eq] at hg
      have hd1 := mDl hd hg
      clear hd
      subst hg
      split at hs
      · exact wp_i2s hd1 (hk _ _ _ _ _ _ hs)
      · exact hs.elim
  | idiv =>
      simp only [mOp] at hs
      simp only [mTg, decide_eq_true_eq] at hg
      have hd1 := mDl hd hg
      clear hd
      subst hg
      split at hs
      · exact wp_idiv hd1 hs.1 (hk _ _ _ _ _ _ hs.2)
      · exact hs.elim
  | irem =>
      simp only [mOp] at hs
      simp only [mTg, decide_eq_true_eq] at hg
      have hd1 := mDl hd hg
      clear hd
      subst hg
      split at hs
      · exact wp_irem hd1 hs.1 (hk _ _ _ _ _ _ hs.2)
      · exact hs.elim
  | ldiv =>
      simp only [mOp] at hs
      simp only [mTg, decide_eq_true_eq] at hg
      have hd1 := mDl hd hg
      clear hd
      subst hg
      split at hs
      · exact wp_ldiv hd1 hs.1 (hk _ _ _ _ _ _ hs.2)
      · exact hs.elim
  | lrem =>
      simp only [mOp] at hs
      simp only [mTg, decide_eq_true_eq] at hg
      have hd1 := mDl hd hg
      clear hd
      subst hg
      split at hs
      · exact wp_lrem hd1 hs.1 (hk _ _ _ _ _ _ hs.2)
      · exact hs.elim
  | dup =>
      simp only [mOp] at hs
      simp only [mTg, decide_eq_true_eq] at hg
      have hd1 := mDl hd hg
      clear hd
      subst hg
      split at hs
      · exact wp_dup hd1 rfl (hk _ _ _ _ _ _ hs)
      · exact wp_dup hd1 rfl (hk _ _ _ _ _ _ hs)
      · exact hs.elim
  | pop =>
      simp only [mOp] at hs
      simp only [mTg, decide_eq_true_eq] at hg
      have hd1 := mDl hd hg
      clear hd
      subst hg
      split at hs
      · exact wp_pop hd1 rfl (hk _ _ _ _ _ _ hs)
      · exact wp_pop hd1 rfl (hk _ _ _ _ _ _ hs)
      · exact hs.elim
  | dup2 =>
      simp only [mOp] at hs
      simp only [mTg, decide_eq_true_eq] at hg
      have hd1 := mDl hd hg
      clear hd
      subst hg
      split at hs
      · exact wp_dup2_11 hd1 rfl rfl (hk _ _ _ _ _ _ hs)
      · exact wp_dup2_11 hd1 rfl rfl (hk _ _ _ _ _ _ hs)
      · exact wp_dup2_2 hd1 rfl (hk _ _ _ _ _ _ hs)
      · exact hs.elim
  | pop2 =>
      simp only [mOp] at hs
      simp only [mTg, decide_eq_true_eq] at hg
      have hd1 := mDl hd hg
      clear hd
      subst hg
      split at hs
      · exact wp_pop2_2 hd1 rfl (hk _ _ _ _ _ _ hs)
      · exact hs.elim
  | getfield j =>
      simp only [mOp] at hs
      simp only [mTg, decide_eq_true_eq] at hg
      have hd1 := mDl hd hg
      clear hd
      subst hg
      split at hs
      · split at hs
        · split at hs
          · replace hs := mCond hs
            obtain ⟨hb, hs⟩ := hs
            have hb := Nat.eq_of_beq_eq_true hb
            subst hb
            split at hs
            · exact wp_get hn hd1 ‹_› ‹_› ‹_› (hk _ _ _ _ _ _ hs)
            · exact hs.elim
          · exact hs.elim
        · exact hs.elim
      · exact hs.elim
  | putfield j =>
      simp only [mOp] at hs
      simp only [mTg, decide_eq_true_eq] at hg
      have hd1 := mDl hd hg
      clear hd
      subst hg
      split at hs
      · split at hs
        · split at hs
          · replace hs := mCond hs
            obtain ⟨hb, hs⟩ := hs
            simp only [Bool.and_eq_true] at hb
            obtain ⟨⟨⟨b1, b2⟩, b3⟩, b4⟩ := hb
            have b1 := Nat.eq_of_beq_eq_true b1
            subst b1
            simp only [mFin] at b4
            split at b4
            · rename_i rr hrr
              refine wp_put hn hd1 ‹_› ‹_› (by simpa using b2) hrr ?_ b3 (hk _ _ _ _ _ _ hs)
              cases hf : (rr.2.1 _).2.2.2 with
              | false => exact Or.inl rfl
              | true =>
                simp only [hf, cond_true, Bool.and_eq_true, Bool.not_eq_true', decide_eq_true_eq] at b4
                exact Or.inr ⟨rfl, b4.1.2, b4.2, b4.1.1⟩
            · cases b4
          · exact hs.elim
        · exact hs.elim
      · exact hs.elim
  | iaload =>
      simp only [mOp] at hs
      simp only [mTg, decide_eq_true_eq] at hg
      have hd1 := mDl hd hg
      clear hd
      subst hg
      split at hs
      · rename_i i k r
        cases hbk : Nat.blt k mSB with
        | true =>
          simp only [hbk, cond_true] at hs
          split at hs
          · exact wp_iald hd1 ‹_› hs.1 (hk _ _ _ _ _ _ hs.2)
          · exact hs.elim
        | false =>
          simp only [hbk, cond_false] at hs
          replace hs := mCond hs
          obtain ⟨hb, hs⟩ := hs
          have hb := Nat.eq_of_beq_eq_true hb
          subst hb
          exact wp_sald hd1 hs.1 (hk _ _ _ _ _ _ hs.2)
      · exact hs.elim
  | arraylength =>
      simp only [mOp] at hs
      simp only [mTg, decide_eq_true_eq] at hg
      have hd1 := mDl hd hg
      clear hd
      subst hg
      split at hs
      · rename_i k r
        cases hbk : Nat.blt k mSB with
        | true =>
          simp only [hbk, cond_true] at hs
          split at hs
          · rename_i t n g hk1
            replace hs := mCond hs
            obtain ⟨hb, hs⟩ := hs
            match t, hk1, hb with
            | 0, hk1, _ => exact wp_alen hd1 hk1 rfl (hk _ _ _ _ _ _ hs)
            | 1, hk1, _ => exact wp_alen hd1 hk1 rfl (hk _ _ _ _ _ _ hs)
            | 2, hk1, _ => exact wp_alen hd1 hk1 rfl (hk _ _ _ _ _ _ hs)
            | 3, hk1, _ => exact wp_alen hd1 hk1 rfl (hk _ _ _ _ _ _ hs)
            | 4, hk1, _ => exact wp_alen hd1 hk1 rfl (hk _ _ _ _ _ _ hs)
            | 5, hk1, _ => exact wp_alen hd1 hk1 rfl (hk _ _ _ _ _ _ hs)
            | t + 6, _, hb => exact absurd (by simpa using hb : t + 6 < 6) (by omega)
          · exact hs.elim
        | false =>
          simp only [hbk, cond_false] at hs
          replace hs := mCond hs
          obtain ⟨hb, hs⟩ := hs
          have hb := Nat.eq_of_beq_eq_true hb
          subst hb
          exact wp_slen hd1 (hk _ _ _ _ _ _ hs)
      · exact hs.elim
  | laload =>
      simp only [mOp] at hs
      simp only [mTg, decide_eq_true_eq] at hg
      have hd1 := mDl hd hg
      clear hd
      subst hg
      split at hs
      · split at hs
        · exact wp_lald hd1 ‹_› hs.1 (hk _ _ _ _ _ _ hs.2)
        · exact hs.elim
      · exact hs.elim
  | baload =>
      simp only [mOp] at hs
      simp only [mTg, decide_eq_true_eq] at hg
      have hd1 := mDl hd hg
      clear hd
      subst hg
      split at hs
      · split at hs
        · exact wp_bald hd1 ‹_› hs.1 (hk _ _ _ _ _ _ hs.2)
        · exact wp_zald hd1 ‹_› hs.1 (hk _ _ _ _ _ _ hs.2)
        · exact hs.elim
      · exact hs.elim
  | iastore =>
      simp only [mOp] at hs
      simp only [mTg, decide_eq_true_eq] at hg
      have hd1 := mDl hd hg
      clear hd
      subst hg
      split at hs
      · split at hs
        · exact wp_iast hd1 ‹_› hs.1 (hk _ _ _ _ _ _ hs.2)
        · exact hs.elim
      · exact hs.elim
  | lastore =>
      simp only [mOp] at hs
      simp only [mTg, decide_eq_true_eq] at hg
      have hd1 := mDl hd hg
      clear hd
      subst hg
      split at hs
      · split at hs
        · exact wp_last hd1 ‹_› hs.1 (hk _ _ _ _ _ _ hs.2)
        · exact hs.elim
      · exact hs.elim
  | bastore =>
      simp only [mOp] at hs
      simp only [mTg, decide_eq_true_eq] at hg
      have hd1 := mDl hd hg
      clear hd
      subst hg
      split at hs
      · split at hs
        · exact wp_bast hd1 ‹_› hs.1 (hk _ _ _ _ _ _ hs.2)
        · exact wp_zast hd1 ‹_› hs.1 (hk _ _ _ _ _ _ hs.2)
        · exact hs.elim
      · exact hs.elim
  | aaload =>
      simp only [mOp] at hs
      simp only [mTg, decide_eq_true_eq] at hg
      have hd1 := mDl hd hg
      clear hd
      subst hg
      split at hs
      · split at hs
        · exact wp_aald hd1 ‹_› rfl hs.1 (hk _ _ _ _ _ _ hs.2)
        · exact wp_aald hd1 ‹_› rfl hs.1 (hk _ _ _ _ _ _ hs.2)
        · exact hs.elim
      · exact hs.elim
  | aastore =>
      simp only [mOp] at hs
      simp only [mTg, decide_eq_true_eq] at hg
      have hd1 := mDl hd hg
      clear hd
      subst hg
      split at hs
      · split at hs
        · exact wp_aast hd1 ‹_› ‹_› rfl rfl hs.1 (hk _ _ _ _ _ _ hs.2)
        · exact wp_aast hd1 ‹_› ‹_› rfl rfl hs.1 (hk _ _ _ _ _ _ hs.2)
        · exact hs.elim
      · exact hs.elim
  | ireturn =>
      simp only [mOp] at hs
      simp only [mTg, decide_eq_true_eq] at hg
      have hd1 := mDl hd hg
      clear hd
      subst hg
      split at hs
      · split at hs
        · exact wp_iret hd1 ‹_› hs
        · exact wp_zret hs.1 hd1 ‹_› hs.2
        · exact hs.elim
      · exact hs.elim
  | lreturn =>
      simp only [mOp] at hs
      simp only [mTg, decide_eq_true_eq] at hg
      have hd1 := mDl hd hg
      clear hd
      subst hg
      split at hs
      · exact wp_lret hd1 ‹_› hs
      · exact hs.elim
  | areturn =>
      simp only [mOp] at hs
      simp only [mTg, decide_eq_true_eq] at hg
      have hd1 := mDl hd hg
      clear hd
      subst hg
      split at hs
      · exact wp_aret hd1 ‹_› hs
      · exact hs.elim
  | return_ =>
      simp only [mOp] at hs
      simp only [mTg, decide_eq_true_eq] at hg
      have hd1 := mDl hd hg
      clear hd
      subst hg
      split at hs
      · exact wp_vret hd1 ‹_› hs
      · exact hs.elim
  | new j =>
      simp only [mOp] at hs
      simp only [mTg, decide_eq_true_eq] at hg
      have hd1 := mDl hd hg
      clear hd
      subst hg
      split at hs
      · rename_i n ic hx
        split at hs
        · rename_i q3 t3 is n1 t4 h3 h4
          split at hs
          · rename_i ic2 n2 t5 q6 h5 h6
            split at hs
            · rename_i n9 t9 h7
              replace hs := mCond hs
              obtain ⟨hb, hs⟩ := hs
              simp only [Bool.and_eq_true] at hb
              obtain ⟨⟨⟨⟨⟨b1, b2⟩, b3⟩, b4⟩, b5⟩, b6⟩ := hb
              have b1 := Nat.eq_of_beq_eq_true b1
              subst b1
              have b2 := Nat.eq_of_beq_eq_true b2
              have d3 := mTb_at hok h3
              have d4 := mTb_at hok h4
              obtain ⟨e4, d4⟩ := d4
              have d5 := mTb_at hok h5
              obtain ⟨e5, d5⟩ := d5
              have d6 := mTb_at hok h7
              have e4 : n1 = pc + 4 + 2 := e4
              have e5 : n2 = n1 + 3 := e5
              subst e4
              subst e5
              rw [b2] at hx
              obtain ⟨tx, sn⟩ := q6
              exact wp_throw b2 hn (List.isEmpty_iff.mp b6) hx h6 (Nat.le_of_ble_eq_true b3) (Nat.le_of_ble_eq_true b4) (by rw [← mCs_eq]; exact Nat.le_of_ble_eq_true b5) hd1 d3.2 (Or.inl ⟨d4, d5, d6.2⟩) hs
            · exact hs.elim
          · exact hs.elim
        · rename_i q3 t3 is n1 t4 h3 h4
          split at hs
          · rename_i ic2 n2 t5 q6 h5 h6
            split at hs
            · rename_i n9 t9 h7
              replace hs := mCond hs
              obtain ⟨hb, hs⟩ := hs
              simp only [Bool.and_eq_true] at hb
              obtain ⟨⟨⟨⟨⟨b1, b2⟩, b3⟩, b4⟩, b5⟩, b6⟩ := hb
              have b1 := Nat.eq_of_beq_eq_true b1
              subst b1
              have b2 := Nat.eq_of_beq_eq_true b2
              have d3 := mTb_at hok h3
              have d4 := mTb_at hok h4
              obtain ⟨e4, d4⟩ := d4
              have d5 := mTb_at hok h5
              obtain ⟨e5, d5⟩ := d5
              have d6 := mTb_at hok h7
              have e4 : n1 = pc + 4 + 3 := e4
              have e5 : n2 = n1 + 3 := e5
              subst e4
              subst e5
              rw [b2] at hx
              obtain ⟨tx, sn⟩ := q6
              exact wp_throw b2 hn (List.isEmpty_iff.mp b6) hx h6 (Nat.le_of_ble_eq_true b3) (Nat.le_of_ble_eq_true b4) (by rw [← mCs_eq]; exact Nat.le_of_ble_eq_true b5) hd1 d3.2 (Or.inr ⟨d4, d5, d6.2⟩) hs
            · exact hs.elim
          · exact hs.elim
        · exact hs.elim
      · split at hs
        · rename_i ci hci
          split at hs
          · rename_i r hr
            replace hs := mCond hs
            obtain ⟨hb, hs⟩ := hs
            simp only [Bool.and_eq_true] at hb
            have hw := mCt_ok ⟨_, hoc⟩ _ (mLk_mem hci)
            have hw2 := mCi_ok ⟨ci, hw.2⟩ r hr
            have hw1 := hw.1
            simp only [← hw2.2.2] at hw1
            exact wp_new hn hd1 hr hw1 hw2.1 hw2.2.1 (Nat.le_of_ble_eq_true hb.1) (Nat.le_of_ble_eq_true hb.2) hs.1.2 hs.1.1 (hk _ _ _ _ _ _ hs.2)
          · exact hs.elim
        · exact hs.elim
  | newarray a =>
      simp only [mOp] at hs
      simp only [mTg, decide_eq_true_eq] at hg
      have hd1 := mDl hd hg
      clear hd
      subst hg
      split at hs
      · replace hs := mCond hs
        obtain ⟨hb, hs⟩ := hs
        exact wp_newa hd1 ‹_› hs.1.1 hs.1.2.1 (Nat.le_of_ble_eq_true hb) hs.1.2.2.1 hs.1.2.2.2.2 hs.1.2.2.2.1 (hk _ _ _ _ _ _ hs.2)
      · exact hs.elim
  | anewarray j =>
      simp only [mOp] at hs
      simp only [mTg, decide_eq_true_eq] at hg
      have hd1 := mDl hd hg
      clear hd
      subst hg
      split at hs
      · rename_i hci
        replace hs := mCond hs
        obtain ⟨hb, hs⟩ := hs
        exact wp_newq (ci := 7) hn hd1 (Or.inl ⟨rfl, rfl⟩) (mCt_ok ⟨_, hoc⟩ _ (mLk_mem hci)).1 hs.1.1 hs.1.2.1 (Nat.le_of_ble_eq_true hb) hs.1.2.2.1 hs.1.2.2.2.2 hs.1.2.2.2.1 (hk _ _ _ _ _ _ hs.2)
      · rename_i hci
        replace hs := mCond hs
        obtain ⟨hb, hs⟩ := hs
        exact wp_newq (ci := 2) hn hd1 (Or.inr ⟨rfl, rfl⟩) (mCt_ok ⟨_, hoc⟩ _ (mLk_mem hci)).1 hs.1.1 hs.1.2.1 (Nat.le_of_ble_eq_true hb) hs.1.2.2.1 hs.1.2.2.2.2 hs.1.2.2.2.1 (hk _ _ _ _ _ _ hs.2)
      · exact hs.elim
  | invokevirtual j =>
      simp only [mOp] at hs
      simp only [mTg, decide_eq_true_eq] at hg
      have hd1 := mDl hd hg
      clear hd
      subst hg
      split at hs
      · rename_i kd n M2 hq
        obtain ⟨as, r, rfl, hlen, hs⟩ := mPop_spec hs
        rw [List.append_nil] at hs
        split at hs
        · rename_i k rest
          split at hs
          · rename_i ci fs hk1
            replace hs := mCond hs
            obtain ⟨hb, hs⟩ := hs
            have hb := Nat.eq_of_beq_eq_true hb
            subst hb
            split at hs
            · obtain ⟨c1, c2, c3, c4, d2, Q2, c5, c6, c7, c8⟩ := mInv_spec hs
              cases hhm : M.2.2.2.2.1 with
              | nil => exact wp_call0 hn hd1 hq hlen hk1 c1 c5 c2 c3 c4 c6 (fun r h1 hq1 => hk _ _ _ _ _ _ (c7 r h1 hq1)) hhm (fun E h1 hq1 => by
                  have q := c8 E h1 hq1
                  simp only [mXc, hhm] at q
                  exact q)
              | cons h0 hr0 =>
                have hrow : ∀ (E : Nat) (h1 : mH), Q2 (.inr E) h1 → E < 4 ∧ M.2.2.2.1 = some .int ∧ ∃ (hp j : Nat) (v : Int), mHd pc E M.2.2.2.2.1 = some hp ∧ ((decode M.2.1 hp = .ok (.astore j, 2) ∧ decode M.2.1 (hp + 2) = .ok (.iconst v, 1) ∧ decode M.2.1 (hp + 3) = .ok (.ireturn, 1)) ∨ (∃ i : Fin 4, (i : Nat) = j ∧ decode M.2.1 hp = .ok (.astore_n i, 1) ∧ decode M.2.1 (hp + 1) = .ok (.iconst v, 1) ∧ decode M.2.1 (hp + 2) = .ok (.ireturn, 1))) ∧ j < M.2.2.1 ∧ Q (.inl (some (.int (Int32.ofInt v)))) h1 := by
                  intro E h1 hq1
                  have q := c8 E h1 hq1
                  simp only [mXc, hhm] at q
                  rw [← hhm] at q
                  obtain ⟨qb, q⟩ := mCond q
                  refine ⟨by simpa using qb, ?_⟩
                  split at q
                  · rename_i hp hhp
                    split at q
                    · rename_i j n1 t1 e1
                      split at q
                      · rename_i v n2 t2 e2
                        split at q
                        · rename_i n3 t3 e3
                          obtain ⟨qj, q⟩ := mCond q
                          split at q
                          · rename_i hrt
                            obtain ⟨f1, g1⟩ := mTb_at hok e1
                            obtain ⟨f2, g2⟩ := mTb_at hok e2
                            obtain ⟨f3, g3⟩ := mTb_at hok e3
                            have f1 : n1 = hp + 2 := f1
                            have f2 : n2 = n1 + 1 := f2
                            subst f1
                            subst f2
                            exact ⟨hrt, hp, j, v, hhp, Or.inl ⟨g1, g2, g3⟩, by simpa using qj, q⟩
                          · exact q.elim
                        · exact q.elim
                      · exact q.elim
                    · rename_i j n1 t1 e1
                      split at q
                      · rename_i v n2 t2 e2
                        split at q
                        · rename_i n3 t3 e3
                          obtain ⟨qj, q⟩ := mCond q
                          split at q
                          · rename_i hrt
                            obtain ⟨f1, g1⟩ := mTb_at hok e1
                            obtain ⟨f2, g2⟩ := mTb_at hok e2
                            obtain ⟨f3, g3⟩ := mTb_at hok e3
                            have f1 : n1 = hp + 1 := f1
                            have f2 : n2 = n1 + 1 := f2
                            subst f1
                            subst f2
                            exact ⟨hrt, hp, j.val, v, hhp, Or.inr ⟨j, rfl, g1, g2, g3⟩, by simpa using qj, q⟩
                          · exact q.elim
                        · exact q.elim
                      · exact q.elim
                    · exact q.elim
                  · exact q.elim
                by_cases hrt : M.2.2.2.1 = some .int
                · exact wp_callC hn (hLw h0 hr0 hhm) hrt hd1 hq hlen hk1 c1 c5 c2 c3 c4 c6 (fun r h1 hq1 => hk _ _ _ _ _ _ (c7 r h1 hq1)) (fun E h1 hq1 => by
                    obtain ⟨x1, -, x3⟩ := hrow E h1 hq1
                    exact ⟨x1, x3⟩)
                · exact wp_callC hn (hLw h0 hr0 hhm) (hrw h0 hr0 hhm) hd1 hq hlen hk1 c1 c5 c2 c3 c4 c6 (fun r h1 hq1 => hk _ _ _ _ _ _ (c7 r h1 hq1)) (fun E h1 hq1 => absurd (hrow E h1 hq1).2.1 hrt)
            · obtain ⟨c1, c2, c3, c4, d2, Q2, c5, c6, c7, c8⟩ := mInv_spec hs
              exact wp_call1 hn hd1 hq hlen hk1 c1 c5 c2 c3 c4 c6 (fun r h1 hq1 => hk _ _ _ _ _ _ (c7 r h1 hq1)) (fun E h1 hq1 => c8 E h1 hq1)
            · exact hs.elim
          · exact hs.elim
        · exact hs.elim
      · exact hs.elim
  | invokestatic j =>
      simp only [mOp] at hs
      simp only [mTg, decide_eq_true_eq] at hg
      have hnoS : ∀ h0 hr0, M.2.2.2.2.1 = h0 :: hr0 → False := fun h0 hr0 e => by
        rcases hns with q | q
        · rw [q] at e; cases e
        · exact q _ (mLk_mem hlk) j rfl
      have hd1 := mDl hd hg
      clear hd
      subst hg
      split at hs
      · rename_i kd n M2 hq
        split at hs
        · obtain ⟨as, r, rfl, hlen, hs⟩ := mPop_spec hs
          rw [List.append_nil] at hs
          obtain ⟨c1, c2, c3, c4, d2, Q2, c5, c6, c7, c8⟩ := mInv_spec hs
          cases hhm : M.2.2.2.2.1 with
          | nil => exact wp_call2 hn hd1 hq hlen c1 c5 c2 c3 c4 c6 (fun r h1 hq1 => hk _ _ _ _ _ _ (c7 r h1 hq1)) hhm (fun E h1 hq1 => by
              have q := c8 E h1 hq1
              simp only [mXc, hhm] at q
              exact q)
          | cons h0 hr0 =>
            exfalso
            exact hnoS h0 hr0 hhm
        · obtain ⟨as, r, rfl, hlen, hs⟩ := mPop_spec hs
          rw [List.append_nil] at hs
          obtain ⟨c1, c2, c3, c4, d2, Q2, c5, c6, c7, c8⟩ := mInv_spec hs
          exact wp_call3 hn hd1 hq hlen c1 c5 c2 c3 c4 c6 (fun r h1 hq1 => hk _ _ _ _ _ _ (c7 r h1 hq1)) (fun E h1 hq1 => c8 E h1 hq1)
        · obtain ⟨as, r, rfl, hlen, hs⟩ := mPop_spec hs
          rw [List.append_nil] at hs
          obtain ⟨c1, c2, c3, c4, d2, Q2, c5, c6, c7, c8⟩ := mInv_spec hs
          exact wp_call8 hn hd1 hq hlen c1 c5 c2 c3 c4 c6 (fun r h1 hq1 => hk _ _ _ _ _ _ (c7 r h1 hq1)) (fun E h1 hq1 => c8 E h1 hq1)
        · split at hs
          · split at hs
            · replace hs := mCond hs
              obtain ⟨hb, hs⟩ := hs
              obtain ⟨ix, hw⟩ := mMt_ok _ (mLk_mem hq)
              exact wp_copy hn hd1 (mIs_mem hw) ‹_› ‹_› hs.1.1 hs.1.2.1 hs.1.2.2.1 hs.1.2.2.2.1 hs.1.2.2.2.2 (by rw [← mCs_eq]; exact Nat.le_of_ble_eq_true hb) (hk _ _ _ _ _ _ hs.2)
            · exact hs.elim
          · exact hs.elim
        · split at hs
          · replace hs := mCond hs
            obtain ⟨hb, hs⟩ := hs
            obtain ⟨ix, hw⟩ := mMt_ok _ (mLk_mem hq)
            exact wp_mmin hn hd1 (mIs_mem hw) (by rw [← mCs_eq]; exact Nat.le_of_ble_eq_true hb) (hk _ _ _ _ _ _ hs)
          · exact hs.elim
        · split at hs
          · replace hs := mCond hs
            obtain ⟨hb, hs⟩ := hs
            obtain ⟨ix, hw⟩ := mMt_ok _ (mLk_mem hq)
            exact wp_mmax hn hd1 (mIs_mem hw) (by rw [← mCs_eq]; exact Nat.le_of_ble_eq_true hb) (hk _ _ _ _ _ _ hs)
          · exact hs.elim
        · split at hs
          · replace hs := mCond hs
            obtain ⟨hb, hs⟩ := hs
            obtain ⟨ix, hw⟩ := mMt_ok _ (mLk_mem hq)
            exact wp_mabs hn hd1 (mIs_mem hw) (by rw [← mCs_eq]; exact Nat.le_of_ble_eq_true hb) (hk _ _ _ _ _ _ hs)
          · exact hs.elim
        · split at hs
          · replace hs := mCond hs
            obtain ⟨hb, hs⟩ := hs
            obtain ⟨ix, hw⟩ := mMt_ok _ (mLk_mem hq)
            exact wp_mmaxl hn hd1 (mIs_mem hw) (by rw [← mCs_eq]; exact Nat.le_of_ble_eq_true hb) (hk _ _ _ _ _ _ hs)
          · exact hs.elim
        · exact hs.elim
      · exact hs.elim
  | invokespecial j =>
      simp only [mOp] at hs
      simp only [mTg, decide_eq_true_eq] at hg
      have hd1 := mDl hd hg
      clear hd
      subst hg
      split at hs
      · rename_i kd n M2 hq
        split at hs
        · obtain ⟨as, r, rfl, hlen, hs⟩ := mPop_spec hs
          rw [List.append_nil] at hs
          split at hs
          · obtain ⟨c1, c2, c3, c4, d2, Q2, c5, c6, c7, c8⟩ := mInv_spec hs
            exact wp_call4 hn hd1 hq hlen c1 c5 c2 c3 c4 c6 (fun r h1 hq1 => hk _ _ _ _ _ _ (c7 r h1 hq1)) (fun E h1 hq1 => c8 E h1 hq1)
          · exact hs.elim
        · obtain ⟨as, r, rfl, hlen, hs⟩ := mPop_spec hs
          rw [List.append_nil] at hs
          split at hs
          · obtain ⟨c1, c2, c3, c4, d2, Q2, c5, c6, c7, c8⟩ := mInv_spec hs
            exact wp_call5 hn hd1 hq hlen c1 c5 c2 c3 c4 c6 (fun r h1 hq1 => hk _ _ _ _ _ _ (c7 r h1 hq1)) (fun E h1 hq1 => c8 E h1 hq1)
          · exact hs.elim
        · split at hs
          · replace hs := mCond hs
            obtain ⟨hb, hs⟩ := hs
            obtain ⟨ix, hw⟩ := mMt_ok _ (mLk_mem hq)
            exact wp_obj hn hd1 (mIs_mem hw) (by rw [← mCs_eq]; exact Nat.le_of_ble_eq_true hb) (hk _ _ _ _ _ _ hs)
          · exact hs.elim
        · exact hs.elim
      · exact hs.elim
  | _ => exact hs.elim
theorem mRun_sound {tb : mTb} {cuts : List Nat} (hM : mOkM M) (hns : mNoSt M tb) (hok : ∀ q ∈ tb, mTbOk M.2.1 q = true) : ∀ (f pc : Nat) (L : List (Option Value)) (st : List Value) (h : mH) (bc bs : Nat), mRun X M d Q tb cuts f pc L st h bc bs → mWP X M d Q pc L st h bc bs
  | 0, _, _, _, _, _, _, hs => hs
  | f + 1, pc, L, st, h, bc, bs, hs => by
    simp only [mRun] at hs
    split at hs
    · rename_i i nx tg hlk
      refine mOp_sound hM hns hok hlk (fun pc L st h bc bs q => ?_) hs
      cases hc : cuts.elem pc with
      | true => rw [hc] at q; exact q
      | false => rw [hc] at q; exact mRun_sound hM hns hok f pc L st h bc bs q
    · exact hs.elim
end mSn
