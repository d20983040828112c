/-! the computation over whole numbers is sound -/
theorem zS1_eq : ∀ (L : List (Option zV)) (j : Nat) (v : zV) (k : List (Option zV) → Prop), zS1 L j v k = k (zSt1 L j v)
  | [], j, v, k => by
    cases j <;> rfl
  | a :: r, 0, v, k => rfl
  | a :: r, j + 1, v, k => by
    simp only [zS1]
    split
    · rw [zS1_eq]
      rfl
    · rename_i hno
      rw [zS1_eq]
      congr 1
      cases j with
      | zero =>
        match a, hno with
        | none, _ => rfl
        | some (.inl z), _ => rfl
        | some (.inr (.inr z)), _ => rfl
        | some (.inr (.inl z)), hno => exact (hno z rfl rfl).elim
      | succ i =>
        simp only [zSt1, zKill, List.getElem?_cons_succ]
        split <;> rfl
theorem zS2_eq : ∀ (L : List (Option zV)) (j : Nat) (v : zV) (k : List (Option zV) → Prop), zS2 L j v k = k (zSt2 L j v)
  | [], j, v, k => by
    cases j <;> rfl
  | a :: r, 0, v, k => by
    cases r <;> rfl
  | a :: r, j + 1, v, k => by
    simp only [zS2]
    split
    · rw [zS2_eq]
      rfl
    · rename_i hno
      rw [zS2_eq]
      congr 1
      cases j with
      | zero =>
        match a, hno with
        | none, _ => rfl
        | some (.inl z), _ => rfl
        | some (.inr (.inr z)), _ => rfl
        | some (.inr (.inl z)), hno => exact (hno z rfl rfl).elim
      | succ i =>
        simp only [zSt2, zKill, List.getElem?_cons_succ]
        split <;> rfl
theorem zKl_ok : ∀ oc : Fin 17, ∀ q ∈ zKl oc, Cond.constantLong (mNm oc) q.1 (Int64.ofInt q.2) ∈ lw_tbl := by decide +kernel
theorem zCs_eq (st : List zV) : ((st.map zT).map fun v => v.category).sum = zCs st := by
  induction st with
  | nil => rfl
  | cons v r ih =>
    match v with
    | .inl z => simp [zCs, zT, Value.category, ← ih]
    | .inr (.inl z) => simp [zCs, zT, Value.category, ← ih]
    | .inr (.inr none) => simp [zCs, zT, Value.category, ← ih]
    | .inr (.inr (some k)) => simp [zCs, zT, Value.category, ← ih]
theorem zWfV_eq (h : zH) (v : zV) : mWfV (h.map zC) (zT v) = zWfV h v := by
  match v with
  | .inl z => rfl
  | .inr (.inl z) => rfl
  | .inr (.inr none) => rfl
  | .inr (.inr (some k)) => simp [mWfV, zWfV, zT, Bool.or_comm]
theorem zWfS_eq (h : zH) (L : List (Option zV)) (st : List zV) : mWfS (h.map zC) (zL L) (st.map zT) = zWfS h L st := by
  simp only [mWfS, zWfS, zL, List.all_map]
  congr 1
  · congr 1
    funext o
    cases o with
    | none => rfl
    | some v => exact zWfV_eq h v
  · congr 1
    funext v
    exact zWfV_eq h v
theorem zFit_ok {ty : FieldType} {v : zV} (h : zFit ty v = true) : mFit ty (zT v) = true := by
  match ty, v, h with
  | .int, .inl z, _ => rfl
  | .boolean, .inl z, h =>
    have h1 : z = 0 ∨ z = 1 := of_decide_eq_true h
    rcases h1 with rfl | rfl <;> decide
  | .object _, .inr (.inr none), _ => rfl
  | .object _, .inr (.inr (some k)), _ => rfl
  | .array _, .inr (.inr none), _ => rfl
  | .array _, .inr (.inr (some k)), _ => rfl
theorem zDf_eq {ci : Nat} {r : vw_C} (hr : vwCl[ci]? = some r) : (zDf ci r.2.2).map zT = mDf ci r.2.2 := by
  match ci, hr with
  | 0, hr => cases hr; rfl
  | 1, hr => cases hr; rfl
  | 2, hr => cases hr; rfl
  | 3, hr => cases hr; rfl
  | 4, hr => cases hr; rfl
  | 5, hr => cases hr; rfl
  | 6, hr => cases hr; rfl
  | 7, hr => cases hr; rfl
  | 8, hr => cases hr; rfl
  | 9, hr => cases hr; rfl
  | 10, hr => cases hr; rfl
  | k + 11, hr => simp [vwCl] at hr
theorem zA_z (t : Nat) : zA t (.inl (fun _ => 0)) = if t = 1 then .inr (.inl (fun _ => 0)) else .inl (fun _ => 0) := rfl
theorem zT_rf (x : Option Nat) : zT (.inr (.inr x)) = va_rf x := by cases x <;> rfl
theorem zL_le {a b : Int} (ha : rL a) (hb : rL b) : Int64.ofInt a ≤ Int64.ofInt b ↔ a ≤ b := by rw [Int64.le_iff_toInt_le, rL_to ha, rL_to hb]
theorem zUp32 (f : Nat → Int) (k : Nat) (x : Int) : upd (fun i => Int32.ofInt (f i)) k (Int32.ofInt x) = fun i => Int32.ofInt (va_up f k x i) := by
  funext j
  simp only [upd, va_up]
  split <;> rfl
theorem zUp64 (f : Nat → Int) (k : Nat) (x : Int) : vp_updL (fun i => Int64.ofInt (f i)) k (Int64.ofInt x) = fun i => Int64.ofInt (va_up f k x i) := by
  funext j
  simp only [vp_updL, va_up]
  split <;> rfl
theorem zCpy (f g : Nat → Int) (a b n : Nat) : va_cpy (fun i => Int32.ofInt (f i)) (fun i => Int32.ofInt (g i)) a b n = fun i => Int32.ofInt (va_cpy f g a b n i) := by
  funext j
  simp only [va_cpy]
  split <;> rfl
theorem zB8 (x : Int) : (Int32.ofInt x).toInt8.toInt32 = Int32.ofInt (x.bmod 256) := by
  apply Int32.toInt_inj.mp
  have h1 : -128 ≤ x.bmod 256 := by have := Int.le_bmod (x := x) (m := 256) (by decide); omega
  have h2 : x.bmod 256 < 128 := by have := Int.bmod_lt (x := x) (m := 256) (by decide); omega
  rw [Int8.toInt_toInt32, Int32.toInt_ofInt_of_le (by omega) (by omega), Int32.toInt_toInt8, Int32.toInt_ofInt]
  exact Int.bmod_bmod_of_dvd ⟨16777216, by decide⟩
theorem zB16 (x : Int) : (Int32.ofInt x).toInt16.toInt32 = Int32.ofInt (x.bmod 65536) := by
  apply Int32.toInt_inj.mp
  have h1 : -32768 ≤ x.bmod 65536 := by have := Int.le_bmod (x := x) (m := 65536) (by decide); omega
  have h2 : x.bmod 65536 < 32768 := by have := Int.bmod_lt (x := x) (m := 65536) (by decide); omega
  rw [Int16.toInt_toInt32, Int32.toInt_ofInt_of_le (by omega) (by omega), Int32.toInt_toInt16, Int32.toInt_ofInt]
  exact Int.bmod_bmod_of_dvd ⟨65536, by decide⟩
theorem zL2I (x : Int) : (Int64.ofInt x).toInt32 = Int32.ofInt x := by
  apply Int32.toInt_inj.mp
  rw [Int64.toInt_toInt32, Int64.toInt_ofInt, Int32.toInt_ofInt]
  exact Int.bmod_bmod_of_dvd ⟨4294967296, by decide⟩
theorem zI2L {x : Int} (h : rI x) : (Int32.ofInt x).toInt64 = Int64.ofInt x := by
  apply Int64.toInt_inj.mp
  rw [Int32.toInt_toInt64, rI_to h, rL_to ⟨by have := h.1; omega, by have := h.2; omega⟩]
theorem zDiv {x y : Int} (hx : 0 ≤ x) (rx : rI x) (hy : 0 < y) (ry : rI y) : Int32.ofInt x / Int32.ofInt y = Int32.ofInt (x / y) ∧ ¬ Int32.ofInt y = 0 := by
  constructor
  · apply Int32.toInt_inj.mp
    have h1 : 0 ≤ x / y := Int.ediv_nonneg hx (by omega)
    have h2 : x / y ≤ x := Int.ediv_le_self _ hx
    have rx2 := rx.2
    rw [Int32.toInt_div_of_ne_left _ _ (by intro e; have e2 := congrArg Int32.toInt e; rw [rI_to rx] at e2; have : (Int32.minValue).toInt = -2147483648 := by decide
                                           omega), rI_to rx, rI_to ry, rI_to ⟨by omega, by omega⟩]
    exact Int.tdiv_eq_ediv_of_nonneg hx
  · intro e
    have e2 : Int32.ofInt y = Int32.ofInt 0 := e
    rw [zI_eq ry rI_0] at e2
    omega
theorem zDivL {x y : Int} (hx : 0 ≤ x) (rx : rL x) (hy : 0 < y) (ry : rL y) : Int64.ofInt x / Int64.ofInt y = Int64.ofInt (x / y) ∧ ¬ Int64.ofInt y = 0 := by
  constructor
  · apply Int64.toInt_inj.mp
    have h1 : 0 ≤ x / y := Int.ediv_nonneg hx (by omega)
    have h2 : x / y ≤ x := Int.ediv_le_self _ hx
    have rx2 := rx.2
    rw [Int64.toInt_div_of_ne_left _ _ (by intro e; have e2 := congrArg Int64.toInt e; rw [rL_to rx] at e2; have : (Int64.minValue).toInt = -9223372036854775808 := by decide
                                           omega), rL_to rx, rL_to ry, rL_to ⟨by omega, by omega⟩]
    exact Int.tdiv_eq_ediv_of_nonneg hx
  · intro e
    have e2 : Int64.ofInt y = Int64.ofInt 0 := e
    rw [zL_eq ry ⟨by omega, by omega⟩] at e2
    omega
theorem zRem {x y : Int} (hx : 0 ≤ x) (rx : rI x) (hy : 0 < y) (ry : rI y) : Int32.ofInt x - Int32.ofInt x / Int32.ofInt y * Int32.ofInt y = Int32.ofInt (x % y) := by
  rw [(zDiv hx rx hy ry).1, ← Int32.ofInt_mul, ← Int32.ofInt_sub]
  congr 1
  rw [Int.emod_def, Int.mul_comm]
theorem zRemL {x y : Int} (hx : 0 ≤ x) (rx : rL x) (hy : 0 < y) (ry : rL y) : Int64.ofInt x - Int64.ofInt x / Int64.ofInt y * Int64.ofInt y = Int64.ofInt (x % y) := by
  rw [(zDivL hx rx hy ry).1, ← Int64.ofInt_mul, ← Int64.ofInt_sub]
  congr 1
  rw [Int.emod_def, Int.mul_comm]
theorem zMin {x y : Int} (hx : rI x) (hy : rI y) : (if Int32.ofInt y < Int32.ofInt x then Int32.ofInt y else Int32.ofInt x) = Int32.ofInt (min x y) := by
  simp only [zI_lt hy hx]
  split <;> congr 1 <;> omega
theorem zMax {x y : Int} (hx : rI x) (hy : rI y) : (if Int32.ofInt x < Int32.ofInt y then Int32.ofInt y else Int32.ofInt x) = Int32.ofInt (max x y) := by
  simp only [zI_lt hx hy]
  split <;> congr 1 <;> omega
theorem zAbs {x : Int} (hx : rI x) : (if 0 ≤ Int32.ofInt x then Int32.ofInt x else 0 - Int32.ofInt x) = Int32.ofInt (max x (-x)) := by
  have e : (0 : Int32) = Int32.ofInt 0 := rfl
  rw [e, ← Int32.ofInt_sub]
  simp only [zI_le rI_0 hx]
  split <;> congr 1 <;> omega
theorem zMaxL {x y : Int} (hx : rL x) (hy : rL y) : (if Int64.ofInt y < Int64.ofInt x then Int64.ofInt x else Int64.ofInt y) = Int64.ofInt (max x y) := by
  simp only [zL_lt hy hx]
  split <;> congr 1 <;> omega
theorem zNarB (x : Int) : vp_nar .byte (Int32.ofInt x) = Int32.ofInt (x.bmod 256) := by rw [vp_nar_byte, zB8]
theorem zNarZ {x : Int} (h : x = 0 ∨ x = 1) : vp_nar .boolean (Int32.ofInt x) = Int32.ofInt x ∧ narrow .boolean (.int (Int32.ofInt x)) = .int (Int32.ofInt x) := by
  rcases h with rfl | rfl <;> exact ⟨by decide, by decide⟩
section zSn
variable {X : mX} {M : mM} {d : Nat} {Q : zO → zH → Prop} {pc : Nat} {L : List (Option zV)} {st : List zV} {h : zH} {bc bs : Nat}
theorem zSwIn_spec {x : Int} {k : Nat → Prop} : ∀ {ts : List Nat} {lo : Int}, zSwIn x lo ts k → ∀ (j t : Nat), ts[j]? = some t → x = lo + j → k t
  | [], lo, _, j, t, ht, _ => by simp at ht
  | t0 :: ts, lo, h, 0, t, ht, hx => by
    cases ht
    exact h.1 (by simpa using hx)
  | t0 :: ts, lo, h, j + 1, t, ht, hx => zSwIn_spec h.2 j t (by simpa using ht) (by rw [hx]; omega)
theorem zSwL_spec {x : Int} {k : Nat → Prop} {kd : Prop} {pc : Nat} {df : Int} {td : Nat} (hd : (pc : Int) + df = (td : Int)) : ∀ {ps : List (Int × Int)} {ts : List Nat}, ts.map (fun t : Nat => (t : Int)) = ps.map (fun x => (pc : Int) + x.2) → zSwL x ps ts kd k → ∃ t : Nat, (pc : Int) + Op.lookupswitch.offset ps df x = (t : Int) ∧ ((t = td ∧ kd) ∨ k t)
  | [], [], _, h => ⟨td, by simpa [Op.lookupswitch.offset] using hd, Or.inl ⟨rfl, h⟩⟩
  | [], _ :: _, e, _ => by simp at e
  | _ :: _, [], e, _ => by simp at e
  | p :: ps, t :: ts, e, h => by
    simp only [List.map_cons, List.cons.injEq] at e
    by_cases hx : x = p.1
    · exact ⟨t, by simp only [Op.lookupswitch.offset, hx]; simpa using e.1.symm, Or.inr (h.1 hx)⟩
    · obtain ⟨t2, h1, h2⟩ := zSwL_spec hd e.2 (h.2 hx)
      refine ⟨t2, ?_, h2⟩
      rw [← h1]
      simp only [Op.lookupswitch.offset]
      simp [hx, Ne.symm hx]
theorem zPop_spec {k : List zV → List zV → Prop} : ∀ {n : Nat} {st acc : List zV}, zPop n st acc k → ∃ as rest, st = as.reverse ++ rest ∧ as.length = n ∧ k (as ++ acc) rest
  | 0, st, acc, h => ⟨[], st, rfl, rfl, h⟩
  | n + 1, [], acc, h => h.elim
  | n + 1, v :: st, acc, h => by
    obtain ⟨as, rest, h1, h2, h3⟩ := zPop_spec (n := n) h
    exact ⟨as ++ [v], rest, by simp [h1], by simp [h2], by simpa using h3⟩
theorem zInv_spec {tb : mTb} {K : zK} {nx kd : Nat} {M2 : mM} {as rest : List zV} (hk : ∀ pc L st h bc bs, K pc L st h bc bs → zWP X M d Q pc L st h bc bs) (hs : zInv X M d Q tb K pc nx L h bc bs kd M2 as rest) : ((rest.map zT).map fun v => v.category).sum ≤ 8 ∧ M2.2.2.2.2.2.2.1 ≤ bc ∧ M2.2.2.2.2.2.2.2 ≤ bs ∧ mWfS (h.map zC) (zL L) (rest.map zT) = true ∧ ∃ (d2 : Nat) (Q2 : zO → zH → Prop), d2 < d ∧ mEv X d2 M2 (as.map zT) (h.map zC) (zQ Q2) ∧ (∀ (r : Option Value) (h1 : mH), zQ Q2 (.inl r) h1 → mWP X M d (zQ Q) nx (zL L) (r.toList ++ rest.map zT) h1 (bc - M2.2.2.2.2.2.2.1) (bs - M2.2.2.2.2.2.2.2)) ∧ ∀ (E : Nat) (h1 : mH), zQ Q2 (.inr E) h1 → ∃ h2 : zH, h1 = h2.map zC ∧ zXc M Q tb pc kd E h2 := by
  replace hs := mCond hs
  obtain ⟨hb, hs⟩ := hs
  simp only [Bool.and_eq_true] at hb
  obtain ⟨⟨⟨b1, b2⟩, b3⟩, b4⟩ := hb
  obtain ⟨d2, Q2, h1, h2, h3⟩ := hs
  refine ⟨by rw [zCs_eq]; exact Nat.le_of_ble_eq_true b1, Nat.le_of_ble_eq_true b2, Nat.le_of_ble_eq_true b3, by rw [zWfS_eq]; exact b4, d2, Q2, h1, h2, fun r h4 hq => ?_, fun E h4 hq => ?_⟩
  · obtain ⟨o2, h5, e1, e2, e3⟩ := hq
    match o2, e1, e3 with
    | .inr n, e1, _ => cases e1
    | .inl none, e1, e3 =>
      cases e1
      subst e2
      exact hk _ _ _ _ _ _ (h3 (.inl none) h5 e3)
    | .inl (some v), e1, e3 =>
      cases e1
      subst e2
      exact hk _ _ _ _ _ _ (h3 (.inl (some v)) h5 e3)
  · obtain ⟨o2, h5, e1, e2, e3⟩ := hq
    match o2, e1, e3 with
    | .inr n, e1, e3 =>
      cases e1
      exact ⟨h5, e2, h3 (.inr _) h5 e3⟩
    | .inl r, e1, _ => cases e1
set_option maxHeartbeats 4000000 in
theorem zOp_sound {tb : mTb} {K : zK} {i : Instr} {nx : Nat} {tg : List Nat} (hM : mOkM M) (hns : mNoSt M tb) (hok : ∀ q ∈ tb, mTbOk M.2.1 q = true) (hlk : mLk tb pc = some (i, nx, tg)) (hk : ∀ pc L st h bc bs, K pc L st h bc bs → zWP X M d Q pc L st h bc bs) (hs : zOp X M d Q tb K i nx tg pc L st h bc bs) : zWP X M d Q pc L st h bc bs := by
  obtain ⟨hoc, hn, hrt0⟩ := hM
  have hLw : ∀ h0 hr0, M.2.2.2.2.1 = h0 :: hr0 → M.1.cls = RL := fun h0 hr0 e => by
    rcases hrt0 with q | q
    · rw [q] at e; cases e
    · exact q.1
  have hrw : ∀ h0 hr0, M.2.2.2.2.1 = h0 :: hr0 → M.2.2.2.1 = some .int := fun h0 hr0 e => by
    rcases hrt0 with q | q
    · rw [q] at e; cases e
    · exact q.2
  have hok1 := hok _ (mLk_mem hlk)
  simp only [mTbOk, Bool.and_eq_true, decide_eq_true_eq] at hok1
  obtain ⟨⟨-, hd⟩, hg⟩ := hok1
  have hQr : ∀ {r : Option zV}, Q (.inl r) h → zQ Q (.inl (r.map zT)) (h.map zC) := fun q => ⟨_, _, rfl, rfl, q⟩
  cases i with
  | ifCond cd off =>
      simp only [zOp] at hs
      simp only [mTg] at hg
      split at hs
      · simp only [Bool.and_eq_true, decide_eq_true_eq] at hg
        obtain ⟨rfl, hg⟩ := hg
        have hd := mDl hd rfl
        obtain ⟨rx, hs⟩ := hs
        split at hs
        · exact wp_if_eq hd hg (fun q => hk _ _ _ _ _ _ (hs.1 ((zI_eq rx rI_0).mp q))) (fun q => hk _ _ _ _ _ _ (hs.2 (fun z => q ((zI_eq rx rI_0).mpr z))))
        · exact wp_if_ne hd hg (fun q => hk _ _ _ _ _ _ (hs.2 (fun z => q ((zI_eq rx rI_0).mpr z)))) (fun q => hk _ _ _ _ _ _ (hs.1 ((zI_eq rx rI_0).mp q)))
        · exact wp_if_lt hd hg (fun q => hk _ _ _ _ _ _ (hs.1 ((zI_lt rx rI_0).mp q))) (fun q => hk _ _ _ _ _ _ (hs.2 (fun z => q ((zI_lt rx rI_0).mpr z))))
        · exact wp_if_ge hd hg (fun q => hk _ _ _ _ _ _ (hs.1 ((zI_le rI_0 rx).mp q))) (fun q => hk _ _ _ _ _ _ (hs.2 (fun z => q ((zI_le rI_0 rx).mpr z))))
        · exact wp_if_gt hd hg (fun q => hk _ _ _ _ _ _ (hs.1 ((zI_lt rI_0 rx).mp q))) (fun q => hk _ _ _ _ _ _ (hs.2 (fun z => q ((zI_lt rI_0 rx).mpr z))))
        · exact wp_if_le hd hg (fun q => hk _ _ _ _ _ _ (hs.1 ((zI_le rx rI_0).mp q))) (fun q => hk _ _ _ _ _ _ (hs.2 (fun z => q ((zI_le rx rI_0).mpr z))))
      · exact hs.elim
  | if_icmp cd off =>
      simp only [zOp] at hs
      simp only [mTg] at hg
      split at hs
      · simp only [Bool.and_eq_true, decide_eq_true_eq] at hg
        obtain ⟨rfl, hg⟩ := hg
        have hd := mDl hd rfl
        obtain ⟨rx, hs⟩ := hs
        split at hs
        · exact wp_icmp_eq hd hg (fun q => hk _ _ _ _ _ _ (hs.1 ((zI_eq rx.1 rx.2).mp q))) (fun q => hk _ _ _ _ _ _ (hs.2 (fun z => q ((zI_eq rx.1 rx.2).mpr z))))
        · exact wp_icmp_ne hd hg (fun q => hk _ _ _ _ _ _ (hs.2 (fun z => q ((zI_eq rx.1 rx.2).mpr z)))) (fun q => hk _ _ _ _ _ _ (hs.1 ((zI_eq rx.1 rx.2).mp q)))
        · exact wp_icmp_lt hd hg (fun q => hk _ _ _ _ _ _ (hs.1 ((zI_lt rx.1 rx.2).mp q))) (fun q => hk _ _ _ _ _ _ (hs.2 (fun z => q ((zI_lt rx.1 rx.2).mpr z))))
        · exact wp_icmp_ge hd hg (fun q => hk _ _ _ _ _ _ (hs.1 ((zI_le rx.2 rx.1).mp q))) (fun q => hk _ _ _ _ _ _ (hs.2 (fun z => q ((zI_le rx.2 rx.1).mpr z))))
        · exact wp_icmp_gt hd hg (fun q => hk _ _ _ _ _ _ (hs.1 ((zI_lt rx.2 rx.1).mp q))) (fun q => hk _ _ _ _ _ _ (hs.2 (fun z => q ((zI_lt rx.2 rx.1).mpr z))))
        · exact wp_icmp_le hd hg (fun q => hk _ _ _ _ _ _ (hs.1 ((zI_le rx.1 rx.2).mp q))) (fun q => hk _ _ _ _ _ _ (hs.2 (fun z => q ((zI_le rx.1 rx.2).mpr z))))
      · exact hs.elim
  | goto off =>
      simp only [zOp] at hs
      simp only [mTg] at hg
      split at hs
      · simp only [Bool.and_eq_true, decide_eq_true_eq] at hg
        obtain ⟨rfl, hg⟩ := hg
        exact wp_goto (mDl hd rfl) hg (hk _ _ _ _ _ _ hs)
      · exact hs.elim
  | ifnonnull off =>
      simp only [zOp] at hs
      simp only [mTg] at hg
      split at hs
      · simp only [Bool.and_eq_true, decide_eq_true_eq] at hg
        obtain ⟨rfl, hg⟩ := hg
        exact wp_ifnonnull (mDl hd rfl) hg (hk _ _ _ _ _ _ hs)
      · simp only [Bool.and_eq_true, decide_eq_true_eq] at hg
        obtain ⟨rfl, hg⟩ := hg
        exact wp_ifnonnullN (mDl hd rfl) (hk _ _ _ _ _ _ hs)
      · exact hs.elim
  | tableswitch df lo hi offs =>
      simp only [zOp] at hs
      simp only [mTg] at hg
      split at hs
      · rename_i x r t ts
        obtain ⟨rx, hs⟩ := hs
        simp only [Bool.and_eq_true, decide_eq_true_eq, List.map_cons, List.cons.injEq] at hg
        obtain ⟨⟨g1, g2⟩, g3⟩ := hg
        have ex := rI_to rx
        by_cases hx : x < lo ∨ hi < x
        · exact wp_tableOut hd (by rw [ex]; exact hx) g1.symm (hk _ _ _ _ _ _ (hs.1 hx))
        · have hx1 : ¬ x < lo := fun q => hx (Or.inl q)
          have hx2 : ¬ hi < x := fun q => hx (Or.inr q)
          have hlen : ts.length = offs.toList.length := by simpa using congrArg List.length g2
          have hj : (x - lo).toNat < ts.length := by omega
          have e1 : ts[(x - lo).toNat]? = some (ts[(x - lo).toNat]) := List.getElem?_eq_getElem hj
          have e2 : (offs.toList)[(x - lo).toNat]? = some (offs.toList[(x - lo).toNat]) := List.getElem?_eq_getElem (by omega)
          have e3 := congrArg (fun l => l[(x - lo).toNat]?) g2
          simp only [List.getElem?_map, e1, e2, Option.map_some, Option.some.injEq] at e3
          exact wp_tableIn hd (by rw [ex]; exact hx1) (by rw [ex]; exact hx2) (by rw [ex, ← Array.getElem?_toList]; exact e2) e3.symm (hk _ _ _ _ _ _ (zSwIn_spec hs.2 _ _ e1 (by omega)))
      · exact hs.elim
  | lookupswitch df ps =>
      simp only [zOp] at hs
      simp only [mTg] at hg
      split at hs
      · rename_i x r t ts
        obtain ⟨rx, hs⟩ := hs
        simp only [Bool.and_eq_true, decide_eq_true_eq, List.map_cons, List.cons.injEq] at hg
        obtain ⟨⟨g1, g2⟩, g3⟩ := hg
        obtain ⟨t2, h1, h2⟩ := zSwL_spec g1.symm g2 hs
        refine wp_lookup hd g3 (by rw [rI_to rx]) h1 ?_
        rcases h2 with ⟨rfl, h2⟩ | h2
        · exact hk _ _ _ _ _ _ h2
        · exact hk _ _ _ _ _ _ h2
      · exact hs.elim
  | aload_n j =>
      simp only [zOp] at hs
      simp only [mTg, decide_eq_true_eq] at hg
      have hd1 := mDl hd hg
      clear hd
      subst hg
      split at hs
      · rename_i x hx
        have k := hk _ _ _ _ _ _ hs
        cases x with
        | none => exact wp_aload_nN hd1 (zL_at hx) k
        | some q => exact wp_aload_n hd1 (zL_at hx) k
      · exact hs.elim
  | aload j =>
      simp only [zOp] at hs
      simp only [mTg, decide_eq_true_eq] at hg
      have hd1 := mDl hd hg
      clear hd
      subst hg
      split at hs
      · rename_i x hx
        have k := hk _ _ _ _ _ _ hs
        cases x with
        | none => exact wp_aloadN hd1 (zL_at hx) k
        | some q => exact wp_aload hd1 (zL_at hx) k
      · exact hs.elim
  | iload_n j =>
      simp only [zOp] at hs
      simp only [mTg, decide_eq_true_eq] at hg
      have hd1 := mDl hd hg
      clear hd
      subst hg
      split at hs
      · rename_i x hx
        exact wp_iload_n hd1 (zL_at hx) (hk _ _ _ _ _ _ hs)
      · exact hs.elim
  | iload j =>
      simp only [zOp] at hs
      simp only [mTg, decide_eq_true_eq] at hg
      have hd1 := mDl hd hg
      clear hd
      subst hg
      split at hs
      · rename_i x hx
        exact wp_iload hd1 (zL_at hx) (hk _ _ _ _ _ _ hs)
      · exact hs.elim
  | lload_n j =>
      simp only [zOp] at hs
      simp only [mTg, decide_eq_true_eq] at hg
      have hd1 := mDl hd hg
      clear hd
      subst hg
      split at hs
      · rename_i x hx
        exact wp_lload_n hd1 (zL_at hx) (hk _ _ _ _ _ _ hs)
      · exact hs.elim
  | lload j =>
      simp only [zOp] at hs
      simp only [mTg, decide_eq_true_eq] at hg
      have hd1 := mDl hd hg
      clear hd
      subst hg
      split at hs
      · rename_i x hx
        exact wp_lload hd1 (zL_at hx) (hk _ _ _ _ _ _ hs)
      · exact hs.elim
  | istore_n j =>
      simp only [zOp] at hs
      simp only [mTg, decide_eq_true_eq] at hg
      have hd1 := mDl hd hg
      clear hd
      subst hg
      split at hs
      · rename_i x r
        replace hs := mCond hs
        obtain ⟨hb, hs⟩ := hs
        rw [zS1_eq] at hs
        have k := hk _ _ _ _ _ _ hs
        simp only [zWP] at k
        rw [← zSt1_eq] at k
        exact wp_istore_n hd1 rfl (by simpa using hb) k
      · exact hs.elim
  | istore j =>
      simp only [zOp] at hs
      simp only [mTg, decide_eq_true_eq] at hg
      have hd1 := mDl hd hg
      clear hd
      subst hg
      split at hs
      · rename_i x r
        replace hs := mCond hs
        obtain ⟨hb, hs⟩ := hs
        rw [zS1_eq] at hs
        have k := hk _ _ _ _ _ _ hs
        simp only [zWP] at k
        rw [← zSt1_eq] at k
        exact wp_istore hd1 (by simpa using hb) k
      · exact hs.elim
  | lstore_n j =>
      simp only [zOp] at hs
      simp only [mTg, decide_eq_true_eq] at hg
      have hd1 := mDl hd hg
      clear hd
      subst hg
      split at hs
      · rename_i x r
        replace hs := mCond hs
        obtain ⟨hb, hs⟩ := hs
        rw [zS2_eq] at hs
        have k := hk _ _ _ _ _ _ hs
        simp only [zWP] at k
        rw [← zSt2_eq] at k
        exact wp_lstore_n hd1 rfl (by simpa using hb) k
      · exact hs.elim
  | lstore j =>
      simp only [zOp] at hs
      simp only [mTg, decide_eq_true_eq] at hg
      have hd1 := mDl hd hg
      clear hd
      subst hg
      split at hs
      · rename_i x r
        replace hs := mCond hs
        obtain ⟨hb, hs⟩ := hs
        rw [zS2_eq] at hs
        have k := hk _ _ _ _ _ _ hs
        simp only [zWP] at k
        rw [← zSt2_eq] at k
        exact wp_lstore hd1 (by simpa using hb) k
      · exact hs.elim
  | astore_n j =>
      simp only [zOp] at hs
      simp only [mTg, decide_eq_true_eq] at hg
      have hd1 := mDl hd hg
      clear hd
      subst hg
      split at hs
      · rename_i x r
        replace hs := mCond hs
        obtain ⟨hb, hs⟩ := hs
        rw [zS1_eq] at hs
        have k := hk _ _ _ _ _ _ hs
        simp only [zWP] at k
        rw [← zSt1_eq] at k
        exact wp_astore_n hd1 rfl (by simpa using hb) k
      · exact hs.elim
  | astore j =>
      simp only [zOp] at hs
      simp only [mTg, decide_eq_true_eq] at hg
      have hd1 := mDl hd hg
      clear hd
      subst hg
      split at hs
      · rename_i x r
        replace hs := mCond hs
        obtain ⟨hb, hs⟩ := hs
        rw [zS1_eq] at hs
        have k := hk _ _ _ _ _ _ hs
        simp only [zWP] at k
        rw [← zSt1_eq] at k
        exact wp_astore hd1 (by simpa using hb) k
      · exact hs.elim
  | iinc j n =>
      simp only [zOp] at hs
      simp only [mTg, decide_eq_true_eq] at hg
      have hd1 := mDl hd hg
      clear hd
      subst hg
      split at hs
      · rename_i x hx
        replace hs := mCond hs
        obtain ⟨hb, hs⟩ := hs
        rw [zS1_eq] at hs
        have k := hk _ _ _ _ _ _ hs
        simp only [zWP] at k
        rw [← zSt1_eq] at k
        exact wp_iinc hd1 (zL_at hx) (by rw [Int32.ofInt_add]) (by simpa using hb) k
      · exact hs.elim
  | iconst n =>
      simp only [zOp] at hs
      simp only [mTg, decide_eq_true_eq] at hg
      have hd1 := mDl hd hg
      clear hd
      subst hg
      exact wp_iconst hd1 rfl (hk _ _ _ _ _ _ hs)
  | bipush n =>
      simp only [zOp] at hs
      simp only [mTg, decide_eq_true_eq] at hg
      have hd1 := mDl hd hg
      clear hd
      subst hg
      split at hs
      · replace hs := mCond hs
        obtain ⟨hb, hs⟩ := hs
        exact wp_bipush hd1 (by rw [mC8 (by simpa using hb), ← mC_of]) (hk _ _ _ _ _ _ hs)
      · replace hs := mCond hs
        obtain ⟨hb, hs⟩ := hs
        exact wp_bipush hd1 (by rw [mC8n (by simpa using hb), ← mC_neg]) (hk _ _ _ _ _ _ hs)
  | sipush n =>
      simp only [zOp] at hs
      simp only [mTg, decide_eq_true_eq] at hg
      have hd1 := mDl hd hg
      clear hd
      subst hg
      split at hs
      · replace hs := mCond hs
        obtain ⟨hb, hs⟩ := hs
        exact wp_sipush hd1 (by rw [mC16 (by simpa using hb), ← mC_of]) (hk _ _ _ _ _ _ hs)
      · replace hs := mCond hs
        obtain ⟨hb, hs⟩ := hs
        exact wp_sipush hd1 (by rw [mC16n (by simpa using hb), ← mC_neg]) (hk _ _ _ _ _ _ hs)
  | lconst n =>
      simp only [zOp] at hs
      simp only [mTg, decide_eq_true_eq] at hg
      have hd1 := mDl hd hg
      clear hd
      subst hg
      match n, hd1, hs with
      | 0, hd2, hs => exact wp_lconst hd2 rfl (hk _ _ _ _ _ _ hs)
      | 1, hd2, hs => exact wp_lconst hd2 rfl (hk _ _ _ _ _ _ hs)
  | ldc j =>
      simp only [zOp] at hs
      simp only [mTg, decide_eq_true_eq] at hg
      have hd1 := mDl hd hg
      clear hd
      subst hg
      split at hs
      · have k := hk _ _ _ _ _ _ hs
        simp only [zWP, List.map_cons, zT, zI_asI] at k
        exact wp_ldc hoc hn hd1 ‹_› k
      · split at hs
        · exact wp_ldcS hoc hn hd1 ‹_› (hk _ _ _ _ _ _ hs)
        · exact hs.elim
  | ldc_w j =>
      simp only [zOp] at hs
      simp only [mTg, decide_eq_true_eq] at hg
      have hd1 := mDl hd hg
      clear hd
      subst hg
      split at hs
      · have k := hk _ _ _ _ _ _ hs
        simp only [zWP, List.map_cons, zT, zI_asI] at k
        exact wp_ldcw hoc hn hd1 ‹_› k
      · exact hs.elim
  | ldc2_w j =>
      simp only [zOp] at hs
      simp only [mTg, decide_eq_true_eq] at hg
      have hd1 := mDl hd hg
      clear hd
      subst hg
      split at hs
      · rename_i v hv
        have k := hk _ _ _ _ _ _ hs
        have hw := zKl_ok ⟨_, hoc⟩ _ (mLk_mem hv)
        intro p e R s m args below meth c H locs cells slots ad a0 n0 ls F G hl
        exact lv_ldc2 F.1 F.2.1 (by rw [hn]; exact F.2.2.2.1) (F.2.2.2.2.2.2.2.2.1.word hw rfl) hd1 (k p e R s m args below meth c H locs cells slots ad a0 n0 ls F G hl)
      · exact hs.elim
  | iadd =>
      simp only [zOp] at hs
      simp only [mTg, decide_eq_true_eq] at hg
      have hd1 := mDl hd hg
      clear hd
      subst hg
      split at hs
      · have k := hk _ _ _ _ _ _ hs
        simp only [zWP, List.map_cons, zT, Int32.ofInt_add] at k
        exact wp_iadd hd1 k
      · exact hs.elim
  | isub =>
      simp only [zOp] at hs
      simp only [mTg, decide_eq_true_eq] at hg
      have hd1 := mDl hd hg
      clear hd
      subst hg
      split at hs
      · have k := hk _ _ _ _ _ _ hs
        simp only [zWP, List.map_cons, zT, Int32.ofInt_sub] at k
        exact wp_isub hd1 k
      · exact hs.elim
  | imul =>
      simp only [zOp] at hs
      simp only [mTg, decide_eq_true_eq] at hg
      have hd1 := mDl hd hg
      clear hd
      subst hg
      split at hs
      · have k := hk _ _ _ _ _ _ hs
        simp only [zWP, List.map_cons, zT, Int32.ofInt_mul] at k
        exact wp_imul hd1 k
      · exact hs.elim
  | iand =>
      simp only [zOp] at hs
      simp only [mTg, decide_eq_true_eq] at hg
      have hd1 := mDl hd hg
      clear hd
      subst hg
      split at hs
      · have k := hk _ _ _ _ _ _ hs
        simp only [zWP, List.map_cons, zT, zI_asI] at k
        exact wp_iand hd1 k
      · exact hs.elim
  | ior =>
      simp only [zOp] at hs
      simp only [mTg, decide_eq_true_eq] at hg
      have hd1 := mDl hd hg
      clear hd
      subst hg
      split at hs
      · have k := hk _ _ _ _ _ _ hs
        simp only [zWP, List.map_cons, zT, zI_asI] at k
        exact wp_ior hd1 k
      · exact hs.elim
  | ixor =>
      simp only [zOp] at hs
      simp only [mTg, decide_eq_true_eq] at hg
      have hd1 := mDl hd hg
      clear hd
      subst hg
      split at hs
      · have k := hk _ _ _ _ _ _ hs
        simp only [zWP, List.map_cons, zT, zI_asI] at k
        exact wp_ixor hd1 k
      · exact hs.elim
  | ishl =>
      simp only [zOp] at hs
      simp only [mTg, decide_eq_true_eq] at hg
      have hd1 := mDl hd hg
      clear hd
      subst hg
      split at hs
      · have k := hk _ _ _ _ _ _ hs
        simp only [zWP, List.map_cons, zT, zI_asI] at k
        exact wp_ishl hd1 k
      · exact hs.elim
  | ishr =>
      simp only [zOp] at hs
      simp only [mTg, decide_eq_true_eq] at hg
      have hd1 := mDl hd hg
      clear hd
      subst hg
      split at hs
      · have k := hk _ _ _ _ _ _ hs
        simp only [zWP, List.map_cons, zT, zI_asI] at k
        exact wp_ishr hd1 k
      · exact hs.elim
  | iushr =>
      simp only [zOp] at hs
      simp only [mTg, decide_eq_true_eq] at hg
      have hd1 := mDl hd hg
      clear hd
      subst hg
      split at hs
      · have k := hk _ _ _ _ _ _ hs
        simp only [zWP, List.map_cons, zT, zI_asI] at k
        exact wp_iushr hd1 k
      · exact hs.elim
  | ineg =>
      simp only [zOp] at hs
      simp only [mTg, decide_eq_true_eq] at hg
      have hd1 := mDl hd hg
      clear hd
      subst hg
      split at hs
      · have k := hk _ _ _ _ _ _ hs
        simp only [zWP, List.map_cons, zT, Int32.ofInt_neg] at k
        exact wp_ineg hd1 k
      · exact hs.elim
  | ladd =>
      simp only [zOp] at hs
      simp only [mTg, decide_eq_true_eq] at hg
      have hd1 := mDl hd hg
      clear hd
      subst hg
      split at hs
      · have k := hk _ _ _ _ _ _ hs
        simp only [zWP, List.map_cons, zT, Int64.ofInt_add] at k
        exact wp_ladd hd1 k
      · exact hs.elim
  | lsub =>
      simp only [zOp] at hs
      simp only [mTg, decide_eq_true_eq] at hg
      have hd1 := mDl hd hg
      clear hd
      subst hg
      split at hs
      · have k := hk _ _ _ _ _ _ hs
        simp only [zWP, List.map_cons, zT, Int64.ofInt_sub] at k
        exact wp_lsub hd1 k
      · exact hs.elim
  | lmul =>
      simp only [zOp] at hs
      simp only [mTg, decide_eq_true_eq] at hg
      have hd1 := mDl hd hg
      clear hd
      subst hg
      split at hs
      · have k := hk _ _ _ _ _ _ hs
        simp only [zWP, List.map_cons, zT, Int64.ofInt_mul] at k
        exact wp_lmul hd1 k
      · exact hs.elim
  | land =>
      simp only [zOp] at hs
      simp only [mTg, decide_eq_true_eq] at hg
      have hd1 := mDl hd hg
      clear hd
      subst hg
      split at hs
      · have k := hk _ _ _ _ _ _ hs
        simp only [zWP, List.map_cons, zT, zL_asI] at k
        exact wp_land hd1 k
      · exact hs.elim
  | lor =>
      simp only [zOp] at hs
      simp only [mTg, decide_eq_true_eq] at hg
      have hd1 := mDl hd hg
      clear hd
      subst hg
      split at hs
      · have k := hk _ _ _ _ _ _ hs
        simp only [zWP, List.map_cons, zT, zL_asI] at k
        exact wp_lor hd1 k
      · exact hs.elim
  | lshl =>
      simp only [zOp] at hs
      simp only [mTg, decide_eq_true_eq] at hg
      have hd1 := mDl hd hg
      clear hd
      subst hg
      split at hs
      · have k := hk _ _ _ _ _ _ hs
        simp only [zWP, List.map_cons, zT, zL_asI] at k
        exact wp_lshl hd1 k
      · exact hs.elim
  | lshr =>
      simp only [zOp] at hs
      simp only [mTg, decide_eq_true_eq] at hg
      have hd1 := mDl hd hg
      clear hd
      subst hg
      split at hs
      · have k := hk _ _ _ _ _ _ hs
        simp only [zWP, List.map_cons, zT, zL_asI] at k
        exact wp_lshr hd1 k
      · exact hs.elim
  | idiv =>
      simp only [zOp] at hs
      simp only [mTg, decide_eq_true_eq] at hg
      have hd1 := mDl hd hg
      clear hd
      subst hg
      split at hs
      · obtain ⟨⟨q1, q2, q3, q4⟩, hs⟩ := hs
        have k := hk _ _ _ _ _ _ hs
        simp only [zWP, List.map_cons, zT] at k
        rw [← (zDiv q1 q2 q3 q4).1] at k
        exact wp_idiv hd1 (zDiv q1 q2 q3 q4).2 k
      · exact hs.elim
  | ldiv =>
      simp only [zOp] at hs
      simp only [mTg, decide_eq_true_eq] at hg
      have hd1 := mDl hd hg
      clear hd
      subst hg
      split at hs
      · obtain ⟨⟨q1, q2, q3, q4⟩, hs⟩ := hs
        have k := hk _ _ _ _ _ _ hs
        simp only [zWP, List.map_cons, zT] at k
        rw [← (zDivL q1 q2 q3 q4).1] at k
        exact wp_ldiv hd1 (zDivL q1 q2 q3 q4).2 k
      · exact hs.elim
  | irem =>
      simp only [zOp] at hs
      simp only [mTg, decide_eq_true_eq] at hg
      have hd1 := mDl hd hg
      clear hd
      subst hg
      split at hs
      · obtain ⟨⟨q1, q2, q3, q4⟩, hs⟩ := hs
        have k := hk _ _ _ _ _ _ hs
        simp only [zWP, List.map_cons, zT] at k
        rw [← zRem q1 q2 q3 q4] at k
        exact wp_irem hd1 (zDiv q1 q2 q3 q4).2 k
      · exact hs.elim
  | lrem =>
      simp only [zOp] at hs
      simp only [mTg, decide_eq_true_eq] at hg
      have hd1 := mDl hd hg
      clear hd
      subst hg
      split at hs
      · obtain ⟨⟨q1, q2, q3, q4⟩, hs⟩ := hs
        have k := hk _ _ _ _ _ _ hs
        simp only [zWP, List.map_cons, zT] at k
        rw [← zRemL q1 q2 q3 q4] at k
        exact wp_lrem hd1 (zDivL q1 q2 q3 q4).2 k
      · exact hs.elim
  | lcmp =>
      simp only [zOp] at hs
      simp only [mTg, decide_eq_true_eq] at hg
      have hd1 := mDl hd hg
      clear hd
      subst hg
      split at hs
      · rename_i y x r c off nx2 t hl2
        obtain ⟨⟨rx, ry⟩, hs⟩ := hs
        have hok2 := hok _ (mLk_mem hl2)
        simp only [mTbOk, mTg, Bool.and_eq_true, decide_eq_true_eq] at hok2
        obtain ⟨⟨-, hd2⟩, ⟨hnx, hg2⟩⟩ := hok2
        have hd3 := mDl hd2 hnx
        subst hnx
        refine wp_lcmp hd1 ?_
        split at hs
        · exact wp_if_eq hd3 hg2 (fun q => hk _ _ _ _ _ _ (hs.1 ((zL_eq rx ry).mp ((lg_cmp_eq _ _).mp q)))) (fun q => hk _ _ _ _ _ _ (hs.2 (fun z => q ((lg_cmp_eq _ _).mpr ((zL_eq rx ry).mpr z)))))
        · exact wp_if_ne hd3 hg2 (fun q => hk _ _ _ _ _ _ (hs.2 (fun z => q ((lg_cmp_eq _ _).mpr ((zL_eq rx ry).mpr z))))) (fun q => hk _ _ _ _ _ _ (hs.1 ((zL_eq rx ry).mp ((lg_cmp_eq _ _).mp q))))
        · exact wp_if_lt hd3 hg2 (fun q => hk _ _ _ _ _ _ (hs.1 ((zL_lt rx ry).mp ((lg_cmp_lt _ _).mp q)))) (fun q => hk _ _ _ _ _ _ (hs.2 (fun z => q ((lg_cmp_lt _ _).mpr ((zL_lt rx ry).mpr z)))))
        · exact wp_if_ge hd3 hg2 (fun q => hk _ _ _ _ _ _ (hs.1 ((zL_le ry rx).mp ((lg_cmp_ge _ _).mp q)))) (fun q => hk _ _ _ _ _ _ (hs.2 (fun z => q ((lg_cmp_ge _ _).mpr ((zL_le ry rx).mpr z)))))
        · exact wp_if_gt hd3 hg2 (fun q => hk _ _ _ _ _ _ (hs.1 ((zL_lt ry rx).mp ((lg_cmp_gt _ _).mp q)))) (fun q => hk _ _ _ _ _ _ (hs.2 (fun z => q ((lg_cmp_gt _ _).mpr ((zL_lt ry rx).mpr z)))))
        · exact wp_if_le hd3 hg2 (fun q => hk _ _ _ _ _ _ (hs.1 ((zL_le rx ry).mp ((lg_cmp_le _ _).mp q)))) (fun q => hk _ _ _ _ _ _ (hs.2 (fun z => q ((lg_cmp_le _ _).mpr ((zL_le rx ry).mpr z)))))
      · exact hs.elim
  | i2l =>
      simp only [zOp] at hs
      simp only [mTg, decide_eq_true_eq] at hg
      have hd1 := mDl hd hg
      clear hd
      subst hg
      split at hs
      · obtain ⟨q1, hs⟩ := hs
        have k := hk _ _ _ _ _ _ hs
        simp only [zWP, List.map_cons, zT] at k
        rw [← zI2L q1] at k
        exact wp_i2l hd1 k
      · exact hs.elim
  | l2i =>
      simp only [zOp] at hs
      simp only [mTg, decide_eq_true_eq] at hg
      have hd1 := mDl hd hg
      clear hd
      subst hg
      split at hs
      · have k := hk _ _ _ _ _ _ hs
        simp only [zWP, List.map_cons, zT, ← zL2I] at k
        exact wp_l2i hd1 k
      · exact hs.elim
  | i2b =>
      simp only [zOp] at hs
      simp only [mTg, decide_eq_true_eq] at hg
      have hd1 := mDl hd hg
      clear hd
      subst hg
      split at hs
      · have k := hk _ _ _ _ _ _ hs
        simp only [zWP, List.map_cons, zT, ← zB8] at k
        exact wp_i2b hd1 k
      · exact hs.elim
  | i2s =>
      simp only [zOp] at hs
      simp only [mTg, decide_eq_true_eq] at hg
      have hd1 := mDl hd hg
      clear hd
      subst hg
      split at hs
      · have k := hk _ _ _ _ _ _ hs
        simp only [zWP, List.map_cons, zT, ← zB16] at k
        exact wp_i2s hd1 k
      · exact hs.elim
  | dup =>
      simp only [zOp] at hs
      simp only [mTg, decide_eq_true_eq] at hg
      have hd1 := mDl hd hg
      clear hd
      subst hg
      split at hs
      · exact wp_dup hd1 rfl (hk _ _ _ _ _ _ hs)
      · rename_i x r
        cases x with
        | none => exact wp_dup hd1 rfl (hk _ _ _ _ _ _ hs)
        | some q => exact wp_dup hd1 rfl (hk _ _ _ _ _ _ hs)
      · exact hs.elim
  | pop =>
      simp only [zOp] at hs
      simp only [mTg, decide_eq_true_eq] at hg
      have hd1 := mDl hd hg
      clear hd
      subst hg
      split at hs
      · exact wp_pop hd1 rfl (hk _ _ _ _ _ _ hs)
      · rename_i x r
        cases x with
        | none => exact wp_pop hd1 rfl (hk _ _ _ _ _ _ hs)
        | some q => exact wp_pop hd1 rfl (hk _ _ _ _ _ _ hs)
      · exact hs.elim
  | dup2 =>
      simp only [zOp] at hs
      simp only [mTg, decide_eq_true_eq] at hg
      have hd1 := mDl hd hg
      clear hd
      subst hg
      split at hs
      · rename_i x y r
        cases y with
        | none => exact wp_dup2_11 hd1 rfl rfl (hk _ _ _ _ _ _ hs)
        | some q => exact wp_dup2_11 hd1 rfl rfl (hk _ _ _ _ _ _ hs)
      · exact wp_dup2_11 hd1 rfl rfl (hk _ _ _ _ _ _ hs)
      · exact wp_dup2_2 hd1 rfl (hk _ _ _ _ _ _ hs)
      · exact hs.elim
  | pop2 =>
      simp only [zOp] at hs
      simp only [mTg, decide_eq_true_eq] at hg
      have hd1 := mDl hd hg
      clear hd
      subst hg
      split at hs
      · exact wp_pop2_2 hd1 rfl (hk _ _ _ _ _ _ hs)
      · exact hs.elim
  | getfield j =>
      simp only [zOp] at hs
      simp only [mTg, decide_eq_true_eq] at hg
      have hd1 := mDl hd hg
      clear hd
      subst hg
      split at hs
      · split at hs
        · split at hs
          · rename_i hh
            replace hs := mCond hs
            obtain ⟨hb, hs⟩ := hs
            have hb := Nat.eq_of_beq_eq_true hb
            subst hb
            split at hs
            · rename_i v hv
              exact wp_get hn hd1 ‹_› (zH_at hh) (by rw [List.getElem?_map, hv]; rfl) (hk _ _ _ _ _ _ hs)
            · exact hs.elim
          · exact hs.elim
        · exact hs.elim
      · exact hs.elim
  | putfield j =>
      simp only [zOp] at hs
      simp only [mTg, decide_eq_true_eq] at hg
      have hd1 := mDl hd hg
      clear hd
      subst hg
      split at hs
      · rename_i v k r
        split at hs
        · rename_i ci jj nest hft
          split at hs
          · rename_i ci2 fs hh
            replace hs := mCond hs
            obtain ⟨hb, hs⟩ := hs
            simp only [Bool.and_eq_true] at hb
            obtain ⟨⟨⟨b1, b2⟩, b3⟩, b4⟩ := hb
            have b1 := Nat.eq_of_beq_eq_true b1
            subst b1
            simp only [mFin] at b4
            split at b4
            · rename_i rr hrr
              have k1 := hk _ _ _ _ _ _ hs
              simp only [zWP] at k1
              rw [← zH_set] at k1
              simp only [zC, List.map_set] at k1
              refine wp_put hn hd1 hft (zH_at hh) (by simpa using b2) hrr ?_ (zFit_ok b3) k1
              cases hf : (rr.2.1 jj).2.2.2 with
              | false => exact Or.inl rfl
              | true =>
                simp only [hf, cond_true, Bool.and_eq_true, Bool.not_eq_true', decide_eq_true_eq] at b4
                exact Or.inr ⟨rfl, b4.1.2, b4.2, b4.1.1⟩
            · cases b4
          · exact hs.elim
        · exact hs.elim
      · exact hs.elim
  | iaload =>
      simp only [zOp] at hs
      simp only [mTg, decide_eq_true_eq] at hg
      have hd1 := mDl hd hg
      clear hd
      subst hg
      split at hs
      · rename_i i k r
        cases hbk : Nat.blt k mSB with
        | true =>
          simp only [hbk, cond_true] at hs
          split at hs
          · rename_i n f hh
            replace hs := mCond hs
            obtain ⟨hb, hs⟩ := hs
            obtain ⟨⟨q1, q2⟩, hs⟩ := hs
            have hb := Nat.le_of_ble_eq_true hb
            have hi := zI_in (n := n) ⟨by omega, by omega⟩ q1 q2
            have k1 := hk _ _ _ _ _ _ hs
            simp only [zWP, List.map_cons, zT] at k1
            rw [← hi.2] at k1
            exact wp_iald hd1 (zH_at hh) hi.1 k1
          · exact hs.elim
        | false =>
          simp only [hbk, cond_false] at hs
          replace hs := mCond hs
          obtain ⟨hb, hs⟩ := hs
          have hb := Nat.eq_of_beq_eq_true hb
          subst hb
          obtain ⟨⟨q1, q2, q3⟩, hs⟩ := hs
          have hi := zI_in (n := X.2.2.2.2.2.1) ⟨by omega, by omega⟩ q1 q2
          have k1 := hk _ _ _ _ _ _ hs
          simp only [zWP, List.map_cons, zT, zI_asI] at k1
          rw [← hi.2] at k1
          exact wp_sald hd1 hi.1 k1
      · exact hs.elim
  | arraylength =>
      simp only [zOp] at hs
      simp only [mTg, decide_eq_true_eq] at hg
      have hd1 := mDl hd hg
      clear hd
      subst hg
      split at hs
      · rename_i k r
        cases hbk : Nat.blt k mSB with
        | true =>
          simp only [hbk, cond_true] at hs
          split at hs
          · rename_i t n g hk1
            replace hs := mCond hs
            obtain ⟨hb, hs⟩ := hs
            have k1 := hk _ _ _ _ _ _ hs
            simp only [zWP, List.map_cons, zT] at k1
            have e9 : Int32.ofInt (n : Int) = nI n := mC_of n
            rw [e9] at k1
            match t, hk1, hb with
            | 0, hk1, _ => exact wp_alen hd1 (zH_at hk1) rfl k1
            | 1, hk1, _ => exact wp_alen hd1 (zH_at hk1) rfl k1
            | 2, hk1, _ => exact wp_alen hd1 (zH_at hk1) rfl k1
            | 3, hk1, _ => exact wp_alen hd1 (zH_at hk1) rfl k1
            | 4, hk1, _ => exact wp_alen hd1 (zH_at hk1) rfl k1
            | 5, hk1, _ => exact wp_alen hd1 (zH_at hk1) rfl k1
            | t + 6, _, hb => exact absurd (by simpa using hb : t + 6 < 6) (by omega)
          · exact hs.elim
        | false =>
          simp only [hbk, cond_false] at hs
          replace hs := mCond hs
          obtain ⟨hb, hs⟩ := hs
          have hb := Nat.eq_of_beq_eq_true hb
          subst hb
          have k1 := hk _ _ _ _ _ _ hs
          simp only [zWP, List.map_cons, zT] at k1
          have e9 : Int32.ofInt (X.2.2.2.2.2.1 : Int) = nI X.2.2.2.2.2.1 := mC_of _
          rw [e9] at k1
          exact wp_slen hd1 k1
      · exact hs.elim
  | laload =>
      simp only [zOp] at hs
      simp only [mTg, decide_eq_true_eq] at hg
      have hd1 := mDl hd hg
      clear hd
      subst hg
      split at hs
      · rename_i i k r
        split at hs
        · rename_i n f hh
          replace hs := mCond hs
          obtain ⟨hb, hs⟩ := hs
          obtain ⟨⟨q1, q2⟩, hs⟩ := hs
          have hb := Nat.le_of_ble_eq_true hb
          have hi := zI_in (n := n) ⟨by omega, by omega⟩ q1 q2
          have k1 := hk _ _ _ _ _ _ hs
          simp only [zWP, List.map_cons, zT] at k1
          rw [← hi.2] at k1
          exact wp_lald hd1 (zH_at hh) hi.1 k1
        · exact hs.elim
      · exact hs.elim
  | baload =>
      simp only [zOp] at hs
      simp only [mTg, decide_eq_true_eq] at hg
      have hd1 := mDl hd hg
      clear hd
      subst hg
      split at hs
      · rename_i i k r
        split at hs
        · rename_i n f hh
          replace hs := mCond hs
          obtain ⟨hb, hs⟩ := hs
          obtain ⟨⟨q1, q2⟩, hs⟩ := hs
          have hb := Nat.le_of_ble_eq_true hb
          have hi := zI_in (n := n) ⟨by omega, by omega⟩ q1 q2
          have k1 := hk _ _ _ _ _ _ hs
          simp only [zWP, List.map_cons, zT] at k1
          rw [← hi.2] at k1
          exact wp_bald hd1 (zH_at hh) hi.1 k1
        · rename_i n f hh
          replace hs := mCond hs
          obtain ⟨hb, hs⟩ := hs
          obtain ⟨⟨q1, q2⟩, hs⟩ := hs
          have hb := Nat.le_of_ble_eq_true hb
          have hi := zI_in (n := n) ⟨by omega, by omega⟩ q1 q2
          have k1 := hk _ _ _ _ _ _ hs
          simp only [zWP, List.map_cons, zT] at k1
          rw [← hi.2] at k1
          exact wp_zald hd1 (zH_at hh) hi.1 k1
        · exact hs.elim
      · exact hs.elim
  | aaload =>
      simp only [zOp] at hs
      simp only [mTg, decide_eq_true_eq] at hg
      have hd1 := mDl hd hg
      clear hd
      subst hg
      split at hs
      · rename_i i k r
        split at hs
        · rename_i n f hh
          replace hs := mCond hs
          obtain ⟨hb, hs⟩ := hs
          obtain ⟨⟨q1, q2⟩, hs⟩ := hs
          have hb := Nat.le_of_ble_eq_true hb
          have hi := zI_in (n := n) ⟨by omega, by omega⟩ q1 q2
          have k1 := hk _ _ _ _ _ _ hs
          simp only [zWP, List.map_cons] at k1
          rw [zT_rf, ← hi.2] at k1
          exact wp_aald hd1 (zH_at hh) rfl hi.1 k1
        · rename_i n f hh
          replace hs := mCond hs
          obtain ⟨hb, hs⟩ := hs
          obtain ⟨⟨q1, q2⟩, hs⟩ := hs
          have hb := Nat.le_of_ble_eq_true hb
          have hi := zI_in (n := n) ⟨by omega, by omega⟩ q1 q2
          have k1 := hk _ _ _ _ _ _ hs
          simp only [zWP, List.map_cons] at k1
          rw [zT_rf, ← hi.2] at k1
          exact wp_aald hd1 (zH_at hh) rfl hi.1 k1
        · exact hs.elim
      · exact hs.elim
  | iastore =>
      simp only [zOp] at hs
      simp only [mTg, decide_eq_true_eq] at hg
      have hd1 := mDl hd hg
      clear hd
      subst hg
      split at hs
      · rename_i x i k r
        split at hs
        · rename_i n f hh
          replace hs := mCond hs
          obtain ⟨hb, hs⟩ := hs
          obtain ⟨⟨q1, q2⟩, hs⟩ := hs
          have hb := Nat.le_of_ble_eq_true hb
          have hi := zI_in (n := n) ⟨by omega, by omega⟩ q1 q2
          have k1 := hk _ _ _ _ _ _ hs
          simp only [zWP] at k1
          rw [← zH_set] at k1
          simp only [zC, zA] at k1
          simp only [show ¬ (0 : Nat) = 1 by decide, if_false, ← zUp32] at k1
          rw [← hi.2] at k1
          exact wp_iast hd1 (zH_at hh) hi.1 k1
        · exact hs.elim
      · exact hs.elim
  | lastore =>
      simp only [zOp] at hs
      simp only [mTg, decide_eq_true_eq] at hg
      have hd1 := mDl hd hg
      clear hd
      subst hg
      split at hs
      · rename_i x i k r
        split at hs
        · rename_i n f hh
          replace hs := mCond hs
          obtain ⟨hb, hs⟩ := hs
          obtain ⟨⟨q1, q2⟩, hs⟩ := hs
          have hb := Nat.le_of_ble_eq_true hb
          have hi := zI_in (n := n) ⟨by omega, by omega⟩ q1 q2
          have k1 := hk _ _ _ _ _ _ hs
          simp only [zWP] at k1
          rw [← zH_set] at k1
          simp only [zC, zA] at k1
          simp only [if_true, ← zUp64] at k1
          rw [← hi.2] at k1
          exact wp_last hd1 (zH_at hh) hi.1 k1
        · exact hs.elim
      · exact hs.elim
  | bastore =>
      simp only [zOp] at hs
      simp only [mTg, decide_eq_true_eq] at hg
      have hd1 := mDl hd hg
      clear hd
      subst hg
      split at hs
      · rename_i x i k r
        split at hs
        · rename_i n f hh
          replace hs := mCond hs
          obtain ⟨hb, hs⟩ := hs
          obtain ⟨⟨q1, q2⟩, hs⟩ := hs
          have hb := Nat.le_of_ble_eq_true hb
          have hi := zI_in (n := n) ⟨by omega, by omega⟩ q1 q2
          have k1 := hk _ _ _ _ _ _ hs
          simp only [zWP] at k1
          rw [← zH_set] at k1
          simp only [zC, zA] at k1
          simp only [show ¬ (2 : Nat) = 1 by decide, if_false, ← zUp32, ← zNarB] at k1
          rw [← hi.2] at k1
          exact wp_bast hd1 (zH_at hh) hi.1 k1
        · rename_i n f hh
          replace hs := mCond hs
          obtain ⟨hb, hs⟩ := hs
          obtain ⟨⟨q1, q2, q3⟩, hs⟩ := hs
          have hb := Nat.le_of_ble_eq_true hb
          have hi := zI_in (n := n) ⟨by omega, by omega⟩ q1 q2
          have k1 := hk _ _ _ _ _ _ hs
          simp only [zWP] at k1
          rw [← zH_set] at k1
          simp only [zC, zA] at k1
          simp only [show ¬ (3 : Nat) = 1 by decide, if_false, ← zUp32] at k1
          rw [← (zNarZ q3).1] at k1
          rw [← hi.2] at k1
          exact wp_zast hd1 (zH_at hh) hi.1 k1
        · exact hs.elim
      · exact hs.elim
  | aastore =>
      simp only [zOp] at hs
      simp only [mTg, decide_eq_true_eq] at hg
      have hd1 := mDl hd hg
      clear hd
      subst hg
      split at hs
      · rename_i kv i k r
        split at hs
        · rename_i n f fs hh hh2
          replace hs := mCond hs
          obtain ⟨hb, hs⟩ := hs
          obtain ⟨⟨q1, q2⟩, hs⟩ := hs
          have hb := Nat.le_of_ble_eq_true hb
          have hi := zI_in (n := n) ⟨by omega, by omega⟩ q1 q2
          have k1 := hk _ _ _ _ _ _ hs
          simp only [zWP] at k1
          rw [← zH_set] at k1
          simp only [zC, zA] at k1
          rw [← hi.2] at k1
          exact wp_aast hd1 (zH_at hh) (zH_at hh2) rfl rfl hi.1 k1
        · rename_i n f fs hh hh2
          replace hs := mCond hs
          obtain ⟨hb, hs⟩ := hs
          obtain ⟨⟨q1, q2⟩, hs⟩ := hs
          have hb := Nat.le_of_ble_eq_true hb
          have hi := zI_in (n := n) ⟨by omega, by omega⟩ q1 q2
          have k1 := hk _ _ _ _ _ _ hs
          simp only [zWP] at k1
          rw [← zH_set] at k1
          simp only [zC, zA] at k1
          rw [← hi.2] at k1
          exact wp_aast hd1 (zH_at hh) (zH_at hh2) rfl rfl hi.1 k1
        · exact hs.elim
      · exact hs.elim
  | ireturn =>
      simp only [zOp] at hs
      simp only [mTg, decide_eq_true_eq] at hg
      have hd1 := mDl hd hg
      clear hd
      subst hg
      split at hs
      · exact wp_iret hd1 ‹_› (hQr (r := some (.inl _)) hs)
      · exact wp_zret (zNarZ hs.1).2 hd1 ‹_› (hQr (r := some (.inl _)) hs.2)
      · exact hs.elim
  | lreturn =>
      simp only [zOp] at hs
      simp only [mTg, decide_eq_true_eq] at hg
      have hd1 := mDl hd hg
      clear hd
      subst hg
      split at hs
      · exact wp_lret hd1 ‹_› (hQr (r := some (.inr (.inl _))) hs)
      · exact hs.elim
  | areturn =>
      simp only [zOp] at hs
      simp only [mTg, decide_eq_true_eq] at hg
      have hd1 := mDl hd hg
      clear hd
      subst hg
      split at hs
      · exact wp_aret hd1 ‹_› (hQr (r := some (.inr (.inr (some _)))) hs)
      · exact hs.elim
  | return_ =>
      simp only [zOp] at hs
      simp only [mTg, decide_eq_true_eq] at hg
      have hd1 := mDl hd hg
      clear hd
      subst hg
      split at hs
      · exact wp_vret hd1 ‹_› (hQr (r := none) hs)
      · exact hs.elim
  | new j =>
      simp only [zOp] at hs
      simp only [mTg, decide_eq_true_eq] at hg
      have hd1 := mDl hd hg
      clear hd
      subst hg
      split at hs
      · rename_i n ic hx
        split at hs
        · rename_i q3 t3 is n1 t4 h3 h4
          split at hs
          · rename_i ic2 n2 t5 q6 h5 h6
            split at hs
            · rename_i n9 t9 h7
              replace hs := mCond hs
              obtain ⟨hb, hs⟩ := hs
              simp only [Bool.and_eq_true] at hb
              obtain ⟨⟨⟨⟨⟨b1, b2⟩, b3⟩, b4⟩, b5⟩, b6⟩ := hb
              have b1 := Nat.eq_of_beq_eq_true b1
              subst b1
              have b2 := Nat.eq_of_beq_eq_true b2
              have d3 := mTb_at hok h3
              have d4 := mTb_at hok h4
              obtain ⟨e4, d4⟩ := d4
              have d5 := mTb_at hok h5
              obtain ⟨e5, d5⟩ := d5
              have d6 := mTb_at hok h7
              have e4 : n1 = pc + 4 + 2 := e4
              have e5 : n2 = n1 + 3 := e5
              subst e4
              subst e5
              rw [b2] at hx
              obtain ⟨tx, sn⟩ := q6
              exact wp_throw b2 hn (List.isEmpty_iff.mp b6) hx h6 (Nat.le_of_ble_eq_true b3) (Nat.le_of_ble_eq_true b4) (by rw [zCs_eq]; exact Nat.le_of_ble_eq_true b5) hd1 d3.2 (Or.inl ⟨d4, d5, d6.2⟩) ⟨.inr n, h, rfl, rfl, hs⟩
            · exact hs.elim
          · exact hs.elim
        · rename_i q3 t3 is n1 t4 h3 h4
          split at hs
          · rename_i ic2 n2 t5 q6 h5 h6
            split at hs
            · rename_i n9 t9 h7
              replace hs := mCond hs
              obtain ⟨hb, hs⟩ := hs
              simp only [Bool.and_eq_true] at hb
              obtain ⟨⟨⟨⟨⟨b1, b2⟩, b3⟩, b4⟩, b5⟩, b6⟩ := hb
              have b1 := Nat.eq_of_beq_eq_true b1
              subst b1
              have b2 := Nat.eq_of_beq_eq_true b2
              have d3 := mTb_at hok h3
              have d4 := mTb_at hok h4
              obtain ⟨e4, d4⟩ := d4
              have d5 := mTb_at hok h5
              obtain ⟨e5, d5⟩ := d5
              have d6 := mTb_at hok h7
              have e4 : n1 = pc + 4 + 3 := e4
              have e5 : n2 = n1 + 3 := e5
              subst e4
              subst e5
              rw [b2] at hx
              obtain ⟨tx, sn⟩ := q6
              exact wp_throw b2 hn (List.isEmpty_iff.mp b6) hx h6 (Nat.le_of_ble_eq_true b3) (Nat.le_of_ble_eq_true b4) (by rw [zCs_eq]; exact Nat.le_of_ble_eq_true b5) hd1 d3.2 (Or.inr ⟨d4, d5, d6.2⟩) ⟨.inr n, h, rfl, rfl, hs⟩
            · exact hs.elim
          · exact hs.elim
        · exact hs.elim
      · split at hs
        · rename_i ci hci
          split at hs
          · rename_i r hr
            replace hs := mCond hs
            obtain ⟨hb, hs⟩ := hs
            simp only [Bool.and_eq_true] at hb
            have hw := mCt_ok ⟨_, hoc⟩ _ (mLk_mem hci)
            have hw2 := mCi_ok ⟨ci, hw.2⟩ r hr
            have hw1 := hw.1
            simp only [← hw2.2.2] at hw1
            have k1 := hk _ _ _ _ _ _ hs.2
            simp only [zWP, List.map_cons, List.map_append, List.map_nil, zT, zC, zDf_eq hr] at k1
            exact wp_new hn hd1 hr hw1 hw2.1 hw2.2.1 (Nat.le_of_ble_eq_true hb.1) (Nat.le_of_ble_eq_true hb.2) (by rw [List.length_map]; exact hs.1.2) hs.1.1 (by rw [List.length_map]; exact k1)
          · exact hs.elim
        · exact hs.elim
  | newarray a =>
      simp only [zOp] at hs
      simp only [mTg, decide_eq_true_eq] at hg
      have hd1 := mDl hd hg
      clear hd
      subst hg
      split at hs
      · rename_i n r t ty hat
        replace hs := mCond hs
        obtain ⟨hb, hs⟩ := hs
        obtain ⟨⟨q1, q2, q3, q4, q5⟩, hs⟩ := hs
        have hr9 : rI n := ⟨by omega, by omega⟩
        have e9 : (Int32.ofInt n).toNatClampNeg = n.toNat := by
          show (Int32.ofInt n).toInt.toNat = _
          rw [rI_to hr9]
        have k1 := hk _ _ _ _ _ _ hs
        simp only [zWP, List.map_cons, List.map_append, List.map_nil, zT, zC, zA_z] at k1
        rw [← e9] at k1 q3
        exact wp_newa hd1 hat (fun z => by
          have z2 : Int32.ofInt n < Int32.ofInt 0 := z
          rw [zI_lt hr9 rI_0] at z2
          omega) (by rw [e9]; omega) (Nat.le_of_ble_eq_true hb) q3 (by rw [List.length_map]; exact q5) q4 (by rw [List.length_map]; exact k1)
      · exact hs.elim
  | anewarray j =>
      simp only [zOp] at hs
      simp only [mTg, decide_eq_true_eq] at hg
      have hd1 := mDl hd hg
      clear hd
      subst hg
      split at hs
      · rename_i n r hci
        replace hs := mCond hs
        obtain ⟨hb, hs⟩ := hs
        obtain ⟨⟨q1, q2, q3, q4, q5⟩, hs⟩ := hs
        have hr9 : rI n := ⟨by omega, by omega⟩
        have e9 : (Int32.ofInt n).toNatClampNeg = n.toNat := by
          show (Int32.ofInt n).toInt.toNat = _
          rw [rI_to hr9]
        have k1 := hk _ _ _ _ _ _ hs
        simp only [zWP, List.map_cons, List.map_append, List.map_nil, zT, zC, zA] at k1
        rw [← e9] at k1 q3
        exact wp_newq (ci := 7) hn hd1 (Or.inl ⟨rfl, rfl⟩) (mCt_ok ⟨_, hoc⟩ _ (mLk_mem hci)).1 (fun z => by
          have z2 : Int32.ofInt n < Int32.ofInt 0 := z
          rw [zI_lt hr9 rI_0] at z2
          omega) (by rw [e9]; omega) (Nat.le_of_ble_eq_true hb) q3 (by rw [List.length_map]; exact q5) q4 (by rw [List.length_map]; exact k1)
      · rename_i n r hci
        replace hs := mCond hs
        obtain ⟨hb, hs⟩ := hs
        obtain ⟨⟨q1, q2, q3, q4, q5⟩, hs⟩ := hs
        have hr9 : rI n := ⟨by omega, by omega⟩
        have e9 : (Int32.ofInt n).toNatClampNeg = n.toNat := by
          show (Int32.ofInt n).toInt.toNat = _
          rw [rI_to hr9]
        have k1 := hk _ _ _ _ _ _ hs
        simp only [zWP, List.map_cons, List.map_append, List.map_nil, zT, zC, zA] at k1
        rw [← e9] at k1 q3
        exact wp_newq (ci := 2) hn hd1 (Or.inr ⟨rfl, rfl⟩) (mCt_ok ⟨_, hoc⟩ _ (mLk_mem hci)).1 (fun z => by
          have z2 : Int32.ofInt n < Int32.ofInt 0 := z
          rw [zI_lt hr9 rI_0] at z2
          omega) (by rw [e9]; omega) (Nat.le_of_ble_eq_true hb) q3 (by rw [List.length_map]; exact q5) q4 (by rw [List.length_map]; exact k1)
      · exact hs.elim
  | invokevirtual j =>
      simp only [zOp] at hs
      simp only [mTg, decide_eq_true_eq] at hg
      have hd1 := mDl hd hg
      clear hd
      subst hg
      split at hs
      · rename_i kd n M2 hq
        obtain ⟨as, r, rfl, hlen, hs⟩ := zPop_spec hs
        rw [List.append_nil] at hs
        have hlen2 : (as.map zT).length = n := by rw [List.length_map]; exact hlen
        have hstk : ∀ rest : List zV, (as.reverse ++ rest).map zT = (as.map zT).reverse ++ rest.map zT := fun rest => by simp
        split at hs
        · rename_i k rest
          split at hs
          · rename_i ci fs hk1
            replace hs := mCond hs
            obtain ⟨hb, hs⟩ := hs
            have hb := Nat.eq_of_beq_eq_true hb
            subst hb
            split at hs
            · obtain ⟨c1, c2, c3, c4, d2, Q2, c5, c6, c7, c8⟩ := zInv_spec hk hs
              simp only [zWP]
              rw [hstk]
              cases hhm : M.2.2.2.2.1 with
              | nil => exact wp_call0 hn hd1 hq hlen2 (zH_at hk1) c1 c5 c2 c3 c4 c6 c7 hhm (fun E h1 hq1 => by
                  obtain ⟨h2, e2, q⟩ := c8 E h1 hq1
                  simp only [zXc, hhm] at q
                  exact ⟨.inr E, h2, rfl, e2, q⟩)
              | cons h0 hr0 =>
                have hrow : ∀ (E : Nat) (h1 : mH), zQ Q2 (.inr E) h1 → E < 4 ∧ M.2.2.2.1 = some .int ∧ ∃ (hp j : Nat) (v : Int), mHd pc E M.2.2.2.2.1 = some hp ∧ ((decode M.2.1 hp = .ok (.astore j, 2) ∧ decode M.2.1 (hp + 2) = .ok (.iconst v, 1) ∧ decode M.2.1 (hp + 3) = .ok (.ireturn, 1)) ∨ (∃ i : Fin 4, (i : Nat) = j ∧ decode M.2.1 hp = .ok (.astore_n i, 1) ∧ decode M.2.1 (hp + 1) = .ok (.iconst v, 1) ∧ decode M.2.1 (hp + 2) = .ok (.ireturn, 1))) ∧ j < M.2.2.1 ∧ zQ Q (.inl (some (.int (Int32.ofInt v)))) h1 := by
                  intro E h1 hq1
                  obtain ⟨h2, eh, q⟩ := c8 E h1 hq1
                  simp only [zXc, hhm] at q
                  rw [← hhm] at q
                  obtain ⟨qb, q⟩ := mCond q
                  refine ⟨by simpa using qb, ?_⟩
                  split at q
                  · rename_i hp hhp
                    split at q
                    · rename_i j n1 t1 e1
                      split at q
                      · rename_i v n2 t2 e2
                        split at q
                        · rename_i n3 t3 e3
                          obtain ⟨qj, q⟩ := mCond q
                          split at q
                          · rename_i hrt
                            obtain ⟨f1, g1⟩ := mTb_at hok e1
                            obtain ⟨f2, g2⟩ := mTb_at hok e2
                            obtain ⟨f3, g3⟩ := mTb_at hok e3
                            have f1 : n1 = hp + 2 := f1
                            have f2 : n2 = n1 + 1 := f2
                            subst f1
                            subst f2
                            exact ⟨hrt, hp, j, v, hhp, Or.inl ⟨g1, g2, g3⟩, by simpa using qj, ⟨.inl (some (.inl v)), h2, rfl, eh, q⟩⟩
                          · exact q.elim
                        · exact q.elim
                      · exact q.elim
                    · rename_i j n1 t1 e1
                      split at q
                      · rename_i v n2 t2 e2
                        split at q
                        · rename_i n3 t3 e3
                          obtain ⟨qj, q⟩ := mCond q
                          split at q
                          · rename_i hrt
                            obtain ⟨f1, g1⟩ := mTb_at hok e1
                            obtain ⟨f2, g2⟩ := mTb_at hok e2
                            obtain ⟨f3, g3⟩ := mTb_at hok e3
                            have f1 : n1 = hp + 1 := f1
                            have f2 : n2 = n1 + 1 := f2
                            subst f1
                            subst f2
                            exact ⟨hrt, hp, j.val, v, hhp, Or.inr ⟨j, rfl, g1, g2, g3⟩, by simpa using qj, ⟨.inl (some (.inl v)), h2, rfl, eh, q⟩⟩
                          · exact q.elim
                        · exact q.elim
                      · exact q.elim
                    · exact q.elim
                  · exact q.elim
                by_cases hrt : M.2.2.2.1 = some .int
                · exact wp_callC hn (hLw h0 hr0 hhm) hrt hd1 hq hlen2 (zH_at hk1) c1 c5 c2 c3 c4 c6 c7 (fun E h1 hq1 => by
                    obtain ⟨x1, -, x3⟩ := hrow E h1 hq1
                    exact ⟨x1, x3⟩)
                · exact wp_callC hn (hLw h0 hr0 hhm) (hrw h0 hr0 hhm) hd1 hq hlen2 (zH_at hk1) c1 c5 c2 c3 c4 c6 c7 (fun E h1 hq1 => absurd (hrow E h1 hq1).2.1 hrt)
            · obtain ⟨c1, c2, c3, c4, d2, Q2, c5, c6, c7, c8⟩ := zInv_spec hk hs
              simp only [zWP]
              rw [hstk]
              exact wp_call1 hn hd1 hq hlen2 (zH_at hk1) c1 c5 c2 c3 c4 c6 c7 (fun E h1 hq1 => by
                obtain ⟨h2, e2, q⟩ := c8 E h1 hq1
                exact q)
            · exact hs.elim
          · exact hs.elim
        · exact hs.elim
      · exact hs.elim
  | invokestatic j =>
      simp only [zOp] at hs
      simp only [mTg, decide_eq_true_eq] at hg
      have hnoS : ∀ h0 hr0, M.2.2.2.2.1 = h0 :: hr0 → False := fun h0 hr0 e => by
        rcases hns with q | q
        · rw [q] at e; cases e
        · exact q _ (mLk_mem hlk) j rfl
      have hd1 := mDl hd hg
      clear hd
      subst hg
      split at hs
      · rename_i kd n M2 hq
        split at hs
        · obtain ⟨as, r, rfl, hlen, hs⟩ := zPop_spec hs
          rw [List.append_nil] at hs
          have hlen2 : (as.map zT).length = n := by rw [List.length_map]; exact hlen
          simp only [zWP]
          rw [show (as.reverse ++ r).map zT = (as.map zT).reverse ++ r.map zT by simp]
          obtain ⟨c1, c2, c3, c4, d2, Q2, c5, c6, c7, c8⟩ := zInv_spec hk hs
          cases hhm : M.2.2.2.2.1 with
          | nil => exact wp_call2 hn hd1 hq hlen2 c1 c5 c2 c3 c4 c6 c7 hhm (fun E h1 hq1 => by
              obtain ⟨h2, e2, q⟩ := c8 E h1 hq1
              simp only [zXc, hhm] at q
              exact ⟨.inr E, h2, rfl, e2, q⟩)
          | cons h0 hr0 =>
            exfalso
            exact hnoS h0 hr0 hhm
        · obtain ⟨as, r, rfl, hlen, hs⟩ := zPop_spec hs
          rw [List.append_nil] at hs
          have hlen2 : (as.map zT).length = n := by rw [List.length_map]; exact hlen
          simp only [zWP]
          rw [show (as.reverse ++ r).map zT = (as.map zT).reverse ++ r.map zT by simp]
          obtain ⟨c1, c2, c3, c4, d2, Q2, c5, c6, c7, c8⟩ := zInv_spec hk hs
          exact wp_call3 hn hd1 hq hlen2 c1 c5 c2 c3 c4 c6 c7 (fun E h1 hq1 => by
            obtain ⟨h2, e2, q⟩ := c8 E h1 hq1
            exact q)
        · obtain ⟨as, r, rfl, hlen, hs⟩ := zPop_spec hs
          rw [List.append_nil] at hs
          have hlen2 : (as.map zT).length = n := by rw [List.length_map]; exact hlen
          simp only [zWP]
          rw [show (as.reverse ++ r).map zT = (as.map zT).reverse ++ r.map zT by simp]
          obtain ⟨c1, c2, c3, c4, d2, Q2, c5, c6, c7, c8⟩ := zInv_spec hk hs
          exact wp_call8 hn hd1 hq hlen2 c1 c5 c2 c3 c4 c6 c7 (fun E h1 hq1 => by
            obtain ⟨h2, e2, q⟩ := c8 E h1 hq1
            exact q)
        · split at hs
          · rename_i n9 dp k1 sp k0 r
            split at hs
            · rename_i m0 f m1 g hh0 hh1
              replace hs := mCond hs
              obtain ⟨hb, hs⟩ := hs
              obtain ⟨ix, hw⟩ := mMt_ok _ (mLk_mem hq)
              simp only [Bool.and_eq_true] at hb
              obtain ⟨⟨hb1, hb2⟩, hb3⟩ := hb
              have hb2 := Nat.le_of_ble_eq_true hb2
              have hb3 := Nat.le_of_ble_eq_true hb3
              obtain ⟨⟨q1, q2, q3, q4, q5⟩, hs⟩ := hs
              have tn : ∀ z : Int, 0 ≤ z → z ≤ 100000 → (Int32.ofInt z).toNatClampNeg = z.toNat ∧ ¬ Int32.ofInt z < 0 := fun z z1 z2 => by
                have hr9 : rI z := ⟨by omega, by omega⟩
                refine ⟨?_, fun z3 => ?_⟩
                · show (Int32.ofInt z).toInt.toNat = _
                  rw [rI_to hr9]
                · have z4 : Int32.ofInt z < Int32.ofInt 0 := z3
                  rw [zI_lt hr9 rI_0] at z4
                  omega
              have t1 := tn sp q1 (by omega)
              have t2 := tn dp q2 (by omega)
              have t3 := tn n9 q3 (by omega)
              have k2 := hk _ _ _ _ _ _ hs
              simp only [zWP] at k2
              rw [← zH_set] at k2
              simp only [zC, zA, show ¬ (0 : Nat) = 1 by decide, if_false, ← zCpy] at k2
              rw [← t1.1, ← t2.1, ← t3.1] at k2
              exact wp_copy hn hd1 (mIs_mem hw) (zH_at hh0) (zH_at hh1) t1.2 t2.2 t3.2 (by rw [t1.1, t3.1]; show sp.toNat + n9.toNat ≤ m0; omega) (by rw [t2.1, t3.1]; show dp.toNat + n9.toNat ≤ m1; omega) (by rw [zCs_eq]; exact Nat.le_of_ble_eq_true hb1) k2
            · exact hs.elim
          · exact hs.elim
        · split at hs
          · replace hs := mCond hs
            obtain ⟨hb, hs⟩ := hs
            obtain ⟨ix, hw⟩ := mMt_ok _ (mLk_mem hq)
            obtain ⟨⟨q1, q2⟩, hs⟩ := hs
            have k2 := hk _ _ _ _ _ _ hs
            simp only [zWP, List.map_cons, zT] at k2
            rw [← zMin q1 q2] at k2
            exact wp_mmin hn hd1 (mIs_mem hw) (by rw [zCs_eq]; exact Nat.le_of_ble_eq_true hb) k2
          · exact hs.elim
        · split at hs
          · replace hs := mCond hs
            obtain ⟨hb, hs⟩ := hs
            obtain ⟨ix, hw⟩ := mMt_ok _ (mLk_mem hq)
            obtain ⟨⟨q1, q2⟩, hs⟩ := hs
            have k2 := hk _ _ _ _ _ _ hs
            simp only [zWP, List.map_cons, zT] at k2
            rw [← zMax q1 q2] at k2
            exact wp_mmax hn hd1 (mIs_mem hw) (by rw [zCs_eq]; exact Nat.le_of_ble_eq_true hb) k2
          · exact hs.elim
        · split at hs
          · replace hs := mCond hs
            obtain ⟨hb, hs⟩ := hs
            obtain ⟨ix, hw⟩ := mMt_ok _ (mLk_mem hq)
            obtain ⟨q1, hs⟩ := hs
            have k2 := hk _ _ _ _ _ _ hs
            simp only [zWP, List.map_cons, zT] at k2
            rw [← zAbs q1] at k2
            exact wp_mabs hn hd1 (mIs_mem hw) (by rw [zCs_eq]; exact Nat.le_of_ble_eq_true hb) k2
          · exact hs.elim
        · split at hs
          · replace hs := mCond hs
            obtain ⟨hb, hs⟩ := hs
            obtain ⟨ix, hw⟩ := mMt_ok _ (mLk_mem hq)
            obtain ⟨⟨q1, q2⟩, hs⟩ := hs
            have k2 := hk _ _ _ _ _ _ hs
            simp only [zWP, List.map_cons, zT] at k2
            rw [← zMaxL q1 q2] at k2
            exact wp_mmaxl hn hd1 (mIs_mem hw) (by rw [zCs_eq]; exact Nat.le_of_ble_eq_true hb) k2
          · exact hs.elim
        · exact hs.elim
      · exact hs.elim
  | invokespecial j =>
      simp only [zOp] at hs
      simp only [mTg, decide_eq_true_eq] at hg
      have hd1 := mDl hd hg
      clear hd
      subst hg
      split at hs
      · rename_i kd n M2 hq
        split at hs
        · obtain ⟨as, r, rfl, hlen, hs⟩ := zPop_spec hs
          rw [List.append_nil] at hs
          have hlen2 : (as.map zT).length = n := by rw [List.length_map]; exact hlen
          split at hs
          · rename_i k rest h9
            simp only [zWP]
            rw [show (as.reverse ++ .inr (.inr (some k)) :: rest).map zT = (as.map zT).reverse ++ .ref k :: rest.map zT by simp [zT]]
            obtain ⟨c1, c2, c3, c4, d2, Q2, c5, c6, c7, c8⟩ := zInv_spec hk hs
            exact wp_call4 hn hd1 hq hlen2 c1 c5 c2 c3 c4 c6 c7 (fun E h1 hq1 => by
              obtain ⟨h2, e2, q⟩ := c8 E h1 hq1
              exact q)
          · exact hs.elim
        · obtain ⟨as, r, rfl, hlen, hs⟩ := zPop_spec hs
          rw [List.append_nil] at hs
          have hlen2 : (as.map zT).length = n := by rw [List.length_map]; exact hlen
          split at hs
          · rename_i k rest h9
            simp only [zWP]
            rw [show (as.reverse ++ .inr (.inr (some k)) :: rest).map zT = (as.map zT).reverse ++ .ref k :: rest.map zT by simp [zT]]
            obtain ⟨c1, c2, c3, c4, d2, Q2, c5, c6, c7, c8⟩ := zInv_spec hk hs
            exact wp_call5 hn hd1 hq hlen2 c1 c5 c2 c3 c4 c6 c7 (fun E h1 hq1 => by
              obtain ⟨h2, e2, q⟩ := c8 E h1 hq1
              exact q)
          · exact hs.elim
        · split at hs
          · replace hs := mCond hs
            obtain ⟨hb, hs⟩ := hs
            obtain ⟨ix, hw⟩ := mMt_ok _ (mLk_mem hq)
            exact wp_obj hn hd1 (mIs_mem hw) (by rw [zCs_eq]; exact Nat.le_of_ble_eq_true hb) (hk _ _ _ _ _ _ hs)
          · exact hs.elim
        · exact hs.elim
      · exact hs.elim
  | _ => exact hs.elim
theorem zRun_sound {tb : mTb} {cuts : List Nat} (hM : mOkM M) (hns : mNoSt M tb) (hok : ∀ q ∈ tb, mTbOk M.2.1 q = true) : ∀ (f pc : Nat) (L : List (Option zV)) (st : List zV) (h : zH) (bc bs : Nat), zRun X M d Q tb cuts f pc L st h bc bs → zWP X M d Q pc L st h bc bs
  | 0, _, _, _, _, _, _, hs => hs
  | f + 1, pc, L, st, h, bc, bs, hs => by
    simp only [zRun] at hs
    split at hs
    · rename_i i nx tg hlk
      refine zOp_sound hM hns hok hlk (fun pc L st h bc bs q => ?_) hs
      cases hc : cuts.elem pc with
      | true => rw [hc] at q; exact q
      | false => rw [hc] at q; exact zRun_sound hM hns hok f pc L st h bc bs q
    · exact hs.elim
def zEnt : List zV → List (Option zV)
  | [] => []
  | .inr (.inl x) :: r => some (.inr (.inl x)) :: none :: zEnt r
  | .inl x :: r => some (.inl x) :: zEnt r
  | .inr (.inr x) :: r => some (.inr (.inr x)) :: zEnt r
def zPad (n : Nat) (l : List (Option zV)) : List (Option zV) := match n, l with
  | n + 1, v :: r => v :: zPad n r
  | n + 1, [] => none :: zPad n []
  | 0, l => l
theorem zEnt_eq : ∀ as : List zV, mEnt (as.map zT) = zL (zEnt as)
  | [] => rfl
  | .inl x :: r => by simp [mEnt, zEnt, zT, zL, zEnt_eq r]
  | .inr (.inl x) :: r => by simp [mEnt, zEnt, zT, zL, zEnt_eq r]
  | .inr (.inr none) :: r => by simp [mEnt, zEnt, zT, zL, zEnt_eq r]
  | .inr (.inr (some k)) :: r => by simp [mEnt, zEnt, zT, zL, zEnt_eq r]
theorem zPad_eq : ∀ (n : Nat) (l : List (Option zV)), mPad n (zL l) = zL (zPad n l)
  | 0, l => rfl
  | n + 1, [] => by
    have := zPad_eq n []
    simp [mPad, zPad, zL] at this ⊢
    exact this
  | n + 1, v :: r => by
    have := zPad_eq n r
    simp [mPad, zPad, zL] at this ⊢
    exact this
theorem zEv_run {as : List zV} {tb : mTb} (g : mGood M tb) (f : Nat) (cuts : List Nat) (hlen : Nat.ble (zEnt as).length M.2.2.1 = true) (k : zRun X M d Q tb cuts f 0 (zPad M.2.2.1 (zEnt as)) [] h M.2.2.2.2.2.2.1 M.2.2.2.2.2.2.2) : zEv X d M as h Q := by
  have k1 := zRun_sound g.2.1 g.2.2.1 g.2.2.2 f _ _ _ _ _ _ k
  simp only [zWP] at k1
  rw [← zPad_eq, ← zEnt_eq] at k1
  refine mEv_of g.1 ?_ k1
  rw [zEnt_eq]
  simp only [zL, List.length_map]
  exact Nat.le_of_ble_eq_true hlen
theorem zWP_run {tb : mTb} (g : mGood M tb) (f : Nat) (cuts : List Nat) {pc : Nat} {L : List (Option zV)} {st : List zV} {bc bs : Nat} (k : zRun X M d Q tb cuts f pc L st h bc bs) : zWP X M d Q pc L st h bc bs := zRun_sound g.2.1 g.2.2.1 g.2.2.2 f _ _ _ _ _ _ k
theorem zBr {p c a b : Prop} (hp : p) (ha : c → a) (hb : ¬ c → b) : mVc p (mBr c a b) := ⟨hp, ha, hb⟩
theorem zBrT {p c a b : Prop} (hp : p) (hc : c) (ha : a) : mVc p (mBr c a b) := ⟨hp, fun _ => ha, fun q => (q hc).elim⟩
theorem zBrF {p c a b : Prop} (hp : p) (hc : ¬ c) (hb : b) : mVc p (mBr c a b) := ⟨hp, fun q => (hc q).elim, fun _ => hb⟩
theorem zCl_i {d2 : Nat} {M2 : mM} {as : List zV} {K Q2 : zO → zH → Prop} (hE : zEv X d2 M2 as h Q2) (hd : d2 < d) (hk : ∀ (o : zO) (h1 : zH), Q2 o h1 → K o h1) : zCl X d M2 as h K := ⟨d2, Q2, hd, hE, hk⟩
/-- a call with one outcome -/
def zIs (o : zO) (h : zH) : zO → zH → Prop := fun o9 h9 => o9 = o ∧ h9 = h
theorem zCl_e {d2 : Nat} {M2 : mM} {as : List zV} {K : zO → zH → Prop} {o : zO} {h1 : zH} (hE : zEv X d2 M2 as h (zIs o h1)) (hd : d2 < d) (hk : K o h1) : zCl X d M2 as h K := ⟨d2, _, hd, hE, fun o9 h9 q => by rw [q.1, q.2]; exact hk⟩
end zSn
