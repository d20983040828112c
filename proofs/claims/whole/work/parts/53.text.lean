/-! texts: their length, their chars -/
def mJ0_ci : mM := (yJ0_checkIndex_df160, cJ0_checkIndex_df160, 2, none, [], 14, 0, 0)
def mJ3_ci : mM := (yJ3_checkIndex_8e157, cJ3_checkIndex_8e157, 3, (some .int), [], 17, 0, 0)
/-- the length of a text -/
def mTl (i : Nat) : Nat := (mByt.getD i []).length
def mTc (i j : Nat) : Int32 := (mByt.getD i []).getD j 0
theorem mTl_ok : ∀ i, i < 4 → 0 < mTl i ∧ mTl i ≤ 4 ∧ Int32.ofNat (mTl i) >>> ((0 : Int32) &&& 31) = Int32.ofNat (mTl i) := by decide +kernel
theorem mTc_ok : ∀ i, i < 4 → ∀ j, j < 4 → ((mTc i j &&& (Int16.ofInt 255).toInt32).toUInt32 % 65536).toInt32 = mTc i j ∧ narrow .char (.int (mTc i j)) = .int (mTc i j) := by decide +kernel
section mTe
variable {X : mX} {M : mM} {d : Nat} {Q : mO → mH → Prop} {pc : Nat} {L : List (Option Value)} {st : List Value} {h : mH} {bc bs : Nat}
theorem wp_tval {i idx : Nat} (hi : i < 4) (hn : mNm M.2.2.2.2.2.1 = M.1.cls) (hd : decode M.2.1 pc = .ok (.getfield idx, 3)) (hlk : Cond.fieldLink (mNm M.2.2.2.2.2.1) idx "java/lang/String" "value" "[B" ∈ lw_tbl) (kk : mWP X M d Q (pc + 3) L (.ref (mSB + (100 + i)) :: st) h bc bs) : mWP X M d Q pc L (.ref (mSB + i) :: st) h bc bs := by
  intro p e R s m args below meth c H locs cells slots ad a0 n0 ls F G hl
  have hE := F.2.2.2.2.2.2.2.2.1
  have ho : s.vm.findClass (mNm M.2.2.2.2.2.1) = some m.cls := by rw [hn]; exact F.2.2.2.1
  have k1 := kk p e R s m args below meth c H locs cells slots ad a0 n0 ls F G hl
  simp only [List.map_cons, mV, G.1.2.2] at k1 ⊢
  exact vk_getf F.1 F.2.1 (hE.2.2.2.2.2.1 i hi).2.2.1 G.2.1 ho (hE.word hlk rfl) (fun x h => h) hd k1
theorem wp_tcod {i idx : Nat} (hi : i < 4) (hn : mNm M.2.2.2.2.2.1 = M.1.cls) (hd : decode M.2.1 pc = .ok (.getfield idx, 3)) (hlk : Cond.fieldLink (mNm M.2.2.2.2.2.1) idx "java/lang/String" "coder" "B" ∈ lw_tbl) (kk : mWP X M d Q (pc + 3) L (.int 0 :: st) h bc bs) : mWP X M d Q pc L (.ref (mSB + i) :: st) h bc bs := by
  intro p e R s m args below meth c H locs cells slots ad a0 n0 ls F G hl
  have hE := F.2.2.2.2.2.2.2.2.1
  have ho : s.vm.findClass (mNm M.2.2.2.2.2.1) = some m.cls := by rw [hn]; exact F.2.2.2.1
  have k1 := kk p e R s m args below meth c H locs cells slots ad a0 n0 ls F G hl
  simp only [List.map_cons, mV, G.1.2.2] at k1 ⊢
  exact vk_getf F.1 F.2.1 (hE.2.2.2.2.2.1 i hi).2.1 G.2.1 ho (hE.word hlk rfl) (fun x h => h) hd k1
theorem wp_tlen {i : Nat} (hi : i < 4) (hd : decode M.2.1 pc = .ok (.arraylength, 1)) (kk : mWP X M d Q (pc + 1) L (.int (Int32.ofNat (mTl i)) :: st) h bc bs) : mWP X M d Q pc L (.ref (mSB + (100 + i)) :: st) h bc bs := by
  intro p e R s m args below meth c H locs cells slots ad a0 n0 ls F G hl
  have hE := F.2.2.2.2.2.2.2.2.1
  have k1 := kk p e R s m args below meth c H locs cells slots ad a0 n0 ls F G hl
  simp only [List.map_cons, mV, G.1.2.2] at k1 ⊢
  exact va_tlen F.1 F.2.1 (hE.2.2.2.2.2.1 i hi).2.2.2 G.2.1 rfl hd k1
theorem wp_tbald {i : Nat} {j : Int32} (hi : i < 4) (hd : decode M.2.1 pc = .ok (.baload, 1)) (hj : vp_in j (mTl i)) (kk : mWP X M d Q (pc + 1) L (.int (mTc i j.toNatClampNeg) :: st) h bc bs) : mWP X M d Q pc L (.int j :: .ref (mSB + (100 + i)) :: st) h bc bs := by
  intro p e R s m args below meth c H locs cells slots ad a0 n0 ls F G hl
  have hE := F.2.2.2.2.2.2.2.2.1
  have k1 := kk p e R s m args below meth c H locs cells slots ad a0 n0 ls F G hl
  simp only [List.map_cons, mV, G.1.2.2] at k1 ⊢
  exact va_tb F.1 F.2.1 (hE.2.2.2.2.2.1 i hi).2.2.2 G.2.1 hj rfl hd k1
theorem wp_cs {idx : Nat} (hn : mNm M.2.2.2.2.2.1 = M.1.cls) (hd : decode M.2.1 pc = .ok (.getstatic idx, 3)) (hlk : Cond.fieldLink (mNm M.2.2.2.2.2.1) idx "java/lang/String" "COMPACT_STRINGS" "Z" ∈ lw_tbl) (kk : mWP X M d Q (pc + 3) L (.int 1 :: st) h bc bs) : mWP X M d Q pc L st h bc bs := by
  intro p e R s m args below meth c H locs cells slots ad a0 n0 ls F G hl
  have hE := F.2.2.2.2.2.2.2.2.1
  have ho : s.vm.findClass (mNm M.2.2.2.2.2.1) = some m.cls := by rw [hn]; exact F.2.2.2.1
  have k1 := kk p e R s m args below meth c H locs cells slots ad a0 n0 ls F G hl
  simp only [List.map_cons, mV] at k1
  exact va_gets F.1 F.2.1 hE.2.2.2.2.2.2.1.1 G.2.1 ho (hE.word hlk rfl) (fun x h => h) hd k1
/-- the formatter: null or a reference -/
def mFv (b : Bool) : Value := match b with
  | true => .null
  | false => .ref (mSB + 501)
theorem wp_fm {idx : Nat} (hn : mNm M.2.2.2.2.2.1 = M.1.cls) (hd : decode M.2.1 pc = .ok (.getstatic idx, 3)) (hlk : Cond.fieldLink (mNm M.2.2.2.2.2.1) idx "jdk/internal/util/Preconditions" "SIOOBE_FORMATTER" "Ljava/util/function/BiFunction;" ∈ lw_tbl) (kk : ∀ b, mWP X M d Q (pc + 3) L (mFv b :: st) h bc bs) : mWP X M d Q pc L st h bc bs := by
  intro p e R s m args below meth c H locs cells slots ad a0 n0 ls F G hl
  have hE := F.2.2.2.2.2.2.2.2.1
  have ho : s.vm.findClass (mNm M.2.2.2.2.2.1) = some m.cls := by rw [hn]; exact F.2.2.2.1
  rcases hE.2.2.2.2.2.2.1.2 with q | q
  · have k1 := kk true p e R s m args below meth c H locs cells slots ad a0 n0 ls F G hl
    simp only [List.map_cons, mFv, mV] at k1
    exact va_gets F.1 F.2.1 q G.2.1 ho (hE.word hlk rfl) (fun x h => h) hd k1
  · have k1 := kk false p e R s m args below meth c H locs cells slots ad a0 n0 ls F G hl
    simp only [List.map_cons, mFv, mV, G.1.2.2] at k1
    exact va_gets F.1 F.2.1 q G.2.1 ho (hE.word hlk rfl) (fun x h => h) hd k1
theorem wp_i2c {x : Int32} (hd : decode M.2.1 pc = .ok (.i2c, 1)) (kk : mWP X M d Q (pc + 1) L (.int ((x.toUInt32 % 65536).toInt32) :: st) h bc bs) : mWP X M d Q pc L (.int x :: st) h bc bs := by
  intro p e R s m args below meth c H locs cells slots ad a0 n0 ls F G hl
  have k1 := kk p e R s m args below meth c H locs cells slots ad a0 n0 ls F G hl
  simp only [List.map_cons, mV] at k1 ⊢
  exact lv_i2c F.1 F.2.1 hd rfl k1
theorem wp_callS {idx n d2 i : Nat} {M2 : mM} {as : List Value} {Q2 : mO → mH → Prop} (hi : i < 4) (hn : mNm M.2.2.2.2.2.1 = M.1.cls) (hd : decode M.2.1 pc = .ok (.invokevirtual idx, 3)) (hcd : mCode M2 ∈ lw_tbl) (wi : Cond.initialized M2.1.cls ∈ lw_tbl) (wl : Cond.methodLink (mNm M.2.2.2.2.2.1) idx M2.1 ∈ lw_tbl) (w1 : Cond.instanceMethod M2.1 ∈ lw_tbl) (w2 : Cond.selects M2.1.cls M2.1 M2.1 ∈ lw_tbl) (hy : mYn M2.1 n = true) (hcl : M2.1.cls = "java/lang/String") (hh2 : M2.2.2.2.2.1 = []) (hmL : M2.2.2.1 ≤ 20) (hlen : as.length = n) (hst : (st.map fun v => v.category).sum ≤ 8) (hd2 : d2 < d) (hmc : M2.2.2.2.2.2.2.1 ≤ bc) (hms : M2.2.2.2.2.2.2.2 ≤ bs) (hwf : mWfS h L st = true) (hEv : mEv X d2 M2 (.ref (mSB + i) :: as) h Q2) (k1 : ∀ (r : Option Value) (h1 : mH), Q2 (.inl r) h1 → mWP X M d Q (pc + 3) L (r.toList ++ st) h1 (bc - M2.2.2.2.2.2.2.1) (bs - M2.2.2.2.2.2.2.2)) (kx : ∀ (n1 : Nat) (h1 : mH), Q2 (.inr n1) h1 → False) : mWP X M d Q pc L (as.reverse ++ .ref (mSB + i) :: st) h bc bs := by
  intro p e R s m args below meth c H locs cells slots ad a0 n0 ls F G hl
  have hE := F.2.2.2.2.2.2.2.2.1
  have hR := F.2.2.2.2.2.2.2.2.2
  have ho : s.vm.findClass (mNm M.2.2.2.2.2.1) = some m.cls := by rw [hn]; exact F.2.2.2.1
  simp only [mYn, Bool.and_eq_true, decide_eq_true_eq] at hy
  obtain ⟨⟨y1, y2⟩, y3⟩ := hy
  have hsig : ∀ sig, parseMethodDescriptor M2.1.desc = some sig → n = sig.parameters.length := fun sig hs => by
    rw [hs] at y3
    exact (Option.some.inj y3).symm
  have hc9 : mCode M2 = .code M2.1 M2.2.1 M2.2.2.1 M2.2.2.2.1 := by simp only [mCode, hh2]
  have hws : ∀ w ∈ [mCode M2], ∀ (a' : Array Value) (U : State), s.WarmedH U.vm → w.before a' U = true := fun w hw a' U hU => by
    rw [List.mem_singleton] at hw
    subst hw
    exact mOk_keep hU (mCode_ok M2) (hE.word (a := args) hcd (mCode_ok M2))
  have hcw : Cond.code M2.1 M2.2.1 M2.2.2.1 M2.2.2.2.1 ∈ [mCode M2] := by rw [hc9]; exact List.mem_singleton.mpr rfl
  have hcb : (Cond.code M2.1 M2.2.1 M2.2.2.1 M2.2.2.2.1).before args s = true := by rw [← hc9]; exact hE.word hcd (mCode_ok M2)
  have hr1 : (mRm d2 M2).frames + 1 ≤ R.frames := by show 8 + d2 + 1 ≤ R.frames; omega
  have hr2 : 8 + (M2.2.2.1 + 11) + (mRm d2 M2).locals ≤ R.locals := by show 8 + (M2.2.2.1 + 11) + (200 + 48 * d2) ≤ R.locals; omega
  have hstk : (as.reverse ++ .ref (mSB + i) :: st).map (mV ad) = (as.map (mV ad)).reverse ++ .ref (ad (mSB + i)) :: st.map (mV ad) := by simp [mV]
  have hlen2 : (as.map (mV ad)).length = n := by rw [List.length_map]; exact hlen
  have hf : cells + M2.2.2.2.2.2.2.1 ≤ R.cells ∧ slots + M2.2.2.2.2.2.2.2 ≤ R.slots := ⟨by have := G.2.2.2.2.1; omega, by have := G.2.2.2.2.2; omega⟩
  have hrec : ∃ cellB : Cell, H[ad (mSB + i)]? = some cellB ∧ cellB.vm.isStatics = false ∧ s.vm.findClass M2.1.cls = some cellB.cls := by
    rw [G.1.2.2 i, hcl]
    exact va_Orecv (hE.2.2.2.2.2.1 i hi).1 G.2.1
  have hrun := vx_runV (e := e) (below := below) (meth := meth) (locs := locs) (g := F0 m pc ls ((as.reverse ++ .ref (mSB + i) :: st).map (mV ad))) (As := as.map (mV ad)) (rest := st.map (mV ad)) (b := ad (mSB + i)) (C := M2.1.cls) (⟨F.1, F.2.1, F.2.2.1, ho, fun w h => by cases h⟩ : CallFix p m c M.2.1 M.2.2.1 s args [] (mNm M.2.2.2.2.2.1)) (hEv ad) ⟨⟨rfl, rfl, hr1, hr2, hws, hcw, hcb, hE.word wi rfl, ⟨y1, y2⟩, hsig, hE.word wl rfl⟩, hE.word w1 rfl, hE.word w2 rfl⟩ ⟨mPc_blind, hrec, mPc_pre hE G.2.1 G.1 (as := .ref (mSB + i) :: as)⟩ rfl hlen2 hl.1 hstk (lv_room (mCat hst)) hd hf
  exact mAfter F G hl hrun hmc hms hwf k1 (fun n1 h1 ad1 H1 locs1 q ce hQ1 G1 hce hcv hcl hl1 => (kx n1 h1 hQ1).elim)
theorem wp_callT {idx n d2 : Nat} {M2 : mM} {as : List Value} {Q2 : mO → mH → Prop} (hn : mNm M.2.2.2.2.2.1 = M.1.cls) (hd : decode M.2.1 pc = .ok (.invokestatic idx, 3)) (hcd : mCode M2 ∈ lw_tbl) (wi : Cond.initialized M2.1.cls ∈ lw_tbl) (wl : Cond.methodLink (mNm M.2.2.2.2.2.1) idx M2.1 ∈ lw_tbl) (w1 : Cond.static M2.1 ∈ lw_tbl) (hy : mYn M2.1 n = true) (hh2 : M2.2.2.2.2.1 = []) (hmL : M2.2.2.1 ≤ 20) (hlen : as.length = n) (hst : (st.map fun v => v.category).sum ≤ 8) (hd2 : d2 < d) (hmc : M2.2.2.2.2.2.2.1 ≤ bc) (hms : M2.2.2.2.2.2.2.2 ≤ bs) (hwf : mWfS h L st = true) (hEv : mEv X d2 M2 as h Q2) (k1 : ∀ (r : Option Value) (h1 : mH), Q2 (.inl r) h1 → mWP X M d Q (pc + 3) L (r.toList ++ st) h1 (bc - M2.2.2.2.2.2.2.1) (bs - M2.2.2.2.2.2.2.2)) (kx : ∀ (n1 : Nat) (h1 : mH), Q2 (.inr n1) h1 → False) : mWP X M d Q pc L (as.reverse ++ st) h bc bs := by
  intro p e R s m args below meth c H locs cells slots ad a0 n0 ls F G hl
  have hE := F.2.2.2.2.2.2.2.2.1
  have hR := F.2.2.2.2.2.2.2.2.2
  have ho : s.vm.findClass (mNm M.2.2.2.2.2.1) = some m.cls := by rw [hn]; exact F.2.2.2.1
  simp only [mYn, Bool.and_eq_true, decide_eq_true_eq] at hy
  obtain ⟨⟨y1, y2⟩, y3⟩ := hy
  have hsig : ∀ sig, parseMethodDescriptor M2.1.desc = some sig → n = sig.parameters.length := fun sig hs => by
    rw [hs] at y3
    exact (Option.some.inj y3).symm
  have hc9 : mCode M2 = .code M2.1 M2.2.1 M2.2.2.1 M2.2.2.2.1 := by simp only [mCode, hh2]
  have hws : ∀ w ∈ [mCode M2], ∀ (a' : Array Value) (U : State), s.WarmedH U.vm → w.before a' U = true := fun w hw a' U hU => by
    rw [List.mem_singleton] at hw
    subst hw
    exact mOk_keep hU (mCode_ok M2) (hE.word (a := args) hcd (mCode_ok M2))
  have hcw : Cond.code M2.1 M2.2.1 M2.2.2.1 M2.2.2.2.1 ∈ [mCode M2] := by rw [hc9]; exact List.mem_singleton.mpr rfl
  have hcb : (Cond.code M2.1 M2.2.1 M2.2.2.1 M2.2.2.2.1).before args s = true := by rw [← hc9]; exact hE.word hcd (mCode_ok M2)
  have hr1 : (mRm d2 M2).frames + 1 ≤ R.frames := by show 8 + d2 + 1 ≤ R.frames; omega
  have hr2 : 8 + (M2.2.2.1 + 11) + (mRm d2 M2).locals ≤ R.locals := by show 8 + (M2.2.2.1 + 11) + (200 + 48 * d2) ≤ R.locals; omega
  have hstk : (as.reverse ++ st).map (mV ad) = (as.map (mV ad)).reverse ++ st.map (mV ad) := by simp
  have hlen2 : (as.map (mV ad)).length = n := by rw [List.length_map]; exact hlen
  have hf : cells + M2.2.2.2.2.2.2.1 ≤ R.cells ∧ slots + M2.2.2.2.2.2.2.2 ≤ R.slots := ⟨by have := G.2.2.2.2.1; omega, by have := G.2.2.2.2.2; omega⟩
  have hrun := vx_runS (e := e) (below := below) (meth := meth) (locs := locs) (g := F0 m pc ls ((as.reverse ++ st).map (mV ad))) (As := as.map (mV ad)) (rest := st.map (mV ad)) (⟨F.1, F.2.1, F.2.2.1, ho, fun w h => by cases h⟩ : CallFix p m c M.2.1 M.2.2.1 s args [] (mNm M.2.2.2.2.2.1)) (hEv ad) ⟨⟨rfl, rfl, hr1, hr2, hws, hcw, hcb, hE.word wi rfl, ⟨y1, y2⟩, hsig, hE.word wl rfl⟩, hE.word w1 rfl⟩ ⟨mPc_blind, mPc_pre hE G.2.1 G.1 (as := as)⟩ rfl hlen2 hl.1 hstk (lv_room (mCat hst)) hd hf
  exact mAfter F G hl hrun hmc hms hwf k1 (fun n1 h1 ad1 H1 locs1 q ce hQ1 G1 hce hcv hcl hl1 => (kx n1 h1 hQ1).elim)
end mTe
def mSame (v : Option Value) (h : mH) : mO → mH → Prop := fun o9 h9 => o9 = .inl v ∧ h9 = h
section mTf
variable {X : mX} {h : mH}
theorem ev_coder {i : Nat} (hi : i < 4) : mEv X 1 mJ0_coder_7d493 [.ref (mSB + i)] h (mSame (some (.int 0)) h) := by
  refine mEv_of (by decide) (Nat.le_of_ble_eq_true rfl) ?_
  refine wp_cs (idx := 38) rfl (by decide +kernel) (by decide +kernel) ?_
  refine wp_if_eq (tgt := 13) (off := 10) (by decide +kernel) (by decide) (fun q => absurd q (by decide)) (fun _ => ?_)
  refine wp_aload_n (j := 0) (x := mSB + i) (by decide +kernel) rfl ?_
  refine wp_tcod (idx := 15) hi rfl (by decide +kernel) (by decide +kernel) ?_
  refine wp_goto (off := 4) (tgt := 14) (by decide +kernel) (by decide) ?_
  exact wp_zret (ty := .byte) (by decide) (by decide +kernel) rfl ⟨rfl, rfl⟩
theorem ev_latin {i : Nat} (hi : i < 4) : mEv X 1 mJ0_isLatin1_aae02 [.ref (mSB + i)] h (mSame (some (.int 1)) h) := by
  refine mEv_of (by decide) (Nat.le_of_ble_eq_true rfl) ?_
  refine wp_cs (idx := 38) rfl (by decide +kernel) (by decide +kernel) ?_
  refine wp_if_eq (tgt := 17) (off := 14) (by decide +kernel) (by decide) (fun q => absurd q (by decide)) (fun _ => ?_)
  refine wp_aload_n (j := 0) (x := mSB + i) (by decide +kernel) rfl ?_
  refine wp_tcod (idx := 15) hi rfl (by decide +kernel) (by decide +kernel) ?_
  refine wp_if_ne (tgt := 17) (off := 7) (by decide +kernel) (by decide) (fun q => absurd rfl q) (fun _ => ?_)
  refine wp_iconst (n := 1) (v := 1) (by decide +kernel) (by decide) ?_
  refine wp_goto (off := 4) (tgt := 18) (by decide +kernel) (by decide) ?_
  exact wp_zret (ty := .boolean) (by decide) (by decide +kernel) rfl ⟨rfl, rfl⟩
theorem ev_len {i : Nat} (hi : i < 4) : mEv X 2 mJ0_length_8abf5 [.ref (mSB + i)] h (mSame (some (.int (Int32.ofNat (mTl i)))) h) := by
  refine mEv_of (by decide) (Nat.le_of_ble_eq_true rfl) ?_
  refine wp_aload_n (j := 0) (x := mSB + i) (by decide +kernel) rfl ?_
  refine wp_tval (idx := 9) hi rfl (by decide +kernel) (by decide +kernel) ?_
  refine wp_tlen hi (by decide +kernel) ?_
  refine wp_aload_n (j := 0) (x := mSB + i) (by decide +kernel) rfl ?_
  refine wp_callS (idx := 335) (n := 0) (d2 := 1) (M2 := mJ0_coder_7d493) (as := []) hi rfl (by decide +kernel) mCd_J0_coder_7d493 (by decide +kernel) (by decide +kernel) (by decide +kernel) (by decide +kernel) (by decide) rfl rfl (by decide) rfl (Nat.le_of_ble_eq_true rfl) (by decide) (by decide) (by decide) ?_ (ev_coder hi) (fun r h1 q => ?_) (fun n1 h1 q => by cases q.1)
  · simp only [mWfS, mWfV, mPad, mEnt, mJ0_length_8abf5, List.all_cons, List.all_nil, Bool.and_true, Bool.or_eq_true]
    exact Or.inr (Nat.ble_eq.mpr (Nat.le_add_right _ _))
  · obtain ⟨q1, rfl⟩ := q
    cases q1
    refine wp_ishr (x := Int32.ofNat (mTl i)) (y := 0) (by decide +kernel) ?_
    rw [(mTl_ok i hi).2.2]
    exact wp_iret (by decide +kernel) rfl ⟨rfl, rfl⟩
/-- an index within a length -/
theorem ev_pci {b : Bool} {j n : Int32} (h0 : ¬ j < 0) (h1 : j < n) : mEv X 1 mJ3_ci [.int j, .int n, mFv b] h (mSame (some (.int j)) h) := by
  refine mEv_of (by decide) (by cases b <;> exact Nat.le_of_ble_eq_true rfl) ?_
  have eL : mPad mJ3_ci.2.2.1 (mEnt [.int j, .int n, mFv b]) = [some (.int j), some (.int n), some (mFv b)] := by cases b <;> rfl
  rw [eL]
  refine wp_iload_n (j := 0) (x := j) (by decide +kernel) rfl ?_
  refine wp_if_lt (tgt := 9) (off := 8) (by decide +kernel) (by decide) (fun q => absurd q h0) (fun _ => ?_)
  refine wp_iload_n (j := 0) (x := j) (by decide +kernel) rfl ?_
  refine wp_iload_n (j := 1) (x := n) (by decide +kernel) rfl ?_
  refine wp_icmp_lt (tgt := 16) (off := 10) (by decide +kernel) (by decide) (fun _ => ?_) (fun q => absurd h1 q)
  refine wp_iload_n (j := 0) (x := j) (by decide +kernel) rfl ?_
  exact wp_iret (by decide +kernel) rfl ⟨rfl, rfl⟩
theorem ev_ci {j n : Int32} (h0 : ¬ j < 0) (h1 : j < n) : mEv X 2 mJ0_ci [.int j, .int n] h (mSame none h) := by
  refine mEv_of (by decide) (Nat.le_of_ble_eq_true rfl) ?_
  refine wp_iload_n (j := 0) (x := j) (by decide +kernel) rfl ?_
  refine wp_iload_n (j := 1) (x := n) (by decide +kernel) rfl ?_
  refine wp_fm (idx := 1053) rfl (by decide +kernel) (by decide +kernel) (fun b => ?_)
  refine wp_callT (idx := 1059) (n := 3) (d2 := 1) (M2 := mJ3_ci) (as := [.int j, .int n, mFv b]) rfl (by decide +kernel) (by decide +kernel) (by decide +kernel) (by decide +kernel) (by decide +kernel) (by decide) rfl (by decide) rfl (Nat.le_of_ble_eq_true rfl) (by decide) (by decide) (by decide) rfl (ev_pci h0 h1) (fun r h1 q => ?_) (fun n1 h1 q => by cases q.1)
  obtain ⟨q1, rfl⟩ := q
  cases q1
  refine wp_pop (v := .int j) (by decide +kernel) rfl ?_
  exact wp_vret (by decide +kernel) rfl ⟨rfl, rfl⟩
theorem ev_lch {i : Nat} {j : Int32} (hi : i < 4) (h0 : ¬ j < 0) (h1 : j < Int32.ofNat (mTl i)) : mEv X 3 mJ1_charAt_3b067 [.ref (mSB + (100 + i)), .int j] h (mSame (some (.int (mTc i j.toNatClampNeg))) h) := by
  have hl := mTl_ok i hi
  have hj : j.toNatClampNeg < mTl i := by
    have e : (Int32.ofNat (mTl i)).toInt = mTl i := nI_toInt (by omega)
    rw [Int32.lt_iff_toInt_lt, e] at h1
    have h2 : ¬ j.toInt < 0 := fun q => h0 (by rw [Int32.lt_iff_toInt_lt]; exact q)
    show j.toInt.toNat < _
    omega
  have hc := mTc_ok i hi j.toNatClampNeg (by omega)
  refine mEv_of (by decide) (Nat.le_of_ble_eq_true rfl) ?_
  refine wp_iload_n (j := 1) (x := j) (by decide +kernel) rfl ?_
  refine wp_aload_n (j := 0) (x := mSB + (100 + i)) (by decide +kernel) rfl ?_
  refine wp_tlen hi (by decide +kernel) ?_
  refine wp_callT (idx := 9) (n := 2) (d2 := 2) (M2 := mJ0_ci) (as := [.int j, .int (Int32.ofNat (mTl i))]) rfl (by decide +kernel) (by decide +kernel) (by decide +kernel) (by decide +kernel) (by decide +kernel) (by decide) rfl (by decide) rfl (Nat.le_of_ble_eq_true rfl) (by decide) (by decide) (by decide) ?_ (ev_ci h0 h1) (fun r h1 q => ?_) (fun n1 h1 q => by cases q.1)
  · simp only [mWfS, mWfV, mPad, mEnt, mJ1_charAt_3b067, List.all_cons, List.all_nil, Bool.and_true, Bool.or_eq_true]
    exact Or.inr (Nat.ble_eq.mpr (Nat.le_add_right _ _))
  · obtain ⟨q1, rfl⟩ := q
    cases q1
    refine wp_aload_n (j := 0) (x := mSB + (100 + i)) (by decide +kernel) rfl ?_
    refine wp_iload_n (j := 1) (x := j) (by decide +kernel) rfl ?_
    refine wp_tbald hi (by decide +kernel) (fun q => by rcases q with q | q; exact h0 q; omega) ?_
    refine wp_sipush (n := 255) (by decide +kernel) rfl ?_
    refine wp_iand (by decide +kernel) ?_
    refine wp_i2c (by decide +kernel) ?_
    rw [hc.1]
    exact wp_zret (ty := .char) hc.2 (by decide +kernel) rfl ⟨rfl, rfl⟩
theorem ev_ch {i : Nat} {j : Int32} (hi : i < 4) (h0 : ¬ j < 0) (h1 : j < Int32.ofNat (mTl i)) : mEv X 4 mJ0_charAt_5068e [.ref (mSB + i), .int j] h (mSame (some (.int (mTc i j.toNatClampNeg))) h) := by
  have hl := mTl_ok i hi
  have hj : j.toNatClampNeg < mTl i := by
    have e : (Int32.ofNat (mTl i)).toInt = mTl i := nI_toInt (by omega)
    rw [Int32.lt_iff_toInt_lt, e] at h1
    have h2 : ¬ j.toInt < 0 := fun q => h0 (by rw [Int32.lt_iff_toInt_lt]; exact q)
    show j.toInt.toNat < _
    omega
  have hc := mTc_ok i hi j.toNatClampNeg (by omega)
  refine mEv_of (by decide) (Nat.le_of_ble_eq_true rfl) ?_
  refine wp_aload_n (j := 0) (x := mSB + i) (by decide +kernel) rfl ?_
  refine wp_callS (idx := 492) (n := 0) (d2 := 1) (M2 := mJ0_isLatin1_aae02) (as := []) hi rfl (by decide +kernel) mCd_J0_isLatin1_aae02 (by decide +kernel) (by decide +kernel) (by decide +kernel) (by decide +kernel) (by decide) rfl rfl (by decide) rfl (Nat.le_of_ble_eq_true rfl) (by decide) (by decide) (by decide) ?_ (ev_latin hi) (fun r h1 q => ?_) (fun n1 h1 q => by cases q.1)
  · simp only [mWfS, mWfV, mPad, mEnt, mJ0_charAt_5068e, List.all_cons, List.all_nil, Bool.and_true, Bool.or_eq_true]
    exact Or.inr (Nat.ble_eq.mpr (Nat.le_add_right _ _))
  · obtain ⟨q1, rfl⟩ := q
    cases q1
    refine wp_if_eq (tgt := 16) (off := 12) (by decide +kernel) (by decide) (fun q => absurd q (by decide)) (fun _ => ?_)
    refine wp_aload_n (j := 0) (x := mSB + i) (by decide +kernel) rfl ?_
    refine wp_tval (idx := 9) hi rfl (by decide +kernel) (by decide +kernel) ?_
    refine wp_iload_n (j := 1) (x := j) (by decide +kernel) rfl ?_
    refine wp_callT (idx := 495) (n := 2) (d2 := 3) (M2 := mJ1_charAt_3b067) (as := [.ref (mSB + (100 + i)), .int j]) rfl (by decide +kernel) mCd_J1_charAt_3b067 (by decide +kernel) (by decide +kernel) (by decide +kernel) (by decide) rfl (by decide) rfl (Nat.le_of_ble_eq_true rfl) (by decide) (by decide) (by decide) ?_ (ev_lch hi h0 ‹_›) (fun r h1 q => ?_) (fun n1 h1 q => by cases q.1)
    · simp only [mWfS, mWfV, mPad, mEnt, mJ0_charAt_5068e, List.all_cons, List.all_nil, Bool.and_true, Bool.or_eq_true]
      exact Or.inr (Nat.ble_eq.mpr (Nat.le_add_right _ _))
    · obtain ⟨q1, rfl⟩ := q
      cases q1
      exact wp_zret (ty := .char) hc.2 (by decide +kernel) rfl ⟨rfl, rfl⟩
end mTf
/-! the same over whole numbers -/
def zTl (i : Nat) : Int := mTl i
def zTc (i : Nat) (j : Int) : Int := (mTc i j.toNat).toInt
section zTe
variable {X : mX} {M : mM} {d : Nat} {Q : zO → zH → Prop} {pc : Nat} {L : List (Option zV)} {st : List zV} {h : zH} {bc bs : Nat}
theorem zWP_len {i idx : Nat} (hi : i < 4) (hn : mNm M.2.2.2.2.2.1 = M.1.cls) (hd : decode M.2.1 pc = .ok (.invokevirtual idx, 3)) (wl : Cond.methodLink (mNm M.2.2.2.2.2.1) idx yJ0_length_8abf5 ∈ lw_tbl) (hst : zCs st ≤ 8) (hwf : zWfS h L st = true) (hdd : 2 < d) (kk : zWP X M d Q (pc + 3) L (zI (zTl i) :: st) h bc bs) : zWP X M d Q pc L (zR (mSB + i) :: st) h bc bs := by
  have hs2 : ((st.map zT).map fun v => v.category).sum ≤ 8 := by rw [zCs_eq]; exact hst
  have hw2 : mWfS (h.map zC) (zL L) (st.map zT) = true := by rw [zWfS_eq]; exact hwf
  refine wp_callS (idx := idx) (n := 0) (d2 := 2) (M2 := mJ0_length_8abf5) (as := []) hi hn hd mCd_J0_length_8abf5 (by decide +kernel) wl (by decide +kernel) (by decide +kernel) (by decide) rfl rfl (by decide) rfl hs2 hdd (Nat.zero_le _) (Nat.zero_le _) hw2 (ev_len hi) (fun r h1 q => ?_) (fun n1 h1 q => by cases q.1)
  obtain ⟨q1, rfl⟩ := q
  cases q1
  exact kk
theorem zWP_ch {i idx : Nat} {j : Int} (hi : i < 4) (h0 : 0 ≤ j) (h1 : j < zTl i) (hn : mNm M.2.2.2.2.2.1 = M.1.cls) (hd : decode M.2.1 pc = .ok (.invokevirtual idx, 3)) (wl : Cond.methodLink (mNm M.2.2.2.2.2.1) idx yJ0_charAt_5068e ∈ lw_tbl) (hst : zCs st ≤ 8) (hwf : zWfS h L st = true) (hdd : 4 < d) (kk : zWP X M d Q (pc + 3) L (zI (zTc i j) :: st) h bc bs) : zWP X M d Q pc L (zI j :: zR (mSB + i) :: st) h bc bs := by
  have hl := mTl_ok i hi
  have h2 : j < 4 := by simp only [zTl] at h1; omega
  have hs2 : ((st.map zT).map fun v => v.category).sum ≤ 8 := by rw [zCs_eq]; exact hst
  have hw2 : mWfS (h.map zC) (zL L) (st.map zT) = true := by rw [zWfS_eq]; exact hwf
  have rj : rI j := by simp only [rI]; omega
  have g0 : ¬ Int32.ofInt j < 0 := by
    intro q
    have q2 : Int32.ofInt j < Int32.ofInt 0 := q
    rw [zI_lt rj rI_0] at q2
    omega
  have g1 : Int32.ofInt j < Int32.ofNat (mTl i) := by
    have q2 : Int32.ofInt j < Int32.ofInt (mTl i) := by rw [zI_lt rj (by simp only [rI]; omega)]; exact h1
    exact q2
  have e9 : mTc i (Int32.ofInt j).toNatClampNeg = Int32.ofInt (zTc i j) := by
    show mTc i (Int32.ofInt j).toInt.toNat = _
    rw [rI_to rj, zTc, zI_asI]
  have k9 := ev_ch (X := X) (h := h.map zC) (j := Int32.ofInt j) hi g0 g1
  refine wp_callS (st := st.map zT) (idx := idx) (n := 1) (d2 := 4) (M2 := mJ0_charAt_5068e) (as := [.int (Int32.ofInt j)]) hi hn hd mCd_J0_charAt_5068e (by decide +kernel) wl (by decide +kernel) (by decide +kernel) (by decide) rfl rfl (by decide) rfl hs2 hdd (Nat.zero_le _) (Nat.zero_le _) hw2 k9 (fun r h1 q => ?_) (fun n1 h1 q => by cases q.1)
  obtain ⟨q1, rfl⟩ := q
  cases q1
  rw [e9]
  exact kk
end zTe
