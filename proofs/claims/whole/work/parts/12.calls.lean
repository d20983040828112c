/-! the calls themselves -/
section mCa
variable {X : mX} {M : mM} {d : Nat} {Q : mO → mH → Prop} {pc : Nat} {L : List (Option Value)} {st : List Value} {h : mH} {bc bs : Nat}
theorem mCode_ok (M : mM) : mOk (mCode M) = true := by
  simp only [mCode]
  split <;> rfl
theorem mPc_blind {ad : Nat → Nat} {as : List Value} : FrameBlind (mPc X ad as h) := fun a U g mk q => ⟨q.1, q.2.1.moved (U := U.calling g mk a) (State.WarmedH.refl U), q.2.2⟩
theorem mPc_pre {s : State} {H : Heap} {locs : List Loc} {ad : Nat → Nat} {as : List Value} (hE : mEnv X s s.heap) (hS : va_S (mB X) s.heap H locs) (hW : mWd X ad h H) : ∀ U : State, U.heap = H → s.WarmedH U.vm → mPc X ad as h (as.map (mV ad)).toArray U := fun U hU hv => ⟨rfl, by rw [hU]; exact (hE.kept hS.1 hS.2.1).moved hv, by rw [hU]; exact hW⟩
/-- a callee that doesn't throw -/
theorem mMet {d2 : Nat} {M2 : mM} {as : List Value} {Q2 : mO → mH → Prop} (hE : mEv X d2 M2 as h Q2) (hno : ∀ (n : Nat) (h1 : mH), Q2 (.inr n) h1 → False) (ad : Nat → Nat) : Met X.1 M2.1 [mCode M2] (mRm d2 M2) (mPc X ad as h) (mQc X ad h.length Q2) M2.2.2.2.2.2.2.1 M2.2.2.2.2.2.2.2 (mB X) := by
  intro p e h1 h2 h3 s m args below h4 h5 h6 h7
  obtain ⟨n, o, g1, g2, g3, g4⟩ := hE ad p e h1 h2 h3 s m args below h4 h5 h6 h7
  refine ⟨n, o, g1, g2, g3, ?_⟩
  rcases g4 with g4 | ⟨q, -, E, ce, Lx, ⟨k, ad1, hh, -, hq, -⟩, -⟩
  · exact g4
  · exact (hno k hh hq).elim
theorem mCat {ad : Nat → Nat} (hst : (st.map fun v => v.category).sum ≤ 8) : ((st.map (mV ad)).map fun v => v.category).sum ≤ 8 := by
  rw [List.map_map]
  simpa [Function.comp_def, mV_cat] using hst
theorem mRecv {s : State} {H : Heap} {ad : Nat → Nat} {k ci : Nat} {fs : List Value} {C : String} (hE : mEnv X s s.heap) (hW : mWd X ad h H) (hk : h[k]? = some (.inr (ci, fs))) (hC : mNm ci = C) : ∃ cellB : Cell, H[ad k]? = some cellB ∧ cellB.vm.isStatics = false ∧ s.vm.findClass C = some cellB.cls := by
  have he := mW_at (ad := ad) (dA := X.2.2.1) hk
  obtain ⟨r, hr, -⟩ := hW.1 k _ he
  obtain ⟨cell, g1, g2, g3⟩ := va_recv hE.2.1 hW.1 hr he
  exact ⟨cell, g1, g2, by rw [← hC, ← (mCls hr).2.2.2]; exact g3⟩
theorem wp_call0 {idx n d2 : Nat} {k : Nat} {fs : List Value} {M2 : mM} {as : List Value} {Q2 : mO → mH → Prop} (hn : mNm M.2.2.2.2.2.1 = M.1.cls) (hd : decode M.2.1 pc = .ok (.invokevirtual idx, 3)) (hq : mLk (mMt M.2.2.2.2.2.1) idx = some (0, n, M2)) (hlen : as.length = n) (hrec : h[k]? = some (.inr (M2.2.2.2.2.2.1, fs))) (hst : (st.map fun v => v.category).sum ≤ 8) (hd2 : d2 < d) (hmc : M2.2.2.2.2.2.2.1 ≤ bc) (hms : M2.2.2.2.2.2.2.2 ≤ bs) (hwf : mWfS h L st = true) (hEv : mEv X d2 M2 (.ref k :: as) h Q2) (k1 : ∀ (r : Option Value) (h1 : mH), Q2 (.inl r) h1 → mWP X M d Q (pc + 3) L (r.toList ++ st) h1 (bc - M2.2.2.2.2.2.2.1) (bs - M2.2.2.2.2.2.2.2)) (hh : M.2.2.2.2.1 = []) (kx : ∀ (n1 : Nat) (h1 : mH), Q2 (.inr n1) h1 → Q (.inr n1) h1) : mWP X M d Q pc L (as.reverse ++ .ref k :: st) h bc bs := by
  intro p e R s m args below meth c H locs cells slots ad a0 n0 ls F G hl
  have hE := F.2.2.2.2.2.2.2.2.1
  have hR := F.2.2.2.2.2.2.2.2.2
  have ho : s.vm.findClass (mNm M.2.2.2.2.2.1) = some m.cls := by rw [hn]; exact F.2.2.2.1
  obtain ⟨ix, hw⟩ := mMt_ok _ (mLk_mem hq)
  have hcd : mCode M2 ∈ lw_tbl := mMt_cd _ (mLk_mem hq)
  simp only [mMw, mYn, Bool.and_eq_true, decide_eq_true_eq] at hw
  obtain ⟨⟨⟨⟨⟨⟨⟨wi, wl⟩, w1⟩, w2⟩, ⟨⟨y1, y2⟩, y3⟩⟩, hC⟩, hh2⟩, hmL⟩ := hw
  have hsig : ∀ sig, parseMethodDescriptor M2.1.desc = some sig → n = sig.parameters.length := fun sig hs => by
    rw [hs] at y3
    exact (Option.some.inj y3).symm
  have hc9 : mCode M2 = .code M2.1 M2.2.1 M2.2.2.1 M2.2.2.2.1 := by simp only [mCode, hh2]
  have hws : ∀ w ∈ [mCode M2], ∀ (a' : Array Value) (U : State), s.WarmedH U.vm → w.before a' U = true := fun w hw a' U hU => by
    rw [List.mem_singleton] at hw
    subst hw
    exact mOk_keep hU (mCode_ok M2) (hE.word (a := args) hcd (mCode_ok M2))
  have hcw : Cond.code M2.1 M2.2.1 M2.2.2.1 M2.2.2.2.1 ∈ [mCode M2] := by rw [hc9]; exact List.mem_singleton.mpr rfl
  have hcb : (Cond.code M2.1 M2.2.1 M2.2.2.1 M2.2.2.2.1).before args s = true := by rw [← hc9]; exact hE.word hcd (mCode_ok M2)
  have hr1 : (mRm d2 M2).frames + 1 ≤ R.frames := by show 8 + d2 + 1 ≤ R.frames; omega
  have hr2 : 8 + (M2.2.2.1 + 11) + (mRm d2 M2).locals ≤ R.locals := by show 8 + (M2.2.2.1 + 11) + (200 + 48 * d2) ≤ R.locals; omega
  have hstk : (as.reverse ++ .ref k :: st).map (mV ad) = (as.map (mV ad)).reverse ++ .ref (ad k) :: st.map (mV ad) := by simp [mV]
  have hlen2 : (as.map (mV ad)).length = n := by rw [List.length_map]; exact hlen
  have hf : cells + M2.2.2.2.2.2.2.1 ≤ R.cells ∧ slots + M2.2.2.2.2.2.2.2 ≤ R.slots := ⟨by have := G.2.2.2.2.1; omega, by have := G.2.2.2.2.2; omega⟩
  have hrun := vx_runV (e := e) (below := below) (meth := meth) (locs := locs) (g := F0 m pc ls ((as.reverse ++ .ref k :: st).map (mV ad))) (As := as.map (mV ad)) (rest := st.map (mV ad)) (b := ad k) (C := M2.1.cls) (⟨F.1, F.2.1, F.2.2.1, ho, fun w h => by cases h⟩ : CallFix p m c M.2.1 M.2.2.1 s args [] (mNm M.2.2.2.2.2.1)) (hEv ad) ⟨⟨rfl, rfl, hr1, hr2, hws, hcw, hcb, hE.word (mIs_mem wi) rfl, ⟨y1, y2⟩, hsig, hE.word (mIs_mem wl) rfl⟩, hE.word (mIs_mem w1) rfl, hE.word (mIs_mem w2) rfl⟩ ⟨mPc_blind, mRecv hE G.1 hrec hC, mPc_pre hE G.2.1 G.1 (as := .ref k :: as)⟩ rfl hlen2 hl.1 hstk (lv_room (mCat hst)) hd hf
  exact mAfter F G hl hrun hmc hms hwf k1 (fun n1 h1 ad1 H1 locs1 q ce hQ1 G1 hce hcv hcl hl1 => mOut F hh (kx n1 h1 hQ1) G1 hce hcv hcl)
theorem wp_call1 {idx n d2 : Nat} {k : Nat} {fs : List Value} {M2 : mM} {as : List Value} {Q2 : mO → mH → Prop} (hn : mNm M.2.2.2.2.2.1 = M.1.cls) (hd : decode M.2.1 pc = .ok (.invokevirtual idx, 3)) (hq : mLk (mMt M.2.2.2.2.2.1) idx = some (1, n, M2)) (hlen : as.length = n) (hrec : h[k]? = some (.inr (M2.2.2.2.2.2.1, fs))) (hst : (st.map fun v => v.category).sum ≤ 8) (hd2 : d2 < d) (hmc : M2.2.2.2.2.2.2.1 ≤ bc) (hms : M2.2.2.2.2.2.2.2 ≤ bs) (hwf : mWfS h L st = true) (hEv : mEv X d2 M2 (.ref k :: as) h Q2) (k1 : ∀ (r : Option Value) (h1 : mH), Q2 (.inl r) h1 → mWP X M d Q (pc + 3) L (r.toList ++ st) h1 (bc - M2.2.2.2.2.2.2.1) (bs - M2.2.2.2.2.2.2.2)) (kx : ∀ (n1 : Nat) (h1 : mH), Q2 (.inr n1) h1 → False) : mWP X M d Q pc L (as.reverse ++ .ref k :: st) h bc bs := by
  intro p e R s m args below meth c H locs cells slots ad a0 n0 ls F G hl
  have hE := F.2.2.2.2.2.2.2.2.1
  have hR := F.2.2.2.2.2.2.2.2.2
  have ho : s.vm.findClass (mNm M.2.2.2.2.2.1) = some m.cls := by rw [hn]; exact F.2.2.2.1
  obtain ⟨ix, hw⟩ := mMt_ok _ (mLk_mem hq)
  have hcd : mCode M2 ∈ lw_tbl := mMt_cd _ (mLk_mem hq)
  simp only [mMw, mYn, Bool.and_eq_true, decide_eq_true_eq] at hw
  obtain ⟨⟨⟨⟨⟨⟨⟨wi, wl⟩, w1⟩, w2⟩, ⟨⟨y1, y2⟩, y3⟩⟩, hC⟩, hh2⟩, hmL⟩ := hw
  have hsig : ∀ sig, parseMethodDescriptor M2.1.desc = some sig → n = sig.parameters.length := fun sig hs => by
    rw [hs] at y3
    exact (Option.some.inj y3).symm
  have hc9 : mCode M2 = .code M2.1 M2.2.1 M2.2.2.1 M2.2.2.2.1 := by simp only [mCode, hh2]
  have hws : ∀ w ∈ [mCode M2], ∀ (a' : Array Value) (U : State), s.WarmedH U.vm → w.before a' U = true := fun w hw a' U hU => by
    rw [List.mem_singleton] at hw
    subst hw
    exact mOk_keep hU (mCode_ok M2) (hE.word (a := args) hcd (mCode_ok M2))
  have hcw : Cond.code M2.1 M2.2.1 M2.2.2.1 M2.2.2.2.1 ∈ [mCode M2] := by rw [hc9]; exact List.mem_singleton.mpr rfl
  have hcb : (Cond.code M2.1 M2.2.1 M2.2.2.1 M2.2.2.2.1).before args s = true := by rw [← hc9]; exact hE.word hcd (mCode_ok M2)
  have hr1 : (mRm d2 M2).frames + 1 ≤ R.frames := by show 8 + d2 + 1 ≤ R.frames; omega
  have hr2 : 8 + (M2.2.2.1 + 11) + (mRm d2 M2).locals ≤ R.locals := by show 8 + (M2.2.2.1 + 11) + (200 + 48 * d2) ≤ R.locals; omega
  have hstk : (as.reverse ++ .ref k :: st).map (mV ad) = (as.map (mV ad)).reverse ++ .ref (ad k) :: st.map (mV ad) := by simp [mV]
  have hlen2 : (as.map (mV ad)).length = n := by rw [List.length_map]; exact hlen
  have hf : cells + M2.2.2.2.2.2.2.1 ≤ R.cells ∧ slots + M2.2.2.2.2.2.2.2 ≤ R.slots := ⟨by have := G.2.2.2.2.1; omega, by have := G.2.2.2.2.2; omega⟩
  have hrun := va_runVN (e := e) (below := below) (meth := meth) (locs := locs) (g := F0 m pc ls ((as.reverse ++ .ref k :: st).map (mV ad))) (As := as.map (mV ad)) (rest := st.map (mV ad)) (b := ad k) (C := M2.1.cls) (host := "SugarDice") (⟨F.1, F.2.1, F.2.2.1, ho, fun w h => by cases h⟩ : CallFix p m c M.2.1 M.2.2.1 s args [] (mNm M.2.2.2.2.2.1)) (mMet hEv kx ad) ⟨⟨⟨rfl, rfl, hr1, hr2, hws, hcw⟩, hcb, hE.word (mIs_mem wi) rfl, ⟨y1, y2⟩, hsig, hE.word (mIs_mem wl) rfl⟩, hE.word (mIs_mem w1) rfl, hE.word (mIs_mem w2) rfl⟩ ⟨mPc_blind, mRecv hE G.1 hrec hC, mPc_pre hE G.2.1 G.1 (as := .ref k :: as)⟩ rfl hlen2 hl.1 hstk (lv_room (mCat hst)) hd hf
  exact mAfter F G hl (Q2 := Q2) (fun T hT Xs => Or.inl (hrun T hT Xs)) hmc hms hwf k1 (fun n1 h1 ad1 H1 locs1 q ce hQ1 G1 hce hcv hcl hl1 => (kx n1 h1 hQ1).elim)
theorem wp_call2 {idx n d2 : Nat} {M2 : mM} {as : List Value} {Q2 : mO → mH → Prop} (hn : mNm M.2.2.2.2.2.1 = M.1.cls) (hd : decode M.2.1 pc = .ok (.invokestatic idx, 3)) (hq : mLk (mMt M.2.2.2.2.2.1) idx = some (2, n, M2)) (hlen : as.length = n) (hst : (st.map fun v => v.category).sum ≤ 8) (hd2 : d2 < d) (hmc : M2.2.2.2.2.2.2.1 ≤ bc) (hms : M2.2.2.2.2.2.2.2 ≤ bs) (hwf : mWfS h L st = true) (hEv : mEv X d2 M2 as h Q2) (k1 : ∀ (r : Option Value) (h1 : mH), Q2 (.inl r) h1 → mWP X M d Q (pc + 3) L (r.toList ++ st) h1 (bc - M2.2.2.2.2.2.2.1) (bs - M2.2.2.2.2.2.2.2)) (hh : M.2.2.2.2.1 = []) (kx : ∀ (n1 : Nat) (h1 : mH), Q2 (.inr n1) h1 → Q (.inr n1) h1) : mWP X M d Q pc L (as.reverse ++ st) h bc bs := by
  intro p e R s m args below meth c H locs cells slots ad a0 n0 ls F G hl
  have hE := F.2.2.2.2.2.2.2.2.1
  have hR := F.2.2.2.2.2.2.2.2.2
  have ho : s.vm.findClass (mNm M.2.2.2.2.2.1) = some m.cls := by rw [hn]; exact F.2.2.2.1
  obtain ⟨ix, hw⟩ := mMt_ok _ (mLk_mem hq)
  have hcd : mCode M2 ∈ lw_tbl := mMt_cd _ (mLk_mem hq)
  simp only [mMw, mYn, Bool.and_eq_true, decide_eq_true_eq] at hw
  obtain ⟨⟨⟨⟨⟨wi, wl⟩, w1⟩, ⟨⟨y1, y2⟩, y3⟩⟩, hh2⟩, hmL⟩ := hw
  have hsig : ∀ sig, parseMethodDescriptor M2.1.desc = some sig → n = sig.parameters.length := fun sig hs => by
    rw [hs] at y3
    exact (Option.some.inj y3).symm
  have hc9 : mCode M2 = .code M2.1 M2.2.1 M2.2.2.1 M2.2.2.2.1 := by simp only [mCode, hh2]
  have hws : ∀ w ∈ [mCode M2], ∀ (a' : Array Value) (U : State), s.WarmedH U.vm → w.before a' U = true := fun w hw a' U hU => by
    rw [List.mem_singleton] at hw
    subst hw
    exact mOk_keep hU (mCode_ok M2) (hE.word (a := args) hcd (mCode_ok M2))
  have hcw : Cond.code M2.1 M2.2.1 M2.2.2.1 M2.2.2.2.1 ∈ [mCode M2] := by rw [hc9]; exact List.mem_singleton.mpr rfl
  have hcb : (Cond.code M2.1 M2.2.1 M2.2.2.1 M2.2.2.2.1).before args s = true := by rw [← hc9]; exact hE.word hcd (mCode_ok M2)
  have hr1 : (mRm d2 M2).frames + 1 ≤ R.frames := by show 8 + d2 + 1 ≤ R.frames; omega
  have hr2 : 8 + (M2.2.2.1 + 11) + (mRm d2 M2).locals ≤ R.locals := by show 8 + (M2.2.2.1 + 11) + (200 + 48 * d2) ≤ R.locals; omega
  have hstk : (as.reverse ++ st).map (mV ad) = (as.map (mV ad)).reverse ++ st.map (mV ad) := by simp
  have hlen2 : (as.map (mV ad)).length = n := by rw [List.length_map]; exact hlen
  have hf : cells + M2.2.2.2.2.2.2.1 ≤ R.cells ∧ slots + M2.2.2.2.2.2.2.2 ≤ R.slots := ⟨by have := G.2.2.2.2.1; omega, by have := G.2.2.2.2.2; omega⟩
  have hrun := vx_runS (e := e) (below := below) (meth := meth) (locs := locs) (g := F0 m pc ls ((as.reverse ++ st).map (mV ad))) (As := as.map (mV ad)) (rest := st.map (mV ad)) (⟨F.1, F.2.1, F.2.2.1, ho, fun w h => by cases h⟩ : CallFix p m c M.2.1 M.2.2.1 s args [] (mNm M.2.2.2.2.2.1)) (hEv ad) ⟨⟨rfl, rfl, hr1, hr2, hws, hcw, hcb, hE.word (mIs_mem wi) rfl, ⟨y1, y2⟩, hsig, hE.word (mIs_mem wl) rfl⟩, hE.word (mIs_mem w1) rfl⟩ ⟨mPc_blind, mPc_pre hE G.2.1 G.1 (as := as)⟩ rfl hlen2 hl.1 hstk (lv_room (mCat hst)) hd hf
  exact mAfter F G hl hrun hmc hms hwf k1 (fun n1 h1 ad1 H1 locs1 q ce hQ1 G1 hce hcv hcl hl1 => mOut F hh (kx n1 h1 hQ1) G1 hce hcv hcl)
theorem wp_call3 {idx n d2 : Nat} {M2 : mM} {as : List Value} {Q2 : mO → mH → Prop} (hn : mNm M.2.2.2.2.2.1 = M.1.cls) (hd : decode M.2.1 pc = .ok (.invokestatic idx, 3)) (hq : mLk (mMt M.2.2.2.2.2.1) idx = some (3, n, M2)) (hlen : as.length = n) (hst : (st.map fun v => v.category).sum ≤ 8) (hd2 : d2 < d) (hmc : M2.2.2.2.2.2.2.1 ≤ bc) (hms : M2.2.2.2.2.2.2.2 ≤ bs) (hwf : mWfS h L st = true) (hEv : mEv X d2 M2 as h Q2) (k1 : ∀ (r : Option Value) (h1 : mH), Q2 (.inl r) h1 → mWP X M d Q (pc + 3) L (r.toList ++ st) h1 (bc - M2.2.2.2.2.2.2.1) (bs - M2.2.2.2.2.2.2.2)) (kx : ∀ (n1 : Nat) (h1 : mH), Q2 (.inr n1) h1 → False) : mWP X M d Q pc L (as.reverse ++ st) h bc bs := by
  intro p e R s m args below meth c H locs cells slots ad a0 n0 ls F G hl
  have hE := F.2.2.2.2.2.2.2.2.1
  have hR := F.2.2.2.2.2.2.2.2.2
  have ho : s.vm.findClass (mNm M.2.2.2.2.2.1) = some m.cls := by rw [hn]; exact F.2.2.2.1
  obtain ⟨ix, hw⟩ := mMt_ok _ (mLk_mem hq)
  have hcd : mCode M2 ∈ lw_tbl := mMt_cd _ (mLk_mem hq)
  simp only [mMw, mYn, Bool.and_eq_true, decide_eq_true_eq] at hw
  obtain ⟨⟨⟨⟨⟨wi, wl⟩, w1⟩, ⟨⟨y1, y2⟩, y3⟩⟩, hh2⟩, hmL⟩ := hw
  have hsig : ∀ sig, parseMethodDescriptor M2.1.desc = some sig → n = sig.parameters.length := fun sig hs => by
    rw [hs] at y3
    exact (Option.some.inj y3).symm
  have hc9 : mCode M2 = .code M2.1 M2.2.1 M2.2.2.1 M2.2.2.2.1 := by simp only [mCode, hh2]
  have hws : ∀ w ∈ [mCode M2], ∀ (a' : Array Value) (U : State), s.WarmedH U.vm → w.before a' U = true := fun w hw a' U hU => by
    rw [List.mem_singleton] at hw
    subst hw
    exact mOk_keep hU (mCode_ok M2) (hE.word (a := args) hcd (mCode_ok M2))
  have hcw : Cond.code M2.1 M2.2.1 M2.2.2.1 M2.2.2.2.1 ∈ [mCode M2] := by rw [hc9]; exact List.mem_singleton.mpr rfl
  have hcb : (Cond.code M2.1 M2.2.1 M2.2.2.1 M2.2.2.2.1).before args s = true := by rw [← hc9]; exact hE.word hcd (mCode_ok M2)
  have hr1 : (mRm d2 M2).frames + 1 ≤ R.frames := by show 8 + d2 + 1 ≤ R.frames; omega
  have hr2 : 8 + (M2.2.2.1 + 11) + (mRm d2 M2).locals ≤ R.locals := by show 8 + (M2.2.2.1 + 11) + (200 + 48 * d2) ≤ R.locals; omega
  have hstk : (as.reverse ++ st).map (mV ad) = (as.map (mV ad)).reverse ++ st.map (mV ad) := by simp
  have hlen2 : (as.map (mV ad)).length = n := by rw [List.length_map]; exact hlen
  have hf : cells + M2.2.2.2.2.2.2.1 ≤ R.cells ∧ slots + M2.2.2.2.2.2.2.2 ≤ R.slots := ⟨by have := G.2.2.2.2.1; omega, by have := G.2.2.2.2.2; omega⟩
  have hrun := va_runSN (e := e) (below := below) (meth := meth) (locs := locs) (g := F0 m pc ls ((as.reverse ++ st).map (mV ad))) (As := as.map (mV ad)) (rest := st.map (mV ad)) (host := "SugarDice") (⟨F.1, F.2.1, F.2.2.1, ho, fun w h => by cases h⟩ : CallFix p m c M.2.1 M.2.2.1 s args [] (mNm M.2.2.2.2.2.1)) (mMet hEv kx ad) ⟨⟨⟨rfl, rfl, hr1, hr2, hws, hcw⟩, hcb, hE.word (mIs_mem wi) rfl, ⟨y1, y2⟩, hsig, hE.word (mIs_mem wl) rfl⟩, hE.word (mIs_mem w1) rfl, trivial⟩ ⟨mPc_blind, mPc_pre hE G.2.1 G.1 (as := as)⟩ rfl hlen2 hl.1 hstk (lv_room (mCat hst)) hd hf
  exact mAfter F G hl (Q2 := Q2) (fun T hT Xs => Or.inl (hrun T hT Xs)) hmc hms hwf k1 (fun n1 h1 ad1 H1 locs1 q ce hQ1 G1 hce hcv hcl hl1 => (kx n1 h1 hQ1).elim)
theorem wp_call4 {idx n d2 : Nat} {k : Nat} {M2 : mM} {as : List Value} {Q2 : mO → mH → Prop} (hn : mNm M.2.2.2.2.2.1 = M.1.cls) (hd : decode M.2.1 pc = .ok (.invokespecial idx, 3)) (hq : mLk (mMt M.2.2.2.2.2.1) idx = some (4, n, M2)) (hlen : as.length = n) (hst : (st.map fun v => v.category).sum ≤ 8) (hd2 : d2 < d) (hmc : M2.2.2.2.2.2.2.1 ≤ bc) (hms : M2.2.2.2.2.2.2.2 ≤ bs) (hwf : mWfS h L st = true) (hEv : mEv X d2 M2 (.ref k :: as) h Q2) (k1 : ∀ (r : Option Value) (h1 : mH), Q2 (.inl r) h1 → mWP X M d Q (pc + 3) L (r.toList ++ st) h1 (bc - M2.2.2.2.2.2.2.1) (bs - M2.2.2.2.2.2.2.2)) (kx : ∀ (n1 : Nat) (h1 : mH), Q2 (.inr n1) h1 → False) : mWP X M d Q pc L (as.reverse ++ .ref k :: st) h bc bs := by
  intro p e R s m args below meth c H locs cells slots ad a0 n0 ls F G hl
  have hE := F.2.2.2.2.2.2.2.2.1
  have hR := F.2.2.2.2.2.2.2.2.2
  have ho : s.vm.findClass (mNm M.2.2.2.2.2.1) = some m.cls := by rw [hn]; exact F.2.2.2.1
  obtain ⟨ix, hw⟩ := mMt_ok _ (mLk_mem hq)
  have hcd : mCode M2 ∈ lw_tbl := mMt_cd _ (mLk_mem hq)
  simp only [mMw, mYn, Bool.and_eq_true, decide_eq_true_eq] at hw
  obtain ⟨⟨⟨⟨⟨⟨⟨wi, wl⟩, w1⟩, ⟨⟨y1, y2⟩, y3⟩⟩, hin⟩, hret⟩, hh2⟩, hmL⟩ := hw
  have hsig : ∀ sig, parseMethodDescriptor M2.1.desc = some sig → n = sig.parameters.length := fun sig hs => by
    rw [hs] at y3
    exact (Option.some.inj y3).symm
  have hc9 : mCode M2 = .code M2.1 M2.2.1 M2.2.2.1 M2.2.2.2.1 := by simp only [mCode, hh2]
  have hws : ∀ w ∈ [mCode M2], ∀ (a' : Array Value) (U : State), s.WarmedH U.vm → w.before a' U = true := fun w hw a' U hU => by
    rw [List.mem_singleton] at hw
    subst hw
    exact mOk_keep hU (mCode_ok M2) (hE.word (a := args) hcd (mCode_ok M2))
  have hcw : Cond.code M2.1 M2.2.1 M2.2.2.1 M2.2.2.2.1 ∈ [mCode M2] := by rw [hc9]; exact List.mem_singleton.mpr rfl
  have hcb : (Cond.code M2.1 M2.2.1 M2.2.2.1 M2.2.2.2.1).before args s = true := by rw [← hc9]; exact hE.word hcd (mCode_ok M2)
  have hr1 : (mRm d2 M2).frames + 1 ≤ R.frames := by show 8 + d2 + 1 ≤ R.frames; omega
  have hr2 : 8 + (M2.2.2.1 + 11) + (mRm d2 M2).locals ≤ R.locals := by show 8 + (M2.2.2.1 + 11) + (200 + 48 * d2) ≤ R.locals; omega
  have hstk : (as.reverse ++ .ref k :: st).map (mV ad) = (as.map (mV ad)).reverse ++ .ref (ad k) :: st.map (mV ad) := by simp [mV]
  have hlen2 : (as.map (mV ad)).length = n := by rw [List.length_map]; exact hlen
  have hf : cells + M2.2.2.2.2.2.2.1 ≤ R.cells ∧ slots + M2.2.2.2.2.2.2.2 ≤ R.slots := ⟨by have := G.2.2.2.2.1; omega, by have := G.2.2.2.2.2; omega⟩
  rw [hret] at hcw hcb
  have hrun := va_runI (e := e) (below := below) (meth := meth) (locs := locs) (g := F0 m pc ls ((as.reverse ++ .ref k :: st).map (mV ad))) (As := as.map (mV ad)) (rest := st.map (mV ad)) (b := ad k) (⟨F.1, F.2.1, F.2.2.1, ho, fun w h => by cases h⟩ : CallFix p m c M.2.1 M.2.2.1 s args [] (mNm M.2.2.2.2.2.1)) (mMet hEv kx ad) ⟨⟨rfl, rfl, hr1, hr2, hws, hcw, hcb, hE.word (mIs_mem wi) rfl, ⟨y1, y2⟩, hsig, hE.word (mIs_mem wl) rfl⟩, hin, hE.word (mIs_mem w1) rfl⟩ ⟨mPc_blind, mPc_pre hE G.2.1 G.1 (as := .ref k :: as)⟩ rfl hlen2 hl.1 hstk (lv_room (mCat hst)) hd hf
  exact mAfter F G hl (Q2 := Q2) (fun T hT Xs => Or.inl (hrun T hT Xs)) hmc hms hwf k1 (fun n1 h1 ad1 H1 locs1 q ce hQ1 G1 hce hcv hcl hl1 => (kx n1 h1 hQ1).elim)
theorem wp_call5 {idx n d2 : Nat} {k : Nat} {M2 : mM} {as : List Value} {Q2 : mO → mH → Prop} (hn : mNm M.2.2.2.2.2.1 = M.1.cls) (hd : decode M.2.1 pc = .ok (.invokespecial idx, 3)) (hq : mLk (mMt M.2.2.2.2.2.1) idx = some (5, n, M2)) (hlen : as.length = n) (hst : (st.map fun v => v.category).sum ≤ 8) (hd2 : d2 < d) (hmc : M2.2.2.2.2.2.2.1 ≤ bc) (hms : M2.2.2.2.2.2.2.2 ≤ bs) (hwf : mWfS h L st = true) (hEv : mEv X d2 M2 (.ref k :: as) h Q2) (k1 : ∀ (r : Option Value) (h1 : mH), Q2 (.inl r) h1 → mWP X M d Q (pc + 3) L (r.toList ++ st) h1 (bc - M2.2.2.2.2.2.2.1) (bs - M2.2.2.2.2.2.2.2)) (kx : ∀ (n1 : Nat) (h1 : mH), Q2 (.inr n1) h1 → False) : mWP X M d Q pc L (as.reverse ++ .ref k :: st) h bc bs := by
  intro p e R s m args below meth c H locs cells slots ad a0 n0 ls F G hl
  have hE := F.2.2.2.2.2.2.2.2.1
  have hR := F.2.2.2.2.2.2.2.2.2
  have ho : s.vm.findClass (mNm M.2.2.2.2.2.1) = some m.cls := by rw [hn]; exact F.2.2.2.1
  obtain ⟨ix, hw⟩ := mMt_ok _ (mLk_mem hq)
  have hcd : mCode M2 ∈ lw_tbl := mMt_cd _ (mLk_mem hq)
  simp only [mMw, mYn, Bool.and_eq_true, decide_eq_true_eq] at hw
  obtain ⟨⟨⟨⟨⟨⟨⟨wi, wl⟩, w1⟩, ⟨⟨y1, y2⟩, y3⟩⟩, hin⟩, hret⟩, hh2⟩, hmL⟩ := hw
  have hsig : ∀ sig, parseMethodDescriptor M2.1.desc = some sig → n = sig.parameters.length := fun sig hs => by
    rw [hs] at y3
    exact (Option.some.inj y3).symm
  have hc9 : mCode M2 = .code M2.1 M2.2.1 M2.2.2.1 M2.2.2.2.1 := by simp only [mCode, hh2]
  have hws : ∀ w ∈ [mCode M2], ∀ (a' : Array Value) (U : State), s.WarmedH U.vm → w.before a' U = true := fun w hw a' U hU => by
    rw [List.mem_singleton] at hw
    subst hw
    exact mOk_keep hU (mCode_ok M2) (hE.word (a := args) hcd (mCode_ok M2))
  have hcw : Cond.code M2.1 M2.2.1 M2.2.2.1 M2.2.2.2.1 ∈ [mCode M2] := by rw [hc9]; exact List.mem_singleton.mpr rfl
  have hcb : (Cond.code M2.1 M2.2.1 M2.2.2.1 M2.2.2.2.1).before args s = true := by rw [← hc9]; exact hE.word hcd (mCode_ok M2)
  have hr1 : (mRm d2 M2).frames + 1 ≤ R.frames := by show 8 + d2 + 1 ≤ R.frames; omega
  have hr2 : 8 + (M2.2.2.1 + 11) + (mRm d2 M2).locals ≤ R.locals := by show 8 + (M2.2.2.1 + 11) + (200 + 48 * d2) ≤ R.locals; omega
  have hstk : (as.reverse ++ .ref k :: st).map (mV ad) = (as.map (mV ad)).reverse ++ .ref (ad k) :: st.map (mV ad) := by simp [mV]
  have hlen2 : (as.map (mV ad)).length = n := by rw [List.length_map]; exact hlen
  have hf : cells + M2.2.2.2.2.2.2.1 ≤ R.cells ∧ slots + M2.2.2.2.2.2.2.2 ≤ R.slots := ⟨by have := G.2.2.2.2.1; omega, by have := G.2.2.2.2.2; omega⟩
  rw [hret] at hcw hcb
  have hrun := va_runIN (e := e) (below := below) (meth := meth) (locs := locs) (g := F0 m pc ls ((as.reverse ++ .ref k :: st).map (mV ad))) (As := as.map (mV ad)) (rest := st.map (mV ad)) (b := ad k) (host := "SugarDice") (⟨F.1, F.2.1, F.2.2.1, ho, fun w h => by cases h⟩ : CallFix p m c M.2.1 M.2.2.1 s args [] (mNm M.2.2.2.2.2.1)) (mMet hEv kx ad) ⟨⟨⟨rfl, rfl, hr1, hr2, hws, hcw⟩, hcb, hE.word (mIs_mem wi) rfl, ⟨y1, y2⟩, hsig, hE.word (mIs_mem wl) rfl⟩, hin, hE.word (mIs_mem w1) rfl⟩ ⟨mPc_blind, mPc_pre hE G.2.1 G.1 (as := .ref k :: as)⟩ rfl hlen2 hl.1 hstk (lv_room (mCat hst)) hd hf
  exact mAfter F G hl (Q2 := Q2) (fun T hT Xs => Or.inl (hrun T hT Xs)) hmc hms hwf k1 (fun n1 h1 ad1 H1 locs1 q ce hQ1 G1 hce hcv hcl hl1 => (kx n1 h1 hQ1).elim)
theorem wp_call8 {idx n d2 : Nat} {M2 : mM} {as : List Value} {Q2 : mO → mH → Prop} (hn : mNm M.2.2.2.2.2.1 = M.1.cls) (hd : decode M.2.1 pc = .ok (.invokestatic idx, 3)) (hq : mLk (mMt M.2.2.2.2.2.1) idx = some (8, n, M2)) (hlen : as.length = n) (hst : (st.map fun v => v.category).sum ≤ 8) (hd2 : d2 < d) (hmc : M2.2.2.2.2.2.2.1 ≤ bc) (hms : M2.2.2.2.2.2.2.2 ≤ bs) (hwf : mWfS h L st = true) (hEv : mEv X d2 M2 as h Q2) (k1 : ∀ (r : Option Value) (h1 : mH), Q2 (.inl r) h1 → mWP X M d Q (pc + 3) L (r.toList ++ st) h1 (bc - M2.2.2.2.2.2.2.1) (bs - M2.2.2.2.2.2.2.2)) (kx : ∀ (n1 : Nat) (h1 : mH), Q2 (.inr n1) h1 → False) : mWP X M d Q pc L (as.reverse ++ st) h bc bs := by
  intro p e R s m args below meth c H locs cells slots ad a0 n0 ls F G hl
  have hE := F.2.2.2.2.2.2.2.2.1
  have hR := F.2.2.2.2.2.2.2.2.2
  have ho : s.vm.findClass (mNm M.2.2.2.2.2.1) = some m.cls := by rw [hn]; exact F.2.2.2.1
  obtain ⟨ix, hw⟩ := mMt_ok _ (mLk_mem hq)
  have hcd : mCode M2 ∈ lw_tbl := mMt_cd _ (mLk_mem hq)
  simp only [mMw, mYn, Bool.and_eq_true, decide_eq_true_eq] at hw
  obtain ⟨⟨⟨⟨⟨wi, wl⟩, w1⟩, ⟨⟨y1, y2⟩, y3⟩⟩, hh2⟩, hmL⟩ := hw
  have hsig : ∀ sig, parseMethodDescriptor M2.1.desc = some sig → n = sig.parameters.length := fun sig hs => by
    rw [hs] at y3
    exact (Option.some.inj y3).symm
  have hc9 : mCode M2 = .codeWith M2.1 M2.2.1 M2.2.2.1 M2.2.2.2.1 M2.2.2.2.2.1 := by
    simp only [mCode]
  have hws : ∀ w ∈ [mCode M2], ∀ (a' : Array Value) (U : State), s.WarmedH U.vm → w.before a' U = true := fun w hw a' U hU => by
    rw [List.mem_singleton] at hw
    subst hw
    exact mOk_keep hU (mCode_ok M2) (hE.word (a := args) hcd (mCode_ok M2))
  have hcw : Cond.codeWith M2.1 M2.2.1 M2.2.2.1 M2.2.2.2.1 M2.2.2.2.2.1 ∈ [mCode M2] := by rw [hc9]; exact List.mem_singleton.mpr rfl
  have hcb : (Cond.codeWith M2.1 M2.2.1 M2.2.2.1 M2.2.2.2.1 M2.2.2.2.2.1).before args s = true := by rw [← hc9]; exact hE.word hcd (mCode_ok M2)
  have hr1 : (mRm d2 M2).frames + 1 ≤ R.frames := by show 8 + d2 + 1 ≤ R.frames; omega
  have hr2 : 8 + (M2.2.2.1 + 11) + (mRm d2 M2).locals ≤ R.locals := by show 8 + (M2.2.2.1 + 11) + (200 + 48 * d2) ≤ R.locals; omega
  have hstk : (as.reverse ++ st).map (mV ad) = (as.map (mV ad)).reverse ++ st.map (mV ad) := by simp
  have hlen2 : (as.map (mV ad)).length = n := by rw [List.length_map]; exact hlen
  have hf : cells + M2.2.2.2.2.2.2.1 ≤ R.cells ∧ slots + M2.2.2.2.2.2.2.2 ≤ R.slots := ⟨by have := G.2.2.2.2.1; omega, by have := G.2.2.2.2.2; omega⟩
  have hrun := vx_runSW (e := e) (below := below) (meth := meth) (locs := locs) (g := F0 m pc ls ((as.reverse ++ st).map (mV ad))) (As := as.map (mV ad)) (rest := st.map (mV ad)) (hh := M2.2.2.2.2.1) (⟨F.1, F.2.1, F.2.2.1, ho, fun w h => by cases h⟩ : CallFix p m c M.2.1 M.2.2.1 s args [] (mNm M.2.2.2.2.2.1)) (mMet hEv kx ad) ⟨⟨rfl, rfl, hr1, hr2, hws, hcw⟩, hcb, hE.word (mIs_mem wi) rfl, ⟨y1, y2⟩, hsig, hE.word (mIs_mem wl) rfl, hE.word (mIs_mem w1) rfl⟩ ⟨mPc_blind, mPc_pre hE G.2.1 G.1 (as := as)⟩ rfl hlen2 hl.1 hstk (lv_room (mCat hst)) hd hf
  exact mAfter F G hl (Q2 := Q2) (fun T hT Xs => Or.inl (hrun T hT Xs)) hmc hms hwf k1 (fun n1 h1 ad1 H1 locs1 q ce hQ1 G1 hce hcv hcl hl1 => (kx n1 h1 hQ1).elim)
/-- a call in a method with handlers: what comes back, or what the handler answers -/
theorem wp_callC {idx n d2 : Nat} {k : Nat} {fs : List Value} {M2 : mM} {as : List Value} {Q2 : mO → mH → Prop} (hn : mNm M.2.2.2.2.2.1 = M.1.cls) (hL : M.1.cls = RL) (hrt : M.2.2.2.1 = some .int) (hd : decode M.2.1 pc = .ok (.invokevirtual idx, 3)) (hq : mLk (mMt M.2.2.2.2.2.1) idx = some (0, n, M2)) (hlen : as.length = n) (hrec : h[k]? = some (.inr (M2.2.2.2.2.2.1, fs))) (hst : (st.map fun v => v.category).sum ≤ 8) (hd2 : d2 < d) (hmc : M2.2.2.2.2.2.2.1 ≤ bc) (hms : M2.2.2.2.2.2.2.2 ≤ bs) (hwf : mWfS h L st = true) (hEv : mEv X d2 M2 (.ref k :: as) h Q2) (k1 : ∀ (r : Option Value) (h1 : mH), Q2 (.inl r) h1 → mWP X M d Q (pc + 3) L (r.toList ++ st) h1 (bc - M2.2.2.2.2.2.2.1) (bs - M2.2.2.2.2.2.2.2))
    (kx : ∀ (n1 : Nat) (h1 : mH), Q2 (.inr n1) h1 → n1 < 4 ∧ ∃ (hp j : Nat) (v : Int), mHd pc n1 M.2.2.2.2.1 = some hp ∧ ((decode M.2.1 hp = .ok (.astore j, 2) ∧ decode M.2.1 (hp + 2) = .ok (.iconst v, 1) ∧ decode M.2.1 (hp + 3) = .ok (.ireturn, 1)) ∨ (∃ i : Fin 4, (i : Nat) = j ∧ decode M.2.1 hp = .ok (.astore_n i, 1) ∧ decode M.2.1 (hp + 1) = .ok (.iconst v, 1) ∧ decode M.2.1 (hp + 2) = .ok (.ireturn, 1))) ∧ j < M.2.2.1 ∧ Q (.inl (some (.int (Int32.ofInt v)))) h1) : mWP X M d Q pc L (as.reverse ++ .ref k :: st) h bc bs := by
  intro p e R s m args below meth c H locs cells slots ad a0 n0 ls F G hl
  have hE := F.2.2.2.2.2.2.2.2.1
  have hR := F.2.2.2.2.2.2.2.2.2
  have ho : s.vm.findClass (mNm M.2.2.2.2.2.1) = some m.cls := by rw [hn]; exact F.2.2.2.1
  obtain ⟨ix, hw⟩ := mMt_ok _ (mLk_mem hq)
  have hcd : mCode M2 ∈ lw_tbl := mMt_cd _ (mLk_mem hq)
  simp only [mMw, mYn, Bool.and_eq_true, decide_eq_true_eq] at hw
  obtain ⟨⟨⟨⟨⟨⟨⟨wi, wl⟩, w1⟩, w2⟩, ⟨⟨y1, y2⟩, y3⟩⟩, hC⟩, hh2⟩, hmL⟩ := hw
  have hsig : ∀ sig, parseMethodDescriptor M2.1.desc = some sig → n = sig.parameters.length := fun sig hs => by
    rw [hs] at y3
    exact (Option.some.inj y3).symm
  have hc9 : mCode M2 = .code M2.1 M2.2.1 M2.2.2.1 M2.2.2.2.1 := by simp only [mCode, hh2]
  have hws : ∀ w ∈ [mCode M2], ∀ (a' : Array Value) (U : State), s.WarmedH U.vm → w.before a' U = true := fun w hw a' U hU => by
    rw [List.mem_singleton] at hw
    subst hw
    exact mOk_keep hU (mCode_ok M2) (hE.word (a := args) hcd (mCode_ok M2))
  have hcw : Cond.code M2.1 M2.2.1 M2.2.2.1 M2.2.2.2.1 ∈ [mCode M2] := by rw [hc9]; exact List.mem_singleton.mpr rfl
  have hcb : (Cond.code M2.1 M2.2.1 M2.2.2.1 M2.2.2.2.1).before args s = true := by rw [← hc9]; exact hE.word hcd (mCode_ok M2)
  have hr1 : (mRm d2 M2).frames + 1 ≤ R.frames := by show 8 + d2 + 1 ≤ R.frames; omega
  have hr2 : 8 + (M2.2.2.1 + 11) + (mRm d2 M2).locals ≤ R.locals := by show 8 + (M2.2.2.1 + 11) + (200 + 48 * d2) ≤ R.locals; omega
  have hstk : (as.reverse ++ .ref k :: st).map (mV ad) = (as.map (mV ad)).reverse ++ .ref (ad k) :: st.map (mV ad) := by simp [mV]
  have hlen2 : (as.map (mV ad)).length = n := by rw [List.length_map]; exact hlen
  have hf : cells + M2.2.2.2.2.2.2.1 ≤ R.cells ∧ slots + M2.2.2.2.2.2.2.2 ≤ R.slots := ⟨by have := G.2.2.2.2.1; omega, by have := G.2.2.2.2.2; omega⟩
  have hrun := vx_runV (e := e) (below := below) (meth := meth) (locs := locs) (g := F0 m pc ls ((as.reverse ++ .ref k :: st).map (mV ad))) (As := as.map (mV ad)) (rest := st.map (mV ad)) (b := ad k) (C := M2.1.cls) (⟨F.1, F.2.1, F.2.2.1, ho, fun w h => by cases h⟩ : CallFix p m c M.2.1 M.2.2.1 s args [] (mNm M.2.2.2.2.2.1)) (hEv ad) ⟨⟨rfl, rfl, hr1, hr2, hws, hcw, hcb, hE.word (mIs_mem wi) rfl, ⟨y1, y2⟩, hsig, hE.word (mIs_mem wl) rfl⟩, hE.word (mIs_mem w1) rfl, hE.word (mIs_mem w2) rfl⟩ ⟨mPc_blind, mRecv hE G.1 hrec hC, mPc_pre hE G.2.1 G.1 (as := .ref k :: as)⟩ rfl hlen2 hl.1 hstk (lv_room (mCat hst)) hd hf
  exact mAfter F G hl hrun hmc hms hwf k1 (fun n1 h1 ad1 H1 locs1 q ce hQ1 G1 hce hcv hcl hl1 => by
    obtain ⟨hn1, hp, j, v, e1, e2, e3, e4⟩ := kx n1 h1 hQ1
    exact mCatch F hL hn1 e1 e2 e3 hrt e4 G1 hl1 hce hcv hcl)
theorem wp_mmin {idx : Nat} {x y : Int32} (hn : mNm M.2.2.2.2.2.1 = M.1.cls) (hd : decode M.2.1 pc = .ok (.invokestatic idx, 3)) (hw : Cond.methodLink (mNm M.2.2.2.2.2.1) idx Lib.Math.min.name ∈ lw_tbl) (hst : (st.map fun v => v.category).sum ≤ 8) (kk : mWP X M d Q (pc + 3) L (.int (if y < x then y else x) :: st) h bc bs) : mWP X M d Q pc L (.int y :: .int x :: st) h bc bs := by
  intro p e R s m args below meth c H locs cells slots ad a0 n0 ls F G hl
  have hE := F.2.2.2.2.2.2.2.2.1
  have hR := F.2.2.2.2.2.2.2.2.2
  have hc8 := mCat (ad := ad) hst
  have g5 := G.2.2.2.2.1
  have g6 := G.2.2.2.2.2
  exact va_mmin F.1 F.2.1 (by rw [F.2.2.1]; exact hl.1.symm) (by rw [hn]; exact F.2.2.2.1) (hE.word hw rfl) (hE.word (by decide +kernel) rfl) (hE.word (by decide +kernel) rfl) (hE.word (by decide +kernel) rfl) (by omega) (by omega) (by omega) (by omega) hd (kk p e R s m args below meth c H locs cells slots ad a0 n0 ls F G hl)
theorem wp_mmax {idx : Nat} {x y : Int32} (hn : mNm M.2.2.2.2.2.1 = M.1.cls) (hd : decode M.2.1 pc = .ok (.invokestatic idx, 3)) (hw : Cond.methodLink (mNm M.2.2.2.2.2.1) idx Lib.Math.max.name ∈ lw_tbl) (hst : (st.map fun v => v.category).sum ≤ 8) (kk : mWP X M d Q (pc + 3) L (.int (if x < y then y else x) :: st) h bc bs) : mWP X M d Q pc L (.int y :: .int x :: st) h bc bs := by
  intro p e R s m args below meth c H locs cells slots ad a0 n0 ls F G hl
  have hE := F.2.2.2.2.2.2.2.2.1
  have hR := F.2.2.2.2.2.2.2.2.2
  have hc8 := mCat (ad := ad) hst
  have g5 := G.2.2.2.2.1
  have g6 := G.2.2.2.2.2
  exact va_mmax F.1 F.2.1 (by rw [F.2.2.1]; exact hl.1.symm) (by rw [hn]; exact F.2.2.2.1) (hE.word hw rfl) (hE.word (by decide +kernel) rfl) (hE.word (by decide +kernel) rfl) (hE.word (by decide +kernel) rfl) (by omega) (by omega) (by omega) (by omega) hd (kk p e R s m args below meth c H locs cells slots ad a0 n0 ls F G hl)
theorem wp_mabs {idx : Nat} {x : Int32} (hn : mNm M.2.2.2.2.2.1 = M.1.cls) (hd : decode M.2.1 pc = .ok (.invokestatic idx, 3)) (hw : Cond.methodLink (mNm M.2.2.2.2.2.1) idx Lib.Math.abs.name ∈ lw_tbl) (hst : (st.map fun v => v.category).sum ≤ 8) (kk : mWP X M d Q (pc + 3) L (.int (if 0 ≤ x then x else 0 - x) :: st) h bc bs) : mWP X M d Q pc L (.int x :: st) h bc bs := by
  intro p e R s m args below meth c H locs cells slots ad a0 n0 ls F G hl
  have hE := F.2.2.2.2.2.2.2.2.1
  have hR := F.2.2.2.2.2.2.2.2.2
  have hc8 := mCat (ad := ad) hst
  have g5 := G.2.2.2.2.1
  have g6 := G.2.2.2.2.2
  exact va_mabs F.1 F.2.1 (by rw [F.2.2.1]; exact hl.1.symm) (by rw [hn]; exact F.2.2.2.1) (hE.word hw rfl) (hE.word (by decide +kernel) rfl) (hE.word (by decide +kernel) rfl) (hE.word (by decide +kernel) rfl) (by omega) (by omega) (by omega) (by omega) hd (kk p e R s m args below meth c H locs cells slots ad a0 n0 ls F G hl)
theorem wp_mmaxl {idx : Nat} {x y : Int64} (hn : mNm M.2.2.2.2.2.1 = M.1.cls) (hd : decode M.2.1 pc = .ok (.invokestatic idx, 3)) (hw : Cond.methodLink (mNm M.2.2.2.2.2.1) idx Lib.MathLoose.max_long.x ∈ lw_tbl) (hst : (st.map fun v => v.category).sum ≤ 8) (kk : mWP X M d Q (pc + 3) L (.long (if y < x then x else y) :: st) h bc bs) : mWP X M d Q pc L (.long y :: .long x :: st) h bc bs := by
  intro p e R s m args below meth c H locs cells slots ad a0 n0 ls F G hl
  have hE := F.2.2.2.2.2.2.2.2.1
  have hR := F.2.2.2.2.2.2.2.2.2
  have hc8 := mCat (ad := ad) hst
  have g5 := G.2.2.2.2.1
  have g6 := G.2.2.2.2.2
  exact va_mmax_long F.1 F.2.1 (by rw [F.2.2.1]; exact hl.1.symm) (by rw [hn]; exact F.2.2.2.1) (hE.word hw rfl) (hE.word (by decide +kernel) rfl) (hE.word (by decide +kernel) rfl) (hE.word (by decide +kernel) rfl) (by omega) (by omega) (by omega) (by omega) hd (kk p e R s m args below meth c H locs cells slots ad a0 n0 ls F G hl)
end mCa
