/-! rows for calls -/
section mCl
variable {X : mX} {M : mM} {d : Nat} {Q : mO → mH → Prop} {pc : Nat} {L : List (Option Value)} {st : List Value} {h : mH} {bc bs : Nat}
theorem wp_newq {t ci idx : Nat} {C : String} {n : Int32} (hn : mNm M.2.2.2.2.2.1 = M.1.cls) (hd : decode M.2.1 pc = .ok (.anewarray idx, 3)) (ht : (t = 4 ∧ C = "SugarDice$Tray") ∨ (t = 5 ∧ C = "SugarDice$Game")) (hw1 : Cond.classLink (mNm M.2.2.2.2.2.1) idx C ∈ lw_tbl) (h1 : ¬ n < 0) (h2 : n.toNatClampNeg ≤ 100000) (hb1 : 1 ≤ bc) (hb2 : n.toNatClampNeg ≤ bs) (hz : h.length < mSB) (hs : mStab h L st)
    (kk : mWP X M d Q (pc + 3) L (.ref h.length :: st) (h ++ [.inl (t, n.toNatClampNeg, .inr (.inr (.inr (.inr (fun _ => none)))))]) (bc - 1) (bs - n.toNatClampNeg)) : mWP X M d Q pc L (.int n :: st) h bc bs := by
  intro p e R s m args below meth c H locs cells slots ad a0 n0 ls F G hl
  have hE := F.2.2.2.2.2.2.2.2.1
  have ho : s.vm.findClass (mNm M.2.2.2.2.2.1) = some m.cls := by rw [hn]; exact F.2.2.2.1
  have hAO : va_AO C s := by
    rcases ht with ⟨-, rfl⟩ | ⟨-, rfl⟩
    · exact hE.2.2.2.2.2.2.2.2.1
    · exact hE.2.2.2.2.2.2.2.2.2.1
  have t2 : (mT X.2.2.1)[t]? = some (X.2.2.1 t, .object C) := by
    rcases ht with ⟨rfl, rfl⟩ | ⟨rfl, rfl⟩ <;> rfl
  refine va_newq (D := X.2.1) (cl := vwCl) (tys := mT X.2.2.1) (C := C) F.1 F.2.1 ho (hE.word hw1 rfl) hAO hE.2.1 G.1.1 G.1.2.1 G.2.1 (fun q hq => Nat.le_trans hE.2.2.2.2.2.2.2.2.2.2.1 hq) h1 rfl (by omega) (by have := G.2.2.2.2.1; omega) (by have := G.2.2.2.2.2; omega) hd (fun q cA H1 hK1 g1 g2 g3 => ?_)
  have hcA : cA = X.2.2.1 t := by
    obtain ⟨kA, comp, -, -, -, q1⟩ := (hE.2.1.2 t _ t2).2
    obtain ⟨kA2, comp2, -, -, -, q2⟩ := (hK1.2 (mT X.2.2.1).length (cA, .object C) (by simp)).2
    exact Option.some.inj (q2.symm.trans q1)
  subst hcA
  have k1 := kk p e R s m args below meth c H1 locs (cells + 1) (slots + n.toNatClampNeg) (mUp ad h.length q) a0 n0 ls F (G.grow (e := .inl (t, n.toNatClampNeg, .inr (.inr (.inr (.inr (fun _ => none)))))) hz hs.1 (fun i hi => by cases hi) g1 g2 g3 hb1 hb2) (hl.up hs.2.1)
  rw [List.map_cons, mSt_up hs.2.2] at k1
  simp only [mV, mUp_n] at k1
  exact k1
theorem wp_obj {idx k : Nat} (hn : mNm M.2.2.2.2.2.1 = M.1.cls) (hd : decode M.2.1 pc = .ok (.invokespecial idx, 3)) (hw : Cond.methodLink (mNm M.2.2.2.2.2.1) idx Lib.objectInit ∈ lw_tbl) (hst : (st.map fun v => v.category).sum ≤ 8) (kk : mWP X M d Q (pc + 3) L st h bc bs) : mWP X M d Q pc L (.ref k :: st) h bc bs := by
  intro p e R s m args below meth c H locs cells slots ad a0 n0 ls F G hl
  have hE := F.2.2.2.2.2.2.2.2.1
  have hR := F.2.2.2.2.2.2.2.2.2
  have ho : s.vm.findClass (mNm M.2.2.2.2.2.1) = some m.cls := by rw [hn]; exact F.2.2.2.1
  have hst' : ((st.map (mV ad)).map fun v => v.category).sum ≤ 8 := by
    rw [List.map_map]
    simpa [Function.comp_def, mV_cat] using hst
  refine W.objInit F.1 F.2.1 ho (hE.word hw rfl) (hE.word (by decide +kernel) rfl) (hE.word (by decide +kernel) rfl) rfl (by rw [F.2.2.1]; exact hl.1) rfl hd (by omega) ?_ (kk p e R s m args below meth c H locs cells slots ad a0 n0 ls F G hl)
  have := lv_room (m := m) (pc := pc) (ls := ls) (rest := (.ref (ad k) :: st.map (mV ad))) hst'
  show 2 * (F0 m pc ls (.ref (ad k) :: st.map (mV ad))).monitorRoom + ((st.map (mV ad)).map fun v => v.category).sum + 12 ≤ R.locals
  omega
/-- the exceptions that are thrown: the class's link, its constructor's link -/
def mXok (ik n ic : Nat) : Prop := Bundle.fit (mEx n) = true ∧ Cond.classLink RX9 ik (mEx n) ∈ lw_tbl ∧ Cond.initialized (mEx n) ∈ lw_tbl ∧ (∀ w ∈ vx_atS RX9 ic (mEx n) ["java/lang/RuntimeException", "java/lang/Exception"], w ∈ lw_tbl ∧ mOk w = true) ∧ (∀ w ∈ Cond.classLink RX9 ik (mEx n) :: Cond.initialized (mEx n) :: vx_atS RX9 ic (mEx n) ["java/lang/RuntimeException", "java/lang/Exception"], vx_ot w = true)
theorem mX_0 : mXok 92 0 96 := ⟨by decide +kernel, by decide +kernel, by decide +kernel, by decide +kernel, by decide +kernel⟩
def mXns (ik ic : Nat) : Prop := Cond.classLink RX9 ik ns_X ∈ lw_tbl ∧ Cond.initialized ns_X ∈ lw_tbl ∧ (∀ w ∈ ns_at RX9 ic, w ∈ lw_tbl ∧ mOk w = true) ∧ (∀ w ∈ Cond.classLink RX9 ik ns_X :: Cond.initialized ns_X :: ns_at RX9 ic, vx_ot w = true)
theorem mX_1 : mXns 193 197 := ⟨by decide +kernel, by decide +kernel, by decide +kernel, by decide +kernel⟩
theorem mX_2 : mXok 180 2 184 := ⟨by decide +kernel, by decide +kernel, by decide +kernel, by decide +kernel, by decide +kernel⟩
theorem mX_3 : mXok 394 3 398 := ⟨by decide +kernel, by decide +kernel, by decide +kernel, by decide +kernel, by decide +kernel⟩
theorem mXt_ok {ik n ic : Nat} (h : (ik, n, ic) ∈ mXt 9) : mXok ik n ic ∨ (n = 1 ∧ mXns ik ic) := by
  simp only [mXt, mXt9, List.mem_cons, Prod.mk.injEq, List.not_mem_nil, or_false] at h
  rcases h with ⟨rfl, rfl, rfl⟩ | ⟨rfl, rfl, rfl⟩ | ⟨rfl, rfl, rfl⟩ | ⟨rfl, rfl, rfl⟩
  · exact Or.inl mX_0
  · exact Or.inl mX_2
  · exact Or.inr ⟨rfl, mX_1⟩
  · exact Or.inl mX_3
theorem mSt_ok : ∀ q ∈ mSt 9, (RX9, q) ∈ mStr := by decide +kernel
theorem mThrown {s t : State} {H : Heap} {locs : List Loc} {ad a0 : Nat → Nat} {n0 : Nat} (hS : va_S (mB X) s.heap H locs) (hW : mWd X ad h H) (hz : H.size ≤ t.heap.size) (hq : ∀ q : Nat, q < H.size → t.heap[q]? = H[q]?) : mWd X ad h t.heap ∧ va_F (mB X) s t := by
  refine ⟨⟨hW.1.kept (fun k q hk => hq _ ((hW.1 k q hk).lt)), hW.2⟩, Nat.le_trans hS.1 hz, fun q h1 h2 => ?_⟩
  rw [hq q (Nat.lt_of_lt_of_le h1 hS.1)]
  exact hS.2.1 q h1 h2
theorem wp_throw {ik n ic is sn : Nat} {tx : String} (h9 : M.2.2.2.2.2.1 = 9) (hn : mNm M.2.2.2.2.2.1 = M.1.cls) (hh : M.2.2.2.2.1 = []) (hx : mLk (mXt 9) ik = some (n, ic)) (hs : mLk (mSt 9) is = some (tx, sn)) (hb1 : 1 ≤ bc) (hb2 : 6 ≤ bs) (hst : (st.map fun v => v.category).sum ≤ 8)
    (d0 : decode M.2.1 pc = .ok (.new ik, 3)) (d3 : decode M.2.1 (pc + 3) = .ok (.dup, 1)) (d4 : (decode M.2.1 (pc + 4) = .ok (.ldc is, 2) ∧ decode M.2.1 (pc + 6) = .ok (.invokespecial ic, 3) ∧ decode M.2.1 (pc + 9) = .ok (.athrow, 1)) ∨ (decode M.2.1 (pc + 4) = .ok (.ldc_w is, 3) ∧ decode M.2.1 (pc + 7) = .ok (.invokespecial ic, 3) ∧ decode M.2.1 (pc + 10) = .ok (.athrow, 1)))
    (hQ : Q (.inr n) h) : mWP X M d Q pc L st h bc bs := by
  intro p e R s m args below meth c H locs cells slots ad a0 n0 ls F G hl
  have hE := F.2.2.2.2.2.2.2.2.1
  have hR := F.2.2.2.2.2.2.2.2.2
  have hr9 : mNm M.2.2.2.2.2.1 = RX9 := by rw [h9]; rfl
  have ho : s.vm.findClass RX9 = some m.cls := by rw [← hr9, hn]; exact F.2.2.2.1
  have hstr : vk_R RX9 is tx (X.2.2.2.2.1 sn) s := hE.2.2.2.2.1 _ (mSt_ok _ (mLk_mem hs))
  have hst' : ((st.map (mV ad)).map fun v => v.category).sum ≤ 8 := by
    rw [List.map_map]
    simpa [Function.comp_def, mV_cat] using hst
  have hex : ∀ x ∈ c.exceptionTable.toList, False := by
    rw [F.2.2.2.2.2.2.1, hh]
    intro x hx
    cases hx
  have hG := G
  obtain ⟨g1, g2, g3, g4, g5, g6⟩ := hG
  have hxc : ∀ t : State, s.vm.Alike t.vm → H.size ≤ t.heap.size → (∀ q : Nat, q < H.size → t.heap[q]? = H[q]?) → mXC X a0 n0 Q (mEx n) s t := fun t _ hz hq => by
    obtain ⟨q1, q2⟩ := mThrown (a0 := a0) (n0 := n0) g2 g1 hz hq
    exact ⟨n, ad, h, rfl, hQ, q1, g3, g4, q2⟩
  rcases mXt_ok (mLk_mem hx) with ⟨x1, x2, x3, x4, x5⟩ | ⟨rfl, x2, x3, x4, x5⟩
  · rcases d4 with ⟨d4, d6, d9⟩ | ⟨d4, d6, d9⟩
    · exact vx_throwS (A := mB X) (mc := R.cells) (ms := R.slots) F.1 F.2.1 hE.2.2.2.2.2.2.2.2.2.2.2.1 ho x1 (by decide) (hE.word x2 rfl) (hE.word x3 rfl) hstr (fun w hw => hE.word (x4 w hw).1 (x4 w hw).2) x5 hE.2.2.1 hE.2.2.2.1 g2 (by rw [F.2.2.1]; exact hl.1) d0 d3 d4 d6 d9 (fun x hx => (hex x hx).elim) (by show 2 + 3 < R.frames; omega) (by show _ + (13 * 3 + 43) ≤ _; omega) (by omega) (by omega) F.2.2.2.2.2.1 hxc g2.2.2 (by omega) (by omega)
    · exact vx_throwSW (A := mB X) (mc := R.cells) (ms := R.slots) F.1 F.2.1 hE.2.2.2.2.2.2.2.2.2.2.2.1 ho x1 (by decide) (hE.word x2 rfl) (hE.word x3 rfl) hstr (fun w hw => hE.word (x4 w hw).1 (x4 w hw).2) x5 hE.2.2.1 hE.2.2.2.1 g2 (by rw [F.2.2.1]; exact hl.1) d0 d3 d4 d6 d9 (fun x hx => (hex x hx).elim) (by show 2 + 3 < R.frames; omega) (by show _ + (13 * 3 + 43) ≤ _; omega) (by omega) (by omega) F.2.2.2.2.2.1 hxc g2.2.2 (by omega) (by omega)
  · rcases d4 with ⟨d4, d6, d9⟩ | ⟨d4, d6, d9⟩
    · exact ns_throwS (A := mB X) (mc := R.cells) (ms := R.slots) F.1 F.2.1 hE.2.2.2.2.2.2.2.2.2.2.2.1 ho (hE.word x2 rfl) (hE.word x3 rfl) hstr (fun w hw => hE.word (x4 w hw).1 (x4 w hw).2) x5 hE.2.2.1 hE.2.2.2.1 g2 (by rw [F.2.2.1]; exact hl.1) d0 d3 d4 d6 d9 (fun x hx => (hex x hx).elim) (by show 2 + 3 < R.frames; omega) (by show _ + (13 * 3 + 43) ≤ _; omega) (by omega) (by omega) F.2.2.2.2.2.1 hxc g2.2.2 (by omega) (by omega)
    · exact ns_throwSW (A := mB X) (mc := R.cells) (ms := R.slots) F.1 F.2.1 hE.2.2.2.2.2.2.2.2.2.2.2.1 ho (hE.word x2 rfl) (hE.word x3 rfl) hstr (fun w hw => hE.word (x4 w hw).1 (x4 w hw).2) x5 hE.2.2.1 hE.2.2.2.1 g2 (by rw [F.2.2.1]; exact hl.1) d0 d3 d4 d6 d9 (fun x hx => (hex x hx).elim) (by show 2 + 3 < R.frames; omega) (by show _ + (13 * 3 + 43) ≤ _; omega) (by omega) (by omega) F.2.2.2.2.2.1 hxc g2.2.2 (by omega) (by omega)
end mCl
