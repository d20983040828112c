/-! behind a call -/
def mWfV (h : mH) (v : Value) : Bool := match v with
  | .ref k => (h[k]?).isSome || Nat.ble mSB k
  | _ => true
def mWfS (h : mH) (L : List (Option Value)) (st : List Value) : Bool := L.all (fun o => match o with
  | some v => mWfV h v
  | none => true) && st.all (mWfV h)
section mAf
variable {X : mX} {M : mM} {d : Nat} {Q : mO → mH → Prop} {pc : Nat} {L : List (Option Value)} {st : List Value} {h : mH} {bc bs : Nat}
theorem mWfV.same {h1 : mH} {H H1 : Heap} {ad ad1 : Nat → Nat} {v : Value} (hv : mWfV h v = true) (hW : mWd X ad h H) (hW1 : mWd X ad1 h1 H1) (hag : ∀ k, k < h.length → ad1 k = ad k) : mV ad1 v = mV ad v := by
  cases v with
  | ref k =>
    simp only [mWfV, Bool.or_eq_true] at hv
    rcases hv with hv | hv
    · have hk : k < h.length := by
        cases hh : h[k]? with
        | none => rw [hh] at hv; cases hv
        | some e => exact (List.getElem?_eq_some_iff.mp hh).1
      simp only [mV, hag k hk]
    · have hk : mSB ≤ k := Nat.le_of_ble_eq_true hv
      obtain ⟨i, rfl⟩ := Nat.exists_eq_add_of_le hk
      simp only [mV, hW.2.2, hW1.2.2]
  | _ => rfl
theorem mWfS.stk {h1 : mH} {H H1 : Heap} {ad ad1 : Nat → Nat} (hwf : mWfS h L st = true) (hW : mWd X ad h H) (hW1 : mWd X ad1 h1 H1) (hag : ∀ k, k < h.length → ad1 k = ad k) : st.map (mV ad1) = st.map (mV ad) := by
  simp only [mWfS, Bool.and_eq_true] at hwf
  exact List.map_congr_left fun v hv => mWfV.same (List.all_eq_true.mp hwf.2 v hv) hW hW1 hag
theorem mWfS.ls {h1 : mH} {H H1 : Heap} {ad ad1 : Nat → Nat} {nL : Nat} {ls : Array Slot} (hwf : mWfS h L st = true) (hW : mWd X ad h H) (hW1 : mWd X ad1 h1 H1) (hag : ∀ k, k < h.length → ad1 k = ad k) (hl : mLs ad L nL ls) : mLs ad1 L nL ls := by
  simp only [mWfS, Bool.and_eq_true] at hwf
  refine ⟨hl.1, hl.2.1, fun k v hk => ?_⟩
  have h2 := List.all_eq_true.mp hwf.1 _ (List.mem_of_getElem? hk)
  rw [mWfV.same h2 hW hW1 hag]
  exact hl.2.2 k v hk
theorem mAfter {p : Program} {e : Env} {R : Room} {s : State} {m : MethodId} {args : Array Value} {below : List Frame} {meth : Method} {c : Code} {H : Heap} {locs : List Loc} {cells slots mc ms n0 : Nat} {ad a0 : Nat → Nat} {ls : Array Slot} {st0 : List Value} {Q2 : mO → mH → Prop} {av : Array Value}
    (F : mF X M d p R s m meth c) (G : mG X h bc bs R s H locs cells slots ad a0 n0) (hl : mLs ad L M.2.2.1 ls)
    (hr : vx_Run p X.1 e R s m args below meth c H locs cells slots mc ms (F0 m pc ls st0) (st.map (mV ad)) (mQc X ad h.length Q2 av) (mXC X ad h.length Q2) (mB X)) (hmc : mc ≤ bc) (hms : ms ≤ bs) (hwf : mWfS h L st = true)
    (k1 : ∀ (r : Option Value) (h1 : mH), Q2 (.inl r) h1 → mWP X M d Q (pc + 3) L (r.toList ++ st) h1 (bc - mc) (bs - ms))
    (kx : ∀ (n : Nat) (h1 : mH) (ad1 : Nat → Nat) (H1 : Heap) (locs1 : List Loc) (q : Addr) (ce : Cell), Q2 (.inr n) h1 → mG X h1 (bc - mc) (bs - ms) R s H1 locs1 (cells + mc) (slots + ms) ad1 a0 n0 → H1[q]? = some ce → ce.vm = .none → s.vm.findClass (mEx n) = some ce.cls → mLs ad1 L M.2.2.1 ls → vx_W p X.1 e R s m args below meth c H1 locs1 (cells + mc) (slots + ms) (vx_MQ below (mQc X a0 n0 Q) (mXC X a0 n0 Q) args s R.cells R.slots (mB X)) (F0 m pc ls (st.map (mV ad))) q) :
    W p X.1 e R s m args below meth c H locs cells slots (vx_MQ below (mQc X a0 n0 Q) (mXC X a0 n0 Q) args s R.cells R.slots (mB X)) (F0 m pc ls st0) := by
  intro T hT Xs
  obtain ⟨g1, g2, g3, g4, g5, g6⟩ := G
  rcases hr T hT Xs with ⟨v, st₀, t, T', Lc, h0, X', hL, e1, e2, ⟨r, ad1, h1, hv, hq, hW1, hag, hn1, hF⟩, st'⟩ | ⟨q, st₀, t, T', Lc, E, ce, h0, X', hL, e1, e2, ⟨n, ad1, h1, hEn, hq, hW1, hag, hn1, hF⟩, hce, hcv, hcl, st'⟩
  · cases hv
    obtain ⟨-, -, k3⟩ := vx_keep h0 e1 g2 (fun q _ h => h) (fun q h => h) hL hF
    rw [← e1] at hW1
    have G1 : mG X h1 (bc - mc) (bs - ms) R s T'.heap (locs ++ Lc) (cells + mc) (slots + ms) ad1 a0 n0 := ⟨hW1, k3, fun k hk => by rw [hag k (by omega)]; exact g3 k hk, by omega, by omega, by omega⟩
    have hk := k1 r h1 hq p e R s m args below meth c T'.heap (locs ++ Lc) (cells + mc) (slots + ms) ad1 a0 n0 ls F G1 (mWfS.ls hwf g1 hW1 hag hl)
    obtain ⟨t2, a1, b1⟩ := hk T' rfl X'
    refine ⟨t2, st' t2 ?_, b1⟩
    have e3 : (r.map (mV ad1)).toList ++ st.map (mV ad) = (r.toList ++ st).map (mV ad1) := by
      rw [List.map_append, mWfS.stk hwf g1 hW1 hag]
      cases r <;> rfl
    have e4 : ({ F0 m pc ls st0 with pc := (F0 m pc ls st0).pc + 3, stack := (r.map (mV ad1)).toList ++ st.map (mV ad) } : JFrame) = F0 m (pc + 3) ls ((r.toList ++ st).map (mV ad1)) := by rw [e3]
    rw [e4]
    exact a1
  · subst hEn
    obtain ⟨-, -, k3⟩ := vx_keep h0 e1 g2 (fun q _ h => h) (fun q h => h) hL hF
    rw [← e1] at hW1
    have G1 : mG X h1 (bc - mc) (bs - ms) R s T'.heap (locs ++ Lc) (cells + mc) (slots + ms) ad1 a0 n0 := ⟨hW1, k3, fun k hk => by rw [hag k (by omega)]; exact g3 k hk, by omega, by omega, by omega⟩
    obtain ⟨t2, a1, b1⟩ := kx n h1 ad1 T'.heap (locs ++ Lc) q ce hq G1 (by rw [e1]; exact hce) hcv hcl (mWfS.ls hwf g1 hW1 hag hl) T' rfl X'
    exact ⟨t2, st'.trans a1, b1⟩
/-- thrown on: a method without handlers -/
theorem mOut {p : Program} {e : Env} {R : Room} {s : State} {m : MethodId} {args : Array Value} {below : List Frame} {meth : Method} {c : Code} {H1 : Heap} {locs1 : List Loc} {cells slots n0 n : Nat} {ad1 a0 : Nat → Nat} {ls : Array Slot} {rest : List Value} {h1 : mH} {q : Addr} {ce : Cell}
    (F : mF X M d p R s m meth c) (hh : M.2.2.2.2.1 = []) (hQ : Q (.inr n) h1) (G : mG X h1 bc bs R s H1 locs1 cells slots ad1 a0 n0) (hce : H1[q]? = some ce) (hcv : ce.vm = .none) (hcl : s.vm.findClass (mEx n) = some ce.cls) :
    vx_W p X.1 e R s m args below meth c H1 locs1 cells slots (vx_MQ below (mQc X a0 n0 Q) (mXC X a0 n0 Q) args s R.cells R.slots (mB X)) (F0 m pc ls rest) q := by
  obtain ⟨g1, g2, g3, g4, g5, g6⟩ := G
  refine vx_out (fun x hx => ?_) F.2.2.2.2.2.1 hce hcv hcl (fun t ht _ => ⟨n, ad1, h1, rfl, hQ, by rw [ht]; exact g1, g3, g4, g2.F ht⟩) g2.2.2 (by omega) (by omega)
  rw [F.2.2.2.2.2.2.1, hh] at hx
  cases hx
/-- which handler takes the exception E that comes at pc -/
def mHd (pc E : Nat) : List (Nat × Nat × Nat × Nat) → Option Nat
  | [] => none
  | q :: r => if q.1 ≤ pc ∧ pc < q.2.1 then (match mLk mHt q.2.2.2 with
    | some n => if n = E then some q.2.2.1 else mHd pc E r
    | none => none) else mHd pc E r
theorem mHt_ok : ∀ q ∈ mHt, Cond.classLink RL q.1 (mEx q.2) ∈ lw_tbl ∧ q.1 ≠ 0 ∧ q.2 < 4 := by decide +kernel
theorem mNc_ok0 : ∀ a : Fin 4, ∀ b : Fin 4, a ≠ b → (mEx a, mEx b) ∈ mNc := by decide +kernel
theorem mNc_ok (a : Nat) (ha : a < 4) (b : Nat) (hb : b < 4) (h : a ≠ b) : (mEx a, mEx b) ∈ mNc := mNc_ok0 ⟨a, ha⟩ ⟨b, hb⟩ (fun e => h (congrArg Fin.val e))
theorem mCast_ok : ∀ a, a < 4 → Cond.castable (mEx a) (mEx a) ∈ lw_tbl := by decide +kernel
theorem mHd_spec {pc E hp : Nat} (hE : E < 4) : ∀ {hh : List (Nat × Nat × Nat × Nat)}, mHd pc E hh = some hp → ∃ (pre suf : List (Nat × Nat × Nat × Nat)) (x : Nat × Nat × Nat × Nat), hh = pre ++ x :: suf ∧ x.2.2.1 = hp ∧ (x.1 ≤ pc ∧ pc < x.2.1) ∧ (x.2.2.2, E) ∈ mHt ∧ ∀ z ∈ pre, ¬ (z.1 ≤ pc ∧ pc < z.2.1) ∨ ∃ n, n ≠ E ∧ (z.2.2.2, n) ∈ mHt
  | [], h => by cases h
  | q :: r, h => by
    simp only [mHd] at h
    split at h
    · rename_i hc
      split at h
      · rename_i n hn
        split at h
        · rename_i hEq
          cases h
          subst hEq
          exact ⟨[], r, q, rfl, rfl, hc, mLk_mem hn, fun z hz => by cases hz⟩
        · rename_i hne
          obtain ⟨pre, suf, x, h1, h2, h3, h4, h5⟩ := mHd_spec hE h
          refine ⟨q :: pre, suf, x, by rw [h1]; rfl, h2, h3, h4, fun z hz => ?_⟩
          rcases List.mem_cons.mp hz with rfl | hz
          · exact Or.inr ⟨n, hne, mLk_mem hn⟩
          · exact h5 z hz
      · cases h
    · rename_i hc
      obtain ⟨pre, suf, x, h1, h2, h3, h4, h5⟩ := mHd_spec hE h
      refine ⟨q :: pre, suf, x, by rw [h1]; rfl, h2, h3, h4, fun z hz => ?_⟩
      rcases List.mem_cons.mp hz with rfl | hz
      · exact Or.inl hc
      · exact h5 z hz
theorem mCatch {p : Program} {e : Env} {R : Room} {s : State} {m : MethodId} {args : Array Value} {below : List Frame} {meth : Method} {c : Code} {H1 : Heap} {locs1 : List Loc} {cells slots n0 E hp j : Nat} {ad1 a0 : Nat → Nat} {ls : Array Slot} {rest : List Value} {h1 : mH} {q : Addr} {ce : Cell} {v : Int}
    (F : mF X M d p R s m meth c) (hn : M.1.cls = RL) (hE : E < 4) (hh : mHd pc E M.2.2.2.2.1 = some hp) (hd : (decode M.2.1 hp = .ok (.astore j, 2) ∧ decode M.2.1 (hp + 2) = .ok (.iconst v, 1) ∧ decode M.2.1 (hp + 3) = .ok (.ireturn, 1)) ∨ (∃ i : Fin 4, (i : Nat) = j ∧ decode M.2.1 hp = .ok (.astore_n i, 1) ∧ decode M.2.1 (hp + 1) = .ok (.iconst v, 1) ∧ decode M.2.1 (hp + 2) = .ok (.ireturn, 1))) (hj : j < M.2.2.1) (hr : M.2.2.2.1 = some .int)
    (hQ : Q (.inl (some (.int (Int32.ofInt v)))) h1) (G : mG X h1 bc bs R s H1 locs1 cells slots ad1 a0 n0) (hl : mLs ad1 L M.2.2.1 ls) (hce : H1[q]? = some ce) (hcv : ce.vm = .none) (hcl : s.vm.findClass (mEx E) = some ce.cls) :
    vx_W p X.1 e R s m args below meth c H1 locs1 cells slots (vx_MQ below (mQc X a0 n0 Q) (mXC X a0 n0 Q) args s R.cells R.slots (mB X)) (F0 m pc ls rest) q := by
  obtain ⟨pre, suf, x, h2, h3, h4, h5, h6⟩ := mHd_spec hE hh
  have hEn := F.2.2.2.2.2.2.2.2.1
  have ho : s.vm.findClass RL = some m.cls := by rw [← hn]; exact F.2.2.2.1
  have hx := mHt_ok _ h5
  obtain ⟨g1, g2, g3, g4, g5, g6⟩ := G
  have hend : ∀ (pc9 : Nat) (ls9 : Array Slot), decode M.2.1 pc9 = .ok (.iconst v, 1) → decode M.2.1 (pc9 + 1) = .ok (.ireturn, 1) → W p X.1 e R s m args below meth c H1 locs1 cells slots (vx_MQ below (mQc X a0 n0 Q) (mXC X a0 n0 Q) args s R.cells R.slots (mB X)) (F0 m pc9 ls9 []) := by
    intro pc9 ls9 d1 d2
    refine lv_iconst F.1 F.2.1 d1 rfl ?_
    refine W.widen (Nat.le_trans (Nat.le_add_right _ _) g5) (Nat.le_trans (Nat.le_add_right _ _) g6) ?_
    refine vx_ret ?_
    exact W.iret F.1 F.2.1 (by rw [F.2.2.2.2.1, hr]) (fun t ht hW => ⟨some (.int (Int32.ofInt v)), ad1, h1, rfl, hQ, by rw [ht]; exact g1, g3, g4, g2.F ht⟩) g2.2.2 d2 (hlocks := F.2.2.2.2.2.1)
  refine vx_catch (own := RL) (name := mEx E) (E := mEx E) ho (tableOf pre) ⟨x.1, x.2.1, x.2.2.1, x.2.2.2⟩ (tableOf suf) (by rw [F.2.2.2.2.2.2.1, h2]; simp [tableOf]) (fun z hz => ?_) ?_ hx.2.1 (hEn.word hx.1 rfl) (hEn.word (mCast_ok E hE) rfl) hce hcv hcl ?_
  · obtain ⟨z0, hz0, rfl⟩ := List.mem_map.mp hz
    rcases h6 z0 hz0 with h7 | ⟨n, hne, h7⟩
    · refine Or.inl ?_
      simp only [covers]
      simpa using h7
    · have hy := mHt_ok _ h7
      exact Or.inr ⟨hy.2.1, mEx n, hEn.word hy.1 rfl, hEn.2.2.2.2.2.2.2.1 _ (mNc_ok E hE n hy.2.2 (fun e => hne e.symm))⟩
  · simp only [covers]
    simpa using h4
  · show W p X.1 e R s m args below meth c H1 locs1 cells slots _ (F0 m x.2.2.1 ls [.ref q])
    rw [h3]
    rcases hd with ⟨d1, d2, d3⟩ | ⟨i, hi, d1, d2, d3⟩
    · exact lv_astore F.1 F.2.1 d1 hl.has hj rfl (fun ls1 _ => hend (hp + 2) ls1 d2 d3)
    · exact lv_astore_n F.1 F.2.1 d1 hi hl.has hj rfl (fun ls1 _ => hend (hp + 1) ls1 d2 d3)
end mAf
