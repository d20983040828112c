/-! the law's loop, and its start -/
section Lp
variable {X : mX}
set_option maxHeartbeats 1000000 in
set_option maxRecDepth 100000 in
theorem law_nx (hL : X.2.2.2.2.2.1 ≤ 3072) {k : Nat} (ih : ∀ (S : sS) (K : kK) (f : Nat → Int) (W : List jJ) (v : vV) (T : tT) (i : Int) (bc bs : Nat), lI S K W v T → 0 ≤ i → i ≤ (X.2.2.2.2.2.1 : Int) → (X.2.2.2.2.2.1 : Int) < i + 6 * k + 6 → 10 * k ≤ bc → 3000 * k ≤ bs → zWP X mL_law 14 lQ 23 (lL i) [] (lH S K f W) bc bs) {i : Int} {b s : Nat} (h0 : 0 ≤ i) (h1 : i + 6 ≤ (X.2.2.2.2.2.1 : Int)) (hk : (X.2.2.2.2.2.1 : Int) < i + 6 * (k + 1) + 6) (hb : 10 * k ≤ b) (hs : 3000 * k ≤ s) : lNx X i b s := by
  intro R Q f W v T bc bs g1 g2 hI
  refine zWP_run gLw_h 60 [23] ?_
  exact ih R Q f W v T (i + 6) bc bs hI (by omega) (by omega) (by omega) (by omega) (by omega)
set_option maxHeartbeats 1000000 in
set_option maxRecDepth 100000 in
theorem law_sw (hL : X.2.2.2.2.2.1 ≤ 3072) {S : sS} {K : kK} {f : Nat → Int} {W : List jJ} {v : vV} {T : tT} {i : Int} {b s : Nat} (hI : lI S K W v T) (h0 : 0 ≤ i) (h1 : i + 6 ≤ (X.2.2.2.2.2.1 : Int)) (kk : lNx X i b s) {x : Int} (hx : rI x) : zWP X mL_law 14 lQ 40 (lL i) [zI x] (lH S K f W) (b + 10) (s + 3000) := by
  refine zWP_run gLw_h 60 [3529, 276, 349, 405, 430, 498, 566, 629, 709, 789, 845, 913, 981, 1049, 1105, 1161, 1241, 1297, 1353, 1409, 1465, 1490, 1545, 1612, 1679, 1734, 1790, 1846, 1913, 1981, 2036, 2091, 2147, 2226, 2293, 2384, 2452, 2520, 2533, 2558, 2637, 2716, 2729, 2808, 2864, 2920, 3012, 3080, 3136, 3192, 3205, 3265, 3376, 3432, 3468, 3504] ?_
  refine mVc_i hx ?_
  refine And.intro (fun _ => kk S K f W v T (b + 10) (s + 3000) (by omega) (by omega) hI) ?_
  exact And.intro (fun _ => case0 hI h0 (by omega) (by omega) kk) (And.intro (fun _ => case1 hI h0 (by omega) (by omega) kk) (And.intro (fun _ => case2 hI h0 (by omega) (by omega) kk) (And.intro (fun _ => case3 hI h0 (by omega) (by omega) kk) (And.intro (fun _ => case4 hI h0 (by omega) (by omega) kk) (And.intro (fun _ => case5 hI h0 (by omega) (by omega) kk) (And.intro (fun _ => case6 hI h0 (by omega) (by omega) kk) (And.intro (fun _ => case7 hI h0 (by omega) (by omega) kk) (And.intro (fun _ => case8 hI h0 (by omega) (by omega) kk) (And.intro (fun _ => case9 hI h0 (by omega) (by omega) kk) (And.intro (fun _ => case10 hI h0 (by omega) (by omega) kk) (And.intro (fun _ => case11 hI h0 (by omega) (by omega) kk) (And.intro (fun _ => case12 hI h0 (by omega) (by omega) kk) (And.intro (fun _ => case13 hI h0 (by omega) (by omega) kk) (And.intro (fun _ => case14 hI h0 (by omega) (by omega) kk) (And.intro (fun _ => case15 hI h0 (by omega) (by omega) kk) (And.intro (fun _ => case16 hI h0 (by omega) (by omega) kk) (And.intro (fun _ => case17 hI h0 (by omega) (by omega) kk) (And.intro (fun _ => case18 hI h0 (by omega) (by omega) kk) (And.intro (fun _ => case19 hI h0 (by omega) (by omega) kk) (And.intro (fun _ => case20 hI h0 (by omega) (by omega) kk) (And.intro (fun _ => case21 hI h0 (by omega) (by omega) kk) (And.intro (fun _ => case22 hI h0 (by omega) (by omega) kk) (And.intro (fun _ => case23 hI h0 (by omega) (by omega) kk) (And.intro (fun _ => case24 hI h0 (by omega) (by omega) kk) (And.intro (fun _ => case25 hI h0 (by omega) (by omega) kk) (And.intro (fun _ => case26 hI h0 (by omega) (by omega) kk) (And.intro (fun _ => case27 hI h0 (by omega) (by omega) kk) (And.intro (fun _ => case28 hI h0 (by omega) (by omega) kk) (And.intro (fun _ => case29 hI h0 (by omega) (by omega) kk) (And.intro (fun _ => case30 hI h0 (by omega) (by omega) kk) (And.intro (fun _ => case31 hI h0 (by omega) (by omega) kk) (And.intro (fun _ => case32 hI h0 (by omega) (by omega) kk) (And.intro (fun _ => case33 hI h0 (by omega) (by omega) kk) (And.intro (fun _ => case34 hI h0 (by omega) (by omega) kk) (And.intro (fun _ => case35 hI h0 (by omega) (by omega) kk) (And.intro (fun _ => case36 hI h0 (by omega) (by omega) kk) (And.intro (fun _ => case37 hI h0 (by omega) (by omega) kk) (And.intro (fun _ => case38 hI h0 (by omega) (by omega) kk) (And.intro (fun _ => case39 hI h0 (by omega) (by omega) kk) (And.intro (fun _ => case40 hI h0 (by omega) (by omega) kk) (And.intro (fun _ => case41 hI h0 (by omega) (by omega) kk) (And.intro (fun _ => case42 hI h0 (by omega) (by omega) kk) (And.intro (fun _ => case43 hI h0 (by omega) (by omega) kk) (And.intro (fun _ => case44 hI h0 (by omega) (by omega) kk) (And.intro (fun _ => case45 hI h0 (by omega) (by omega) kk) (And.intro (fun _ => case46 hI h0 (by omega) (by omega) kk) (And.intro (fun _ => case47 hI h0 (by omega) (by omega) kk) (And.intro (fun _ => case48 hI h0 (by omega) (by omega) kk) (And.intro (fun _ => case49 hI h0 (by omega) (by omega) kk) (And.intro (fun _ => case50 hI h0 (by omega) (by omega) kk) (And.intro (fun _ => case51 hI h0 (by omega) (by omega) kk) (And.intro (fun _ => case52 hI h0 (by omega) (by omega) kk (Nat.le_refl _) (Nat.le_refl _)) (And.intro (fun _ => case53 hI h0 (by omega) (by omega) kk) (And.intro (fun _ => case54 hI h0 (by omega) (by omega) kk) (True.intro)))))))))))))))))))))))))))))))))))))))))))))))))))))))
set_option maxHeartbeats 1000000 in
set_option maxRecDepth 100000 in
theorem law_loop (hL : X.2.2.2.2.2.1 ≤ 3072) : ∀ (k : Nat) (S : sS) (K : kK) (f : Nat → Int) (W : List jJ) (v : vV) (T : tT) (i : Int) (bc bs : Nat), lI S K W v T → 0 ≤ i → i ≤ (X.2.2.2.2.2.1 : Int) → (X.2.2.2.2.2.1 : Int) < i + 6 * k + 6 → 10 * k ≤ bc → 3000 * k ≤ bs → zWP X mL_law 14 lQ 23 (lL i) [] (lH S K f W) bc bs := by
  intro k
  induction k with
  | zero =>
    intro S K f W v T i bc bs hI h0 h1 hk hb hs
    refine zWP_run gLw_h 60 [40] ?_
    refine zBrT ⟨by simp only [rI]; omega, by simp only [rI]; omega⟩ (by omega) ?_
    refine mVc_i (Or.inr rfl) ?_
    exact rfl
  | succ k ih =>
    intro S K f W v T i bc bs hI h0 h1 hk hb hs
    obtain ⟨b, rfl⟩ : ∃ b, bc = b + 10 := ⟨bc - 10, by omega⟩
    obtain ⟨s, rfl⟩ : ∃ s, bs = s + 3000 := ⟨bs - 3000, by omega⟩
    refine zWP_run gLw_h 60 [40] ?_
    refine zBr ⟨by simp only [rI]; omega, by simp only [rI]; omega⟩ (fun c => ?_) (fun c => ?_)
    · refine mVc_i (Or.inr rfl) ?_
      exact rfl
    · refine mVc_i ⟨by omega, by omega, by omega⟩ ?_
      exact law_sw hL hI h0 (by omega) (law_nx hL ih h0 (by omega) (by omega) (by omega) (by omega)) ⟨Int32.le_toInt _, Int32.toInt_lt _⟩
def zLm (n : Nat) : List (Option zV) → Prop
  | [] => True
  | some (.inr (.inr (some k))) :: r => k ≠ n ∧ zLm n r
  | _ :: r => zLm n r
theorem zLm_m {n : Nat} : ∀ {L : List (Option zV)} {w : zV}, zLm n L → some w ∈ L → mNoV n (zT w)
  | [], _, _, q => by cases q
  | none :: r, w, h, q => by
    rcases List.mem_cons.mp q with q | q
    · cases q
    · exact zLm_m (L := r) h q
  | some (.inl z) :: r, w, h, q => by
    rcases List.mem_cons.mp q with q | q
    · cases q; exact trivial
    · exact zLm_m (L := r) h q
  | some (.inr (.inl z)) :: r, w, h, q => by
    rcases List.mem_cons.mp q with q | q
    · cases q; exact trivial
    · exact zLm_m (L := r) h q
  | some (.inr (.inr none)) :: r, w, h, q => by
    rcases List.mem_cons.mp q with q | q
    · cases q; exact trivial
    · exact zLm_m (L := r) h q
  | some (.inr (.inr (some k))) :: r, w, h, q => by
    rcases List.mem_cons.mp q with q | q
    · cases q; exact h.1
    · exact zLm_m (L := r) h.2 q
theorem zStL {h : zH} {L : List (Option zV)} {st : List zV} {n : Nat} (hn : h.length = n) (h1 : zBd n h) (h2 : zLm n L) (h3 : zLs n st) : mStab (h.map zC) (zL L) (st.map zT) := by
  have q := zStab (L := []) hn h1 trivial h3
  refine ⟨q.1, fun o ho v hv => ?_, q.2.2⟩
  subst hv
  obtain ⟨o0, g0, e⟩ := List.mem_map.mp ho
  cases o0 with
  | none => cases e
  | some w =>
    cases e
    rw [List.length_map, hn]
    exact zLm_m h2 g0
def T0 : tT := fun _ => (-1, 0, fun _ => 0)
theorem lI_s {c f : Nat → Int} (hf : ∀ j : Int, 0 ≤ j → j < 48 → f j.toNat = if j = 3 then 5 else if j < 44 then 0 else -1) : lI s0 (kk0 c f) [] (vNew pF0) T0 := by
  have tb : tB T0 := fun j => ⟨⟨by show (-1 : Int) ≤ -1; omega, by show (-1 : Int) ≤ 3; omega⟩, ⟨by show (0 : Int) ≤ 0; omega, by show (0 : Int) ≤ 30; omega⟩, fun k => ⟨by show (-9223372036854775808 : Int) ≤ 0; omega, by show (0 : Int) < 9223372036854775808; omega⟩⟩
  refine ⟨s0_v, kk0_v hf, ⟨tb, ⟨fun _ => rfl, fun q => absurd rfl q, rfl, rfl⟩, ⟨fun _ => rfl, fun q => absurd rfl q, rfl, rfl⟩, ⟨fun _ => rfl, fun q => absurd rfl q, rfl, rfl⟩, ⟨fun _ => rfl, fun q => absurd rfl q, rfl, rfl⟩⟩, ⟨tb, fun j j0 j1 => ⟨?_, rfl, fun _ _ _ => rfl⟩⟩, ⟨rfl, ⟨by show (0 : Int) ≤ 0; omega, by show (0 : Int) ≤ 600; omega⟩, fun k => ⟨by show (-128 : Int) ≤ 0; omega, by show (0 : Int) ≤ 127; omega⟩, fun k => rfl, rfl, rfl⟩, ⟨fun _ _ => rfl, fun i _ => Or.inl ⟨rfl, rfl⟩, fun i j p q _ => (by cases q), rfl⟩⟩
  show tS0 j.toNat = -1
  have e : j = 0 ∨ j = 1 ∨ j = 2 ∨ j = 3 := by omega
  rcases e with rfl | rfl | rfl | rfl <;> rfl
set_option maxHeartbeats 1000000 in
set_option maxRecDepth 100000 in
theorem law_start (hL : X.2.2.2.2.2.1 ≤ 3072) : zWP X mL_law 14 lQ 0 [some (zR (mSB + 500)), none, none, none, none, none, none, none] [] [] 6000 1600000 := by
  refine zWP_run gLw_h 60 [23] ?_
  refine mVc_i ⟨zStL (n := 0) rfl trivial ⟨by show mSB + 500 ≠ 0; omega, trivial⟩ trivial, by show 0 < mSB; decide +kernel⟩ ?_
  refine zCl_e cInit (by decide) ?_
  refine mVc_i ⟨zStL (n := 29) rfl (cX_bd (Nat.le_refl _) (fun _ _ q => by cases q)) ⟨by show 1000000 + 500 ≠ 29; omega, by show 0 ≠ 29; omega, trivial⟩ trivial, by show 29 < mSB; decide +kernel⟩ ?_
  refine zCl_i kInit (by decide) ?_
  rintro o9 h9 ⟨rfl, c, f, rfl, hf⟩
  refine mVc_i ⟨by omega, by omega, by decide, zStL (n := 45) rfl (zBd_a (cX_bd (by omega) (fun _ _ q => by cases q)) (zBd_a (cM_bd (Nat.le_refl _)) trivial)) ⟨by show 1000000 + 500 ≠ 45; omega, by show 0 ≠ 45; omega, by show 29 ≠ 45; omega, trivial⟩ trivial, by show 45 < mSB; decide +kernel⟩ ?_
  exact law_loop hL 512 s0 (kk0 c f) (fun _ => 0) [] (vNew pF0) T0 0 (6000 - 1 - 31 - 1 - 16 - 1) (1600000 - 10 - 3391 - 27 - 16446 - 1) (lI_s hf) (by omega) (by omega) (by omega) (by omega) (by omega)
end Lp
