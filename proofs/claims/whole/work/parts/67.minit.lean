/-! the reference is made -/
theorem zStx {r : zH} {L : List (Option zV)} {st : List zV} {n : Nat} (hn : (cX s0 ++ r).length = n) (h29 : 29 ≤ n) (hr : zBdb n r = true) (h2 : zLob n L = true) (h3 : zLsb n st = true) : mStab ((cX s0 ++ r).map zC) (zL L) (st.map zT) := zStab hn (zBd_a (cX_bd h29 (fun _ _ q => by cases q)) (zBdb_s hr)) (zLob_s h2) (zLsb_s h3)
def tS0 : Nat → Int := va_up (va_up (va_up (va_up (fun _ => 0) 0 (-1)) 1 (-1)) 2 (-1)) 3 (-1)
def k00 : kK := (fun i => if i = 10 then -1 else 0, fun r => if r = 12 then tS0 else fun _ => 0)
def kk0 (c f : Nat → Int) : kK := kA (kA k00 1 c) 0 f
section Ink
variable {X : mX}
set_option maxHeartbeats 1000000 in
set_option maxRecDepth 100000 in
theorem kInit  : zEv X 11 mX10_init [zR 29] (cX s0 ++ [.inr (10, [zN, zN, zN, zN, zN, zI 0, zN, zI 0, zI 0, zI 0, zI 0, zI 0, zI 0, zI 0, zI 0, zI 0, zI 0, zI 0, zN, zN, zN, zN, zN, zN, zN, zN, zN])]) (fun o9 h9 => o9 = .inl none ∧ ∃ c f : Nat → Int, h9 = cX s0 ++ (cM (kk0 c f) ++ []) ∧ (∀ j : Int, 0 ≤ j → j < 48 → f j.toNat = if j = 3 then 5 else if j < 44 then 0 else -1)) := by
  have lp : ∀ (c : Nat → Int), (∀ j : Int, 0 ≤ j → j < 48 → c j.toNat = if j = 3 then 5 else if j < 44 then 0 else -1) → ∀ (k : Nat) (i : Int) (f : Nat → Int), 0 ≤ i → i + k = 48 → (∀ j : Int, 0 ≤ j → j < i → f j.toNat = c j.toNat) → zWP X mX10_init 11 (fun o9 h9 => o9 = .inl none ∧ ∃ c f : Nat → Int, h9 = cX s0 ++ (cM (kk0 c f) ++ []) ∧ (∀ j : Int, 0 ≤ j → j < 48 → f j.toNat = if j = 3 then 5 else if j < 44 then 0 else -1)) 154 [some (zR 29), some (zI i)] [] (cX s0 ++ (cM (kk0 c f) ++ [])) 1 0 := by
    intro c hc k
    induction k with
    | zero =>
      intro i f i0 hk hf
      refine zWP_run gX10_init 80 [154] ?_
      refine zBrT (by simp only [rI]; omega) (by omega) ?_
      exact ⟨rfl, c, f, rfl, fun j j0 j1 => by rw [hf j j0 (by omega)]; exact hc j j0 j1⟩
    | succ k ih =>
      intro i f i0 hk hf
      refine zWP_run gX10_init 80 [154] ?_
      refine zBrF (by simp only [rI]; omega) (by omega) ?_
      refine mVc_i (by omega) ?_
      refine mVc_i (by omega) ?_
      exact ih (i + 1) (va_up f i.toNat (c i.toNat)) (by omega) (by omega) (fun j j0 j1 => by
        by_cases e : j = i
        · rw [e, va_up_s]
        · rw [va_up_o _ _ (by omega)]; exact hf j j0 (by omega))
  refine zEv_run gX10_init 200 [154] rfl ?_
  refine mVc_i ⟨by omega, by omega, by decide, zStx (r := [.inr (10, [zN, zN, zN, zN, zN, zI 0, zN, zI 0, zI 0, zI 0, zI 0, zI 0, zI 0, zI 0, zI 0, zI 0, zI 0, zI 0, zN, zN, zN, zN, zN, zN, zN, zN, zN])]) (n := 30) rfl (by omega) rfl rfl rfl, by show 30 < mSB; decide +kernel⟩ ?_
  refine mVc_i ⟨by omega, by omega, by decide, zStx (r := [.inr (10, [zR 30, zN, zN, zN, zN, zI 0, zN, zI 0, zI 0, zI 0, zI 0, zI 0, zI 0, zI 0, zI 0, zI 0, zI 0, zI 0, zN, zN, zN, zN, zN, zN, zN, zN, zN]), .inl (0, 3108, .inl (fun _ => 0))]) (n := 31) rfl (by omega) rfl rfl rfl, by show 31 < mSB; decide +kernel⟩ ?_
  refine mVc_i ⟨by omega, by omega, by decide, zStx (r := [.inr (10, [zR 30, zR 31, zN, zN, zN, zI 0, zN, zI 0, zI 0, zI 0, zI 0, zI 0, zI 0, zI 0, zI 0, zI 0, zI 0, zI 0, zN, zN, zN, zN, zN, zN, zN, zN, zN]), .inl (0, 3108, .inl (fun _ => 0)), .inl (0, 48, .inl (fun _ => 0))]) (n := 32) rfl (by omega) rfl rfl rfl, by show 32 < mSB; decide +kernel⟩ ?_
  refine mVc_i ⟨by omega, by omega, by decide, zStx (r := [.inr (10, [zR 30, zR 31, zR 32, zN, zN, zI 0, zN, zI 0, zI 0, zI 0, zI 0, zI 0, zI 0, zI 0, zI 0, zI 0, zI 0, zI 0, zN, zN, zN, zN, zN, zN, zN, zN, zN]), .inl (0, 3108, .inl (fun _ => 0)), .inl (0, 48, .inl (fun _ => 0)), .inl (0, 3108, .inl (fun _ => 0))]) (n := 33) rfl (by omega) rfl rfl rfl, by show 33 < mSB; decide +kernel⟩ ?_
  refine mVc_i ⟨by omega, by omega, by decide, zStx (r := [.inr (10, [zR 30, zR 31, zR 32, zR 33, zN, zI 0, zN, zI 0, zI 0, zI 0, zI 0, zI 0, zI 0, zI 0, zI 0, zI 0, zI 0, zI 0, zN, zN, zN, zN, zN, zN, zN, zN, zN]), .inl (0, 3108, .inl (fun _ => 0)), .inl (0, 48, .inl (fun _ => 0)), .inl (0, 3108, .inl (fun _ => 0)), .inl (0, 9324, .inl (fun _ => 0))]) (n := 34) rfl (by omega) rfl rfl rfl, by show 34 < mSB; decide +kernel⟩ ?_
  refine mVc_i ⟨by omega, by omega, by decide, zStx (r := [.inr (10, [zR 30, zR 31, zR 32, zR 33, zR 34, zI 0, zN, zI 0, zI 0, zI 0, zI 0, zI 0, zI 0, zI 0, zI 0, zI 0, zI 0, zI 0, zN, zN, zN, zN, zN, zN, zN, zN, zN]), .inl (0, 3108, .inl (fun _ => 0)), .inl (0, 48, .inl (fun _ => 0)), .inl (0, 3108, .inl (fun _ => 0)), .inl (0, 9324, .inl (fun _ => 0)), .inl (3, 3, .inl (fun _ => 0))]) (n := 35) rfl (by omega) rfl rfl rfl, by show 35 < mSB; decide +kernel⟩ ?_
  refine mVc_i ⟨by omega, by omega, by decide, zStx (r := [.inr (10, [zR 30, zR 31, zR 32, zR 33, zR 34, zI 0, zR 35, zI 0, zI 0, zI 0, zI 0, zI 0, zI 0, zI 0, zI 0, zI 0, zI (-1), zI 0, zN, zN, zN, zN, zN, zN, zN, zN, zN]), .inl (0, 3108, .inl (fun _ => 0)), .inl (0, 48, .inl (fun _ => 0)), .inl (0, 3108, .inl (fun _ => 0)), .inl (0, 9324, .inl (fun _ => 0)), .inl (3, 3, .inl (fun _ => 0)), .inl (0, 600, .inl (fun _ => 0))]) (n := 36) rfl (by omega) rfl rfl rfl, by show 36 < mSB; decide +kernel⟩ ?_
  refine mVc_i ⟨by omega, by omega, by decide, zStx (r := [.inr (10, [zR 30, zR 31, zR 32, zR 33, zR 34, zI 0, zR 35, zI 0, zI 0, zI 0, zI 0, zI 0, zI 0, zI 0, zI 0, zI 0, zI (-1), zI 0, zR 36, zN, zN, zN, zN, zN, zN, zN, zN]), .inl (0, 3108, .inl (fun _ => 0)), .inl (0, 48, .inl (fun _ => 0)), .inl (0, 3108, .inl (fun _ => 0)), .inl (0, 9324, .inl (fun _ => 0)), .inl (3, 3, .inl (fun _ => 0)), .inl (0, 600, .inl (fun _ => 0)), .inl (0, 6, .inl (fun _ => 0))]) (n := 37) rfl (by omega) rfl rfl rfl, by show 37 < mSB; decide +kernel⟩ ?_
  refine mVc_i ⟨by omega, by omega, by decide, zStx (r := [.inr (10, [zR 30, zR 31, zR 32, zR 33, zR 34, zI 0, zR 35, zI 0, zI 0, zI 0, zI 0, zI 0, zI 0, zI 0, zI 0, zI 0, zI (-1), zI 0, zR 36, zR 37, zN, zN, zN, zN, zN, zN, zN]), .inl (0, 3108, .inl (fun _ => 0)), .inl (0, 48, .inl (fun _ => 0)), .inl (0, 3108, .inl (fun _ => 0)), .inl (0, 9324, .inl (fun _ => 0)), .inl (3, 3, .inl (fun _ => 0)), .inl (0, 600, .inl (fun _ => 0)), .inl (0, 6, .inl (fun _ => 0)), .inl (1, 31, .inl (fun _ => 0))]) (n := 38) rfl (by omega) rfl rfl rfl, by show 38 < mSB; decide +kernel⟩ ?_
  refine mVc_i ⟨by omega, by omega, by decide, zStx (r := [.inr (10, [zR 30, zR 31, zR 32, zR 33, zR 34, zI 0, zR 35, zI 0, zI 0, zI 0, zI 0, zI 0, zI 0, zI 0, zI 0, zI 0, zI (-1), zI 0, zR 36, zR 37, zR 38, zN, zN, zN, zN, zN, zN]), .inl (0, 3108, .inl (fun _ => 0)), .inl (0, 48, .inl (fun _ => 0)), .inl (0, 3108, .inl (fun _ => 0)), .inl (0, 9324, .inl (fun _ => 0)), .inl (3, 3, .inl (fun _ => 0)), .inl (0, 600, .inl (fun _ => 0)), .inl (0, 6, .inl (fun _ => 0)), .inl (1, 31, .inl (fun _ => 0)), .inl (1, 64, .inl (fun _ => 0))]) (n := 39) rfl (by omega) rfl rfl rfl, by show 39 < mSB; decide +kernel⟩ ?_
  refine mVc_i ⟨by omega, by omega, by decide, zStx (r := [.inr (10, [zR 30, zR 31, zR 32, zR 33, zR 34, zI 0, zR 35, zI 0, zI 0, zI 0, zI 0, zI 0, zI 0, zI 0, zI 0, zI 0, zI (-1), zI 0, zR 36, zR 37, zR 38, zR 39, zN, zN, zN, zN, zN]), .inl (0, 3108, .inl (fun _ => 0)), .inl (0, 48, .inl (fun _ => 0)), .inl (0, 3108, .inl (fun _ => 0)), .inl (0, 9324, .inl (fun _ => 0)), .inl (3, 3, .inl (fun _ => 0)), .inl (0, 600, .inl (fun _ => 0)), .inl (0, 6, .inl (fun _ => 0)), .inl (1, 31, .inl (fun _ => 0)), .inl (1, 64, .inl (fun _ => 0)), .inl (1, 11, .inl (fun _ => 0))]) (n := 40) rfl (by omega) rfl rfl rfl, by show 40 < mSB; decide +kernel⟩ ?_
  refine mVc_i ⟨by omega, by omega, by decide, zStx (r := [.inr (10, [zR 30, zR 31, zR 32, zR 33, zR 34, zI 0, zR 35, zI 0, zI 0, zI 0, zI 0, zI 0, zI 0, zI 0, zI 0, zI 0, zI (-1), zI 0, zR 36, zR 37, zR 38, zR 39, zR 40, zN, zN, zN, zN]), .inl (0, 3108, .inl (fun _ => 0)), .inl (0, 48, .inl (fun _ => 0)), .inl (0, 3108, .inl (fun _ => 0)), .inl (0, 9324, .inl (fun _ => 0)), .inl (3, 3, .inl (fun _ => 0)), .inl (0, 600, .inl (fun _ => 0)), .inl (0, 6, .inl (fun _ => 0)), .inl (1, 31, .inl (fun _ => 0)), .inl (1, 64, .inl (fun _ => 0)), .inl (1, 11, .inl (fun _ => 0)), .inl (1, 11, .inl (fun _ => 0))]) (n := 41) rfl (by omega) rfl rfl rfl, by show 41 < mSB; decide +kernel⟩ ?_
  refine mVc_i ⟨by omega, by omega, by decide, zStx (r := [.inr (10, [zR 30, zR 31, zR 32, zR 33, zR 34, zI 0, zR 35, zI 0, zI 0, zI 0, zI 0, zI 0, zI 0, zI 0, zI 0, zI 0, zI (-1), zI 0, zR 36, zR 37, zR 38, zR 39, zR 40, zR 41, zN, zN, zN]), .inl (0, 3108, .inl (fun _ => 0)), .inl (0, 48, .inl (fun _ => 0)), .inl (0, 3108, .inl (fun _ => 0)), .inl (0, 9324, .inl (fun _ => 0)), .inl (3, 3, .inl (fun _ => 0)), .inl (0, 600, .inl (fun _ => 0)), .inl (0, 6, .inl (fun _ => 0)), .inl (1, 31, .inl (fun _ => 0)), .inl (1, 64, .inl (fun _ => 0)), .inl (1, 11, .inl (fun _ => 0)), .inl (1, 11, .inl (fun _ => 0)), .inl (0, 4, .inl (fun _ => 0))]) (n := 42) rfl (by omega) rfl rfl rfl, by show 42 < mSB; decide +kernel⟩ ?_
  refine mVc_i (by omega) ?_
  refine mVc_i (by omega) ?_
  refine mVc_i (by omega) ?_
  refine mVc_i (by omega) ?_
  refine mVc_i ⟨by omega, by omega, by decide, zStx (r := [.inr (10, [zR 30, zR 31, zR 32, zR 33, zR 34, zI 0, zR 35, zI 0, zI 0, zI 0, zI 0, zI 0, zI 0, zI 0, zI 0, zI 0, zI (-1), zI 0, zR 36, zR 37, zR 38, zR 39, zR 40, zR 41, zR 42, zN, zN]), .inl (0, 3108, .inl (fun _ => 0)), .inl (0, 48, .inl (fun _ => 0)), .inl (0, 3108, .inl (fun _ => 0)), .inl (0, 9324, .inl (fun _ => 0)), .inl (3, 3, .inl (fun _ => 0)), .inl (0, 600, .inl (fun _ => 0)), .inl (0, 6, .inl (fun _ => 0)), .inl (1, 31, .inl (fun _ => 0)), .inl (1, 64, .inl (fun _ => 0)), .inl (1, 11, .inl (fun _ => 0)), .inl (1, 11, .inl (fun _ => 0)), .inl (0, 4, .inl (fun _ => 0)), .inl (0, 4, .inl tS0)]) (n := 43) rfl (by omega) rfl rfl rfl, by show 43 < mSB; decide +kernel⟩ ?_
  refine mVc_i ⟨by omega, by omega, by decide, zStx (r := [.inr (10, [zR 30, zR 31, zR 32, zR 33, zR 34, zI 0, zR 35, zI 0, zI 0, zI 0, zI 0, zI 0, zI 0, zI 0, zI 0, zI 0, zI (-1), zI 0, zR 36, zR 37, zR 38, zR 39, zR 40, zR 41, zR 42, zR 43, zN]), .inl (0, 3108, .inl (fun _ => 0)), .inl (0, 48, .inl (fun _ => 0)), .inl (0, 3108, .inl (fun _ => 0)), .inl (0, 9324, .inl (fun _ => 0)), .inl (3, 3, .inl (fun _ => 0)), .inl (0, 600, .inl (fun _ => 0)), .inl (0, 6, .inl (fun _ => 0)), .inl (1, 31, .inl (fun _ => 0)), .inl (1, 64, .inl (fun _ => 0)), .inl (1, 11, .inl (fun _ => 0)), .inl (1, 11, .inl (fun _ => 0)), .inl (0, 4, .inl (fun _ => 0)), .inl (0, 4, .inl tS0), .inl (0, 4, .inl (fun _ => 0))]) (n := 44) rfl (by omega) rfl rfl rfl, by show 44 < mSB; decide +kernel⟩ ?_
  refine zCl_i (ybg (S := s0) (K := k00) (t := [])) (by decide) ?_
  rintro o9 h9 ⟨rfl, c, rfl, hc⟩
  exact lp c hc 48 0 (fun _ => 0) (by omega) (by omega) (fun j j0 j1 => by omega)
end Ink
theorem s0_v : vX s0 (vNew pF0) := by
  refine ⟨vNew_b (n := 0) (by omega) pF0_b, rfl, rfl, rfl, rfl, rfl, ⟨fun _ _ _ _ _ _ => rfl, rfl, fun _ _ _ => rfl, fun k k0 k1 => ?_⟩, fun k k0 k1 => ?_⟩
  · have : k < 0 := k1
    omega
  · have : k < 0 := k1
    omega
theorem kk0_v {c f : Nat → Int} (hf : ∀ j : Int, 0 ≤ j → j < 48 → f j.toNat = if j = 3 then 5 else if j < 44 then 0 else -1) : kV ((kk0 c f).2 0) (vNew pF0) := by
  have cc : ∀ j : Nat, j < 48 → f j = if (j : Int) = 3 then 5 else if (j : Int) < 44 then 0 else -1 := fun j hj => by
    have := hf (j : Int) (by omega) (by omega)
    rw [Int.toNat_natCast] at this
    exact this
  show kV f (vNew pF0)
  refine ⟨vNew_b (n := 0) (by omega) pF0_b, ⟨?_, ?_, ?_, ?_, ?_⟩, ⟨fun d f1 a0 a1 b0 b1 => ?_, fun d a0 a1 => ?_, fun k a0 a1 => ?_, fun k a0 a1 => ?_⟩, fun k k0 k1 => ?_⟩
  · rw [cc 0 (by omega)]; rfl
  · rw [cc 1 (by omega)]; rfl
  · rw [cc 2 (by omega)]; rfl
  · rw [cc 3 (by omega)]; rfl
  · rw [cc 4 (by omega)]; rfl
  · rw [Nat.zero_add, hf _ (by omega) (by omega), if_neg (by omega), if_pos (by omega)]; rfl
  · rw [Nat.zero_add, hf _ (by omega) (by omega), if_neg (by omega), if_pos (by omega)]; rfl
  · rw [Nat.zero_add, hf _ (by omega) (by omega), if_neg (by omega), if_pos (by omega)]; rfl
  · have : k < 0 := a1
    omega
  · have : k < 0 := k1
    omega
