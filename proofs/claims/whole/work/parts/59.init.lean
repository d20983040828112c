/-! the class is made -/
def zLvb (n : Nat) : zV → Bool
  | .inr (.inr (some k)) => Nat.blt k n
  | _ => true
def zLsb (n : Nat) : List zV → Bool
  | [] => true
  | v :: r => zLvb n v && zLsb n r
def zLob (n : Nat) : List (Option zV) → Bool
  | [] => true
  | some v :: r => zLvb n v && zLob n r
  | none :: r => zLob n r
def zLtb (n : Nat) : zE → Bool
  | .inl (_, _, .inl _) => true
  | .inl (_, _, .inr _) => false
  | .inr (_, fs) => zLsb n fs
def zBdb (n : Nat) : zH → Bool
  | [] => true
  | e :: r => zLtb n e && zBdb n r
theorem zLvb_s {n : Nat} {v : zV} (h : zLvb n v = true) : zLv n v := by
  rcases v with z | z | z | k
  · exact trivial
  · exact trivial
  · exact trivial
  · have h2 : Nat.ble (k + 1) n = true := h
    exact Nat.le_of_ble_eq_true h2
theorem zLsb_s {n : Nat} : ∀ {l : List zV}, zLsb n l = true → zLs n l
  | [], _ => trivial
  | v :: r, h => by
    have h2 : (zLvb n v && zLsb n r) = true := h
    rw [Bool.and_eq_true] at h2
    exact ⟨zLvb_s h2.1, zLsb_s h2.2⟩
theorem zLob_s {n : Nat} : ∀ {l : List (Option zV)}, zLob n l = true → zLo n l
  | [], _ => trivial
  | some v :: r, h => by
    have h2 : (zLvb n v && zLob n r) = true := h
    rw [Bool.and_eq_true] at h2
    exact ⟨zLvb_s h2.1, zLob_s h2.2⟩
  | none :: r, h => zLob_s (l := r) h
theorem zBdb_s {n : Nat} : ∀ {l : zH}, zBdb n l = true → zBd n l
  | [], _ => trivial
  | v :: r, h => by
    have h2 : (zLtb n v && zBdb n r) = true := h
    rw [Bool.and_eq_true] at h2
    refine ⟨?_, zBdb_s h2.2⟩
    rcases v with ⟨t, m, f | f⟩ | ⟨c, fs⟩
    · exact trivial
    · exact absurd h2.1 (by intro q; cases q)
    · exact zLsb_s h2.1
theorem zStb {h : zH} {L : List (Option zV)} {st : List zV} {n : Nat} (hn : h.length = n) (h1 : zBdb n h = true) (h2 : zLob n L = true) (h3 : zLsb n st = true) : mStab (h.map zC) (zL L) (st.map zT) := zStab hn (zBdb_s h1) (zLob_s h2) (zLsb_s h3)
theorem zStc {p : zH} {e : zE} {r : zH} {L : List (Option zV)} {st : List zV} {n : Nat} (hn : (p ++ (e :: r)).length = n) (h1 : zBdb n p = true) (he : zLt n e) (hr : zBdb n r = true) (h2 : zLob n L = true) (h3 : zLsb n st = true) : mStab ((p ++ (e :: r)).map zC) (zL L) (st.map zT) := zStab hn (zBd_a (zBdb_s h1) ⟨he, zBdb_s hr⟩) (zLob_s h2) (zLsb_s h3)
def s0 : sS := (fun i => if i = 6 then -1 else if i = 15 then 5 else if i = 18 ∨ i = 21 ∨ i = 24 ∨ i = 27 then 1 else 0, fun _ _ => 0, fun _ => none)
abbrev zN : zV := .inr (.inr none)
section Ini
variable {X : mX}
set_option maxHeartbeats 1000000 in
set_option maxRecDepth 100000 in
theorem ini1  : zEv X 1 mX6_init [zR 1] ([.inr (9, [zN, zN, zN, zN, zN, zN, zN, zN, zN, zN]), .inr (6, [zN, zI 0])]) (zIs (.inl none) ([.inr (9, [zN, zN, zN, zN, zN, zN, zN, zN, zN, zN]), .inr (6, [zR 2, zI 0]), .inl (2, 600, .inl (fun _ => 0))])) := by
  refine zEv_run gX6_init 80 [] rfl ?_
  refine mVc_i ⟨by omega, by omega, by decide, zStb (n := 2) rfl rfl rfl rfl, by show 2 < mSB; decide +kernel⟩ ?_
  exact ⟨rfl, rfl⟩
set_option maxHeartbeats 1000000 in
set_option maxRecDepth 100000 in
theorem ini3  : zEv X 1 mX5_init [zR 3, zR 1] ([.inr (9, [zR 1, zN, zN, zN, zN, zN, zN, zN, zN, zN]), .inr (6, [zR 2, zI 0]), .inl (2, 600, .inl (fun _ => 0)), .inr (5, [zN, zN, zI 0, zI 0, zI 0, zI 0, zI 0, zI 0, zI 0, zI 0, zI 0, zI 0, zI 0])]) (zIs (.inl none) ([.inr (9, [zR 1, zN, zN, zN, zN, zN, zN, zN, zN, zN]), .inr (6, [zR 2, zI 0]), .inl (2, 600, .inl (fun _ => 0)), .inr (5, [zR 1, zR 4, zI 0, zI 0, zI 0, zI 0, zI 0, zI (-1), zI 0, zI 0, zI 0, zI 0, zI 0]), .inl (0, 39, .inl (fun _ => 0))])) := by
  refine zEv_run gX5_init 80 [] rfl ?_
  refine mVc_i ⟨by omega, by omega, by decide, zStb (n := 4) rfl rfl rfl rfl, by show 4 < mSB; decide +kernel⟩ ?_
  exact ⟨rfl, rfl⟩
set_option maxHeartbeats 1000000 in
set_option maxRecDepth 100000 in
theorem ini5  : zEv X 1 mX2_init [zR 5] ([.inr (9, [zR 1, zR 3, zN, zN, zN, zN, zN, zN, zN, zN]), .inr (6, [zR 2, zI 0]), .inl (2, 600, .inl (fun _ => 0)), .inr (5, [zR 1, zR 4, zI 0, zI 0, zI 0, zI 0, zI 0, zI (-1), zI 0, zI 0, zI 0, zI 0, zI 0]), .inl (0, 39, .inl (fun _ => 0)), .inr (2, [zI 0, zI 0, zI 0, zI 0, zI 0, zN, zN, zN])]) (zIs (.inl none) ([.inr (9, [zR 1, zR 3, zN, zN, zN, zN, zN, zN, zN, zN]), .inr (6, [zR 2, zI 0]), .inl (2, 600, .inl (fun _ => 0)), .inr (5, [zR 1, zR 4, zI 0, zI 0, zI 0, zI 0, zI 0, zI (-1), zI 0, zI 0, zI 0, zI 0, zI 0]), .inl (0, 39, .inl (fun _ => 0)), .inr (2, [zI 0, zI 0, zI 0, zI 5, zI 0, zR 6, zR 7, zR 8]), .inl (0, 39, .inl (fun _ => 0)), .inl (0, 60, .inl (fun _ => 0)), .inl (0, 2340, .inl (fun _ => 0))])) := by
  refine zEv_run gX2_init 80 [] rfl ?_
  refine mVc_i ⟨by omega, by omega, by decide, zStb (n := 6) rfl rfl rfl rfl, by show 6 < mSB; decide +kernel⟩ ?_
  refine mVc_i ⟨by omega, by omega, by decide, zStb (n := 7) rfl rfl rfl rfl, by show 7 < mSB; decide +kernel⟩ ?_
  refine mVc_i ⟨by omega, by omega, by decide, zStb (n := 8) rfl rfl rfl rfl, by show 8 < mSB; decide +kernel⟩ ?_
  exact ⟨rfl, rfl⟩
set_option maxHeartbeats 1000000 in
set_option maxRecDepth 100000 in
theorem ini9  : zEv X 1 mX1_init [zR 9] ([.inr (9, [zR 1, zR 3, zR 5, zN, zN, zN, zN, zN, zN, zN]), .inr (6, [zR 2, zI 0]), .inl (2, 600, .inl (fun _ => 0)), .inr (5, [zR 1, zR 4, zI 0, zI 0, zI 0, zI 0, zI 0, zI (-1), zI 0, zI 0, zI 0, zI 0, zI 0]), .inl (0, 39, .inl (fun _ => 0)), .inr (2, [zI 0, zI 0, zI 0, zI 5, zI 0, zR 6, zR 7, zR 8]), .inl (0, 39, .inl (fun _ => 0)), .inl (0, 60, .inl (fun _ => 0)), .inl (0, 2340, .inl (fun _ => 0)), .inr (1, [zI 0])]) (zIs (.inl none) ([.inr (9, [zR 1, zR 3, zR 5, zN, zN, zN, zN, zN, zN, zN]), .inr (6, [zR 2, zI 0]), .inl (2, 600, .inl (fun _ => 0)), .inr (5, [zR 1, zR 4, zI 0, zI 0, zI 0, zI 0, zI 0, zI (-1), zI 0, zI 0, zI 0, zI 0, zI 0]), .inl (0, 39, .inl (fun _ => 0)), .inr (2, [zI 0, zI 0, zI 0, zI 5, zI 0, zR 6, zR 7, zR 8]), .inl (0, 39, .inl (fun _ => 0)), .inl (0, 60, .inl (fun _ => 0)), .inl (0, 2340, .inl (fun _ => 0)), .inr (1, [zI 0])])) := by
  refine zEv_run gX1_init 80 [] rfl ?_
  exact ⟨rfl, rfl⟩
set_option maxHeartbeats 1000000 in
set_option maxRecDepth 100000 in
theorem ini10  : zEv X 1 mX4_init [zR 10, zR 5] ([.inr (9, [zR 1, zR 3, zR 5, zR 9, zN, zN, zN, zN, zN, zN]), .inr (6, [zR 2, zI 0]), .inl (2, 600, .inl (fun _ => 0)), .inr (5, [zR 1, zR 4, zI 0, zI 0, zI 0, zI 0, zI 0, zI (-1), zI 0, zI 0, zI 0, zI 0, zI 0]), .inl (0, 39, .inl (fun _ => 0)), .inr (2, [zI 0, zI 0, zI 0, zI 5, zI 0, zR 6, zR 7, zR 8]), .inl (0, 39, .inl (fun _ => 0)), .inl (0, 60, .inl (fun _ => 0)), .inl (0, 2340, .inl (fun _ => 0)), .inr (1, [zI 0]), .inr (4, [zN, zN, zN, zN])]) (zIs (.inl none) ([.inr (9, [zR 1, zR 3, zR 5, zR 9, zN, zN, zN, zN, zN, zN]), .inr (6, [zR 2, zI 0]), .inl (2, 600, .inl (fun _ => 0)), .inr (5, [zR 1, zR 4, zI 0, zI 0, zI 0, zI 0, zI 0, zI (-1), zI 0, zI 0, zI 0, zI 0, zI 0]), .inl (0, 39, .inl (fun _ => 0)), .inr (2, [zI 0, zI 0, zI 0, zI 5, zI 0, zR 6, zR 7, zR 8]), .inl (0, 39, .inl (fun _ => 0)), .inl (0, 60, .inl (fun _ => 0)), .inl (0, 2340, .inl (fun _ => 0)), .inr (1, [zI 0]), .inr (4, [zR 5, zR 11, zR 12, zR 13]), .inl (1, 31, .inl (fun _ => 0)), .inl (1, 31, .inl (fun _ => 0)), .inl (1, 64, .inl (fun _ => 0))])) := by
  refine zEv_run gX4_init 80 [] rfl ?_
  refine mVc_i ⟨by omega, by omega, by decide, zStb (n := 11) rfl rfl rfl rfl, by show 11 < mSB; decide +kernel⟩ ?_
  refine mVc_i ⟨by omega, by omega, by decide, zStb (n := 12) rfl rfl rfl rfl, by show 12 < mSB; decide +kernel⟩ ?_
  refine mVc_i ⟨by omega, by omega, by decide, zStb (n := 13) rfl rfl rfl rfl, by show 13 < mSB; decide +kernel⟩ ?_
  exact ⟨rfl, rfl⟩
set_option maxHeartbeats 1000000 in
set_option maxRecDepth 100000 in
theorem ini14  : zEv X 1 mX0_init [zR 14, zR 5] ([.inr (9, [zR 1, zR 3, zR 5, zR 9, zR 10, zN, zN, zN, zN, zN]), .inr (6, [zR 2, zI 0]), .inl (2, 600, .inl (fun _ => 0)), .inr (5, [zR 1, zR 4, zI 0, zI 0, zI 0, zI 0, zI 0, zI (-1), zI 0, zI 0, zI 0, zI 0, zI 0]), .inl (0, 39, .inl (fun _ => 0)), .inr (2, [zI 0, zI 0, zI 0, zI 5, zI 0, zR 6, zR 7, zR 8]), .inl (0, 39, .inl (fun _ => 0)), .inl (0, 60, .inl (fun _ => 0)), .inl (0, 2340, .inl (fun _ => 0)), .inr (1, [zI 0]), .inr (4, [zR 5, zR 11, zR 12, zR 13]), .inl (1, 31, .inl (fun _ => 0)), .inl (1, 31, .inl (fun _ => 0)), .inl (1, 64, .inl (fun _ => 0)), .inr (0, [zN])]) (zIs (.inl none) ([.inr (9, [zR 1, zR 3, zR 5, zR 9, zR 10, zN, zN, zN, zN, zN]), .inr (6, [zR 2, zI 0]), .inl (2, 600, .inl (fun _ => 0)), .inr (5, [zR 1, zR 4, zI 0, zI 0, zI 0, zI 0, zI 0, zI (-1), zI 0, zI 0, zI 0, zI 0, zI 0]), .inl (0, 39, .inl (fun _ => 0)), .inr (2, [zI 0, zI 0, zI 0, zI 5, zI 0, zR 6, zR 7, zR 8]), .inl (0, 39, .inl (fun _ => 0)), .inl (0, 60, .inl (fun _ => 0)), .inl (0, 2340, .inl (fun _ => 0)), .inr (1, [zI 0]), .inr (4, [zR 5, zR 11, zR 12, zR 13]), .inl (1, 31, .inl (fun _ => 0)), .inl (1, 31, .inl (fun _ => 0)), .inl (1, 64, .inl (fun _ => 0)), .inr (0, [zR 5])])) := by
  refine zEv_run gX0_init 80 [] rfl ?_
  exact ⟨rfl, rfl⟩
set_option maxHeartbeats 1000000 in
set_option maxRecDepth 100000 in
theorem ini15  : zEv X 1 mX8_init [zR 15, zR 5] ([.inr (9, [zR 1, zR 3, zR 5, zR 9, zR 10, zR 14, zN, zN, zN, zN]), .inr (6, [zR 2, zI 0]), .inl (2, 600, .inl (fun _ => 0)), .inr (5, [zR 1, zR 4, zI 0, zI 0, zI 0, zI 0, zI 0, zI (-1), zI 0, zI 0, zI 0, zI 0, zI 0]), .inl (0, 39, .inl (fun _ => 0)), .inr (2, [zI 0, zI 0, zI 0, zI 5, zI 0, zR 6, zR 7, zR 8]), .inl (0, 39, .inl (fun _ => 0)), .inl (0, 60, .inl (fun _ => 0)), .inl (0, 2340, .inl (fun _ => 0)), .inr (1, [zI 0]), .inr (4, [zR 5, zR 11, zR 12, zR 13]), .inl (1, 31, .inl (fun _ => 0)), .inl (1, 31, .inl (fun _ => 0)), .inl (1, 64, .inl (fun _ => 0)), .inr (0, [zR 5]), .inr (8, [zN, zN, zN])]) (zIs (.inl none) ([.inr (9, [zR 1, zR 3, zR 5, zR 9, zR 10, zR 14, zN, zN, zN, zN]), .inr (6, [zR 2, zI 0]), .inl (2, 600, .inl (fun _ => 0)), .inr (5, [zR 1, zR 4, zI 0, zI 0, zI 0, zI 0, zI 0, zI (-1), zI 0, zI 0, zI 0, zI 0, zI 0]), .inl (0, 39, .inl (fun _ => 0)), .inr (2, [zI 0, zI 0, zI 0, zI 5, zI 0, zR 6, zR 7, zR 8]), .inl (0, 39, .inl (fun _ => 0)), .inl (0, 60, .inl (fun _ => 0)), .inl (0, 2340, .inl (fun _ => 0)), .inr (1, [zI 0]), .inr (4, [zR 5, zR 11, zR 12, zR 13]), .inl (1, 31, .inl (fun _ => 0)), .inl (1, 31, .inl (fun _ => 0)), .inl (1, 64, .inl (fun _ => 0)), .inr (0, [zR 5]), .inr (8, [zR 5, zR 16, zR 17]), .inl (0, 7, .inl (fun _ => 0)), .inl (0, 4, .inl (fun _ => 0))])) := by
  refine zEv_run gX8_init 80 [] rfl ?_
  refine mVc_i ⟨by omega, by omega, by decide, zStb (n := 16) rfl rfl rfl rfl, by show 16 < mSB; decide +kernel⟩ ?_
  refine mVc_i ⟨by omega, by omega, by decide, zStb (n := 17) rfl rfl rfl rfl, by show 17 < mSB; decide +kernel⟩ ?_
  exact ⟨rfl, rfl⟩
set_option maxHeartbeats 1000000 in
set_option maxRecDepth 100000 in
theorem ini18  : zEv X 1 mX3_init [zR 18, zR 5] ([.inr (9, [zR 1, zR 3, zR 5, zR 9, zR 10, zR 14, zR 15, zN, zN, zN]), .inr (6, [zR 2, zI 0]), .inl (2, 600, .inl (fun _ => 0)), .inr (5, [zR 1, zR 4, zI 0, zI 0, zI 0, zI 0, zI 0, zI (-1), zI 0, zI 0, zI 0, zI 0, zI 0]), .inl (0, 39, .inl (fun _ => 0)), .inr (2, [zI 0, zI 0, zI 0, zI 5, zI 0, zR 6, zR 7, zR 8]), .inl (0, 39, .inl (fun _ => 0)), .inl (0, 60, .inl (fun _ => 0)), .inl (0, 2340, .inl (fun _ => 0)), .inr (1, [zI 0]), .inr (4, [zR 5, zR 11, zR 12, zR 13]), .inl (1, 31, .inl (fun _ => 0)), .inl (1, 31, .inl (fun _ => 0)), .inl (1, 64, .inl (fun _ => 0)), .inr (0, [zR 5]), .inr (8, [zR 5, zR 16, zR 17]), .inl (0, 7, .inl (fun _ => 0)), .inl (0, 4, .inl (fun _ => 0)), .inr (3, [zN])]) (zIs (.inl none) ([.inr (9, [zR 1, zR 3, zR 5, zR 9, zR 10, zR 14, zR 15, zN, zN, zN]), .inr (6, [zR 2, zI 0]), .inl (2, 600, .inl (fun _ => 0)), .inr (5, [zR 1, zR 4, zI 0, zI 0, zI 0, zI 0, zI 0, zI (-1), zI 0, zI 0, zI 0, zI 0, zI 0]), .inl (0, 39, .inl (fun _ => 0)), .inr (2, [zI 0, zI 0, zI 0, zI 5, zI 0, zR 6, zR 7, zR 8]), .inl (0, 39, .inl (fun _ => 0)), .inl (0, 60, .inl (fun _ => 0)), .inl (0, 2340, .inl (fun _ => 0)), .inr (1, [zI 0]), .inr (4, [zR 5, zR 11, zR 12, zR 13]), .inl (1, 31, .inl (fun _ => 0)), .inl (1, 31, .inl (fun _ => 0)), .inl (1, 64, .inl (fun _ => 0)), .inr (0, [zR 5]), .inr (8, [zR 5, zR 16, zR 17]), .inl (0, 7, .inl (fun _ => 0)), .inl (0, 4, .inl (fun _ => 0)), .inr (3, [zR 5])])) := by
  refine zEv_run gX3_init 80 [] rfl ?_
  exact ⟨rfl, rfl⟩
theorem tr0 {n : Nat} (hn : 20 ≤ n) : ∀ i j : Nat, ((fun _ => none) : Nat → Option Nat) i = some j → j < n := by
  intro i j q
  cases q
set_option maxHeartbeats 1000000 in
set_option maxRecDepth 100000 in
theorem ini20  : zEv X 1 mX7_init [zR 20] ([.inr (9, [zR 1, zR 3, zR 5, zR 9, zR 10, zR 14, zR 15, zR 18, zR 19, zN]), .inr (6, [zR 2, zI 0]), .inl (2, 600, .inl (fun _ => 0)), .inr (5, [zR 1, zR 4, zI 0, zI 0, zI 0, zI 0, zI 0, zI (-1), zI 0, zI 0, zI 0, zI 0, zI 0]), .inl (0, 39, .inl (fun _ => 0)), .inr (2, [zI 0, zI 0, zI 0, zI 5, zI 0, zR 6, zR 7, zR 8]), .inl (0, 39, .inl (fun _ => 0)), .inl (0, 60, .inl (fun _ => 0)), .inl (0, 2340, .inl (fun _ => 0)), .inr (1, [zI 0]), .inr (4, [zR 5, zR 11, zR 12, zR 13]), .inl (1, 31, .inl (fun _ => 0)), .inl (1, 31, .inl (fun _ => 0)), .inl (1, 64, .inl (fun _ => 0)), .inr (0, [zR 5]), .inr (8, [zR 5, zR 16, zR 17]), .inl (0, 7, .inl (fun _ => 0)), .inl (0, 4, .inl (fun _ => 0)), .inr (3, [zR 5]), .inl (4, 4, .inr (fun _ => none)), .inr (7, [zN, zI 0, zI 0, zI 0])]) (zIs (.inl none) ([.inr (9, [zR 1, zR 3, zR 5, zR 9, zR 10, zR 14, zR 15, zR 18, zR 19, zN]), .inr (6, [zR 2, zI 0]), .inl (2, 600, .inl (fun _ => 0)), .inr (5, [zR 1, zR 4, zI 0, zI 0, zI 0, zI 0, zI 0, zI (-1), zI 0, zI 0, zI 0, zI 0, zI 0]), .inl (0, 39, .inl (fun _ => 0)), .inr (2, [zI 0, zI 0, zI 0, zI 5, zI 0, zR 6, zR 7, zR 8]), .inl (0, 39, .inl (fun _ => 0)), .inl (0, 60, .inl (fun _ => 0)), .inl (0, 2340, .inl (fun _ => 0)), .inr (1, [zI 0]), .inr (4, [zR 5, zR 11, zR 12, zR 13]), .inl (1, 31, .inl (fun _ => 0)), .inl (1, 31, .inl (fun _ => 0)), .inl (1, 64, .inl (fun _ => 0)), .inr (0, [zR 5]), .inr (8, [zR 5, zR 16, zR 17]), .inl (0, 7, .inl (fun _ => 0)), .inl (0, 4, .inl (fun _ => 0)), .inr (3, [zR 5]), .inl (4, 4, .inr (fun _ => none)), .inr (7, [zR 21, zI 1, zI 0, zI 0]), .inl (1, 30, .inl (fun _ => 0))])) := by
  refine zEv_run gX7_init 80 [] rfl ?_
  refine mVc_i ⟨by omega, by omega, by decide, zStc (p := [.inr (9, [zR 1, zR 3, zR 5, zR 9, zR 10, zR 14, zR 15, zR 18, zR 19, zN]), .inr (6, [zR 2, zI 0]), .inl (2, 600, .inl (fun _ => 0)), .inr (5, [zR 1, zR 4, zI 0, zI 0, zI 0, zI 0, zI 0, zI (-1), zI 0, zI 0, zI 0, zI 0, zI 0]), .inl (0, 39, .inl (fun _ => 0)), .inr (2, [zI 0, zI 0, zI 0, zI 5, zI 0, zR 6, zR 7, zR 8]), .inl (0, 39, .inl (fun _ => 0)), .inl (0, 60, .inl (fun _ => 0)), .inl (0, 2340, .inl (fun _ => 0)), .inr (1, [zI 0]), .inr (4, [zR 5, zR 11, zR 12, zR 13]), .inl (1, 31, .inl (fun _ => 0)), .inl (1, 31, .inl (fun _ => 0)), .inl (1, 64, .inl (fun _ => 0)), .inr (0, [zR 5]), .inr (8, [zR 5, zR 16, zR 17]), .inl (0, 7, .inl (fun _ => 0)), .inl (0, 4, .inl (fun _ => 0)), .inr (3, [zR 5])]) (e := .inl (4, 4, .inr (fun _ => none))) (r := [.inr (7, [zN, zI 0, zI 0, zI 0])]) (n := 21) rfl rfl (tr0 (by omega)) rfl rfl rfl, by show 21 < mSB; decide +kernel⟩ ?_
  exact ⟨rfl, rfl⟩
theorem tr1 {n : Nat} (hn : 22 ≤ n) : ∀ i j : Nat, ((va_up (fun _ => none) 0 (some 20)) : Nat → Option Nat) i = some j → j < n := by
  intro i j q
  simp only [va_up] at q
  repeat (first | (split at q) | (cases q; omega) | (cases q))
set_option maxHeartbeats 1000000 in
set_option maxRecDepth 100000 in
theorem ini22  : zEv X 1 mX7_init [zR 22] ([.inr (9, [zR 1, zR 3, zR 5, zR 9, zR 10, zR 14, zR 15, zR 18, zR 19, zN]), .inr (6, [zR 2, zI 0]), .inl (2, 600, .inl (fun _ => 0)), .inr (5, [zR 1, zR 4, zI 0, zI 0, zI 0, zI 0, zI 0, zI (-1), zI 0, zI 0, zI 0, zI 0, zI 0]), .inl (0, 39, .inl (fun _ => 0)), .inr (2, [zI 0, zI 0, zI 0, zI 5, zI 0, zR 6, zR 7, zR 8]), .inl (0, 39, .inl (fun _ => 0)), .inl (0, 60, .inl (fun _ => 0)), .inl (0, 2340, .inl (fun _ => 0)), .inr (1, [zI 0]), .inr (4, [zR 5, zR 11, zR 12, zR 13]), .inl (1, 31, .inl (fun _ => 0)), .inl (1, 31, .inl (fun _ => 0)), .inl (1, 64, .inl (fun _ => 0)), .inr (0, [zR 5]), .inr (8, [zR 5, zR 16, zR 17]), .inl (0, 7, .inl (fun _ => 0)), .inl (0, 4, .inl (fun _ => 0)), .inr (3, [zR 5]), .inl (4, 4, .inr (va_up (fun _ => none) 0 (some 20))), .inr (7, [zR 21, zI 1, zI 0, zI 0]), .inl (1, 30, .inl (fun _ => 0)), .inr (7, [zN, zI 0, zI 0, zI 0])]) (zIs (.inl none) ([.inr (9, [zR 1, zR 3, zR 5, zR 9, zR 10, zR 14, zR 15, zR 18, zR 19, zN]), .inr (6, [zR 2, zI 0]), .inl (2, 600, .inl (fun _ => 0)), .inr (5, [zR 1, zR 4, zI 0, zI 0, zI 0, zI 0, zI 0, zI (-1), zI 0, zI 0, zI 0, zI 0, zI 0]), .inl (0, 39, .inl (fun _ => 0)), .inr (2, [zI 0, zI 0, zI 0, zI 5, zI 0, zR 6, zR 7, zR 8]), .inl (0, 39, .inl (fun _ => 0)), .inl (0, 60, .inl (fun _ => 0)), .inl (0, 2340, .inl (fun _ => 0)), .inr (1, [zI 0]), .inr (4, [zR 5, zR 11, zR 12, zR 13]), .inl (1, 31, .inl (fun _ => 0)), .inl (1, 31, .inl (fun _ => 0)), .inl (1, 64, .inl (fun _ => 0)), .inr (0, [zR 5]), .inr (8, [zR 5, zR 16, zR 17]), .inl (0, 7, .inl (fun _ => 0)), .inl (0, 4, .inl (fun _ => 0)), .inr (3, [zR 5]), .inl (4, 4, .inr (va_up (fun _ => none) 0 (some 20))), .inr (7, [zR 21, zI 1, zI 0, zI 0]), .inl (1, 30, .inl (fun _ => 0)), .inr (7, [zR 23, zI 1, zI 0, zI 0]), .inl (1, 30, .inl (fun _ => 0))])) := by
  refine zEv_run gX7_init 80 [] rfl ?_
  refine mVc_i ⟨by omega, by omega, by decide, zStc (p := [.inr (9, [zR 1, zR 3, zR 5, zR 9, zR 10, zR 14, zR 15, zR 18, zR 19, zN]), .inr (6, [zR 2, zI 0]), .inl (2, 600, .inl (fun _ => 0)), .inr (5, [zR 1, zR 4, zI 0, zI 0, zI 0, zI 0, zI 0, zI (-1), zI 0, zI 0, zI 0, zI 0, zI 0]), .inl (0, 39, .inl (fun _ => 0)), .inr (2, [zI 0, zI 0, zI 0, zI 5, zI 0, zR 6, zR 7, zR 8]), .inl (0, 39, .inl (fun _ => 0)), .inl (0, 60, .inl (fun _ => 0)), .inl (0, 2340, .inl (fun _ => 0)), .inr (1, [zI 0]), .inr (4, [zR 5, zR 11, zR 12, zR 13]), .inl (1, 31, .inl (fun _ => 0)), .inl (1, 31, .inl (fun _ => 0)), .inl (1, 64, .inl (fun _ => 0)), .inr (0, [zR 5]), .inr (8, [zR 5, zR 16, zR 17]), .inl (0, 7, .inl (fun _ => 0)), .inl (0, 4, .inl (fun _ => 0)), .inr (3, [zR 5])]) (e := .inl (4, 4, .inr (va_up (fun _ => none) 0 (some 20)))) (r := [.inr (7, [zR 21, zI 1, zI 0, zI 0]), .inl (1, 30, .inl (fun _ => 0)), .inr (7, [zN, zI 0, zI 0, zI 0])]) (n := 23) rfl rfl (tr1 (by omega)) rfl rfl rfl, by show 23 < mSB; decide +kernel⟩ ?_
  exact ⟨rfl, rfl⟩
theorem tr2 {n : Nat} (hn : 24 ≤ n) : ∀ i j : Nat, ((va_up (va_up (fun _ => none) 0 (some 20)) 1 (some 22)) : Nat → Option Nat) i = some j → j < n := by
  intro i j q
  simp only [va_up] at q
  repeat (first | (split at q) | (cases q; omega) | (cases q))
set_option maxHeartbeats 1000000 in
set_option maxRecDepth 100000 in
theorem ini24  : zEv X 1 mX7_init [zR 24] ([.inr (9, [zR 1, zR 3, zR 5, zR 9, zR 10, zR 14, zR 15, zR 18, zR 19, zN]), .inr (6, [zR 2, zI 0]), .inl (2, 600, .inl (fun _ => 0)), .inr (5, [zR 1, zR 4, zI 0, zI 0, zI 0, zI 0, zI 0, zI (-1), zI 0, zI 0, zI 0, zI 0, zI 0]), .inl (0, 39, .inl (fun _ => 0)), .inr (2, [zI 0, zI 0, zI 0, zI 5, zI 0, zR 6, zR 7, zR 8]), .inl (0, 39, .inl (fun _ => 0)), .inl (0, 60, .inl (fun _ => 0)), .inl (0, 2340, .inl (fun _ => 0)), .inr (1, [zI 0]), .inr (4, [zR 5, zR 11, zR 12, zR 13]), .inl (1, 31, .inl (fun _ => 0)), .inl (1, 31, .inl (fun _ => 0)), .inl (1, 64, .inl (fun _ => 0)), .inr (0, [zR 5]), .inr (8, [zR 5, zR 16, zR 17]), .inl (0, 7, .inl (fun _ => 0)), .inl (0, 4, .inl (fun _ => 0)), .inr (3, [zR 5]), .inl (4, 4, .inr (va_up (va_up (fun _ => none) 0 (some 20)) 1 (some 22))), .inr (7, [zR 21, zI 1, zI 0, zI 0]), .inl (1, 30, .inl (fun _ => 0)), .inr (7, [zR 23, zI 1, zI 0, zI 0]), .inl (1, 30, .inl (fun _ => 0)), .inr (7, [zN, zI 0, zI 0, zI 0])]) (zIs (.inl none) ([.inr (9, [zR 1, zR 3, zR 5, zR 9, zR 10, zR 14, zR 15, zR 18, zR 19, zN]), .inr (6, [zR 2, zI 0]), .inl (2, 600, .inl (fun _ => 0)), .inr (5, [zR 1, zR 4, zI 0, zI 0, zI 0, zI 0, zI 0, zI (-1), zI 0, zI 0, zI 0, zI 0, zI 0]), .inl (0, 39, .inl (fun _ => 0)), .inr (2, [zI 0, zI 0, zI 0, zI 5, zI 0, zR 6, zR 7, zR 8]), .inl (0, 39, .inl (fun _ => 0)), .inl (0, 60, .inl (fun _ => 0)), .inl (0, 2340, .inl (fun _ => 0)), .inr (1, [zI 0]), .inr (4, [zR 5, zR 11, zR 12, zR 13]), .inl (1, 31, .inl (fun _ => 0)), .inl (1, 31, .inl (fun _ => 0)), .inl (1, 64, .inl (fun _ => 0)), .inr (0, [zR 5]), .inr (8, [zR 5, zR 16, zR 17]), .inl (0, 7, .inl (fun _ => 0)), .inl (0, 4, .inl (fun _ => 0)), .inr (3, [zR 5]), .inl (4, 4, .inr (va_up (va_up (fun _ => none) 0 (some 20)) 1 (some 22))), .inr (7, [zR 21, zI 1, zI 0, zI 0]), .inl (1, 30, .inl (fun _ => 0)), .inr (7, [zR 23, zI 1, zI 0, zI 0]), .inl (1, 30, .inl (fun _ => 0)), .inr (7, [zR 25, zI 1, zI 0, zI 0]), .inl (1, 30, .inl (fun _ => 0))])) := by
  refine zEv_run gX7_init 80 [] rfl ?_
  refine mVc_i ⟨by omega, by omega, by decide, zStc (p := [.inr (9, [zR 1, zR 3, zR 5, zR 9, zR 10, zR 14, zR 15, zR 18, zR 19, zN]), .inr (6, [zR 2, zI 0]), .inl (2, 600, .inl (fun _ => 0)), .inr (5, [zR 1, zR 4, zI 0, zI 0, zI 0, zI 0, zI 0, zI (-1), zI 0, zI 0, zI 0, zI 0, zI 0]), .inl (0, 39, .inl (fun _ => 0)), .inr (2, [zI 0, zI 0, zI 0, zI 5, zI 0, zR 6, zR 7, zR 8]), .inl (0, 39, .inl (fun _ => 0)), .inl (0, 60, .inl (fun _ => 0)), .inl (0, 2340, .inl (fun _ => 0)), .inr (1, [zI 0]), .inr (4, [zR 5, zR 11, zR 12, zR 13]), .inl (1, 31, .inl (fun _ => 0)), .inl (1, 31, .inl (fun _ => 0)), .inl (1, 64, .inl (fun _ => 0)), .inr (0, [zR 5]), .inr (8, [zR 5, zR 16, zR 17]), .inl (0, 7, .inl (fun _ => 0)), .inl (0, 4, .inl (fun _ => 0)), .inr (3, [zR 5])]) (e := .inl (4, 4, .inr (va_up (va_up (fun _ => none) 0 (some 20)) 1 (some 22)))) (r := [.inr (7, [zR 21, zI 1, zI 0, zI 0]), .inl (1, 30, .inl (fun _ => 0)), .inr (7, [zR 23, zI 1, zI 0, zI 0]), .inl (1, 30, .inl (fun _ => 0)), .inr (7, [zN, zI 0, zI 0, zI 0])]) (n := 25) rfl rfl (tr2 (by omega)) rfl rfl rfl, by show 25 < mSB; decide +kernel⟩ ?_
  exact ⟨rfl, rfl⟩
theorem tr3 {n : Nat} (hn : 26 ≤ n) : ∀ i j : Nat, ((va_up (va_up (va_up (fun _ => none) 0 (some 20)) 1 (some 22)) 2 (some 24)) : Nat → Option Nat) i = some j → j < n := by
  intro i j q
  simp only [va_up] at q
  repeat (first | (split at q) | (cases q; omega) | (cases q))
set_option maxHeartbeats 1000000 in
set_option maxRecDepth 100000 in
theorem ini26  : zEv X 1 mX7_init [zR 26] ([.inr (9, [zR 1, zR 3, zR 5, zR 9, zR 10, zR 14, zR 15, zR 18, zR 19, zN]), .inr (6, [zR 2, zI 0]), .inl (2, 600, .inl (fun _ => 0)), .inr (5, [zR 1, zR 4, zI 0, zI 0, zI 0, zI 0, zI 0, zI (-1), zI 0, zI 0, zI 0, zI 0, zI 0]), .inl (0, 39, .inl (fun _ => 0)), .inr (2, [zI 0, zI 0, zI 0, zI 5, zI 0, zR 6, zR 7, zR 8]), .inl (0, 39, .inl (fun _ => 0)), .inl (0, 60, .inl (fun _ => 0)), .inl (0, 2340, .inl (fun _ => 0)), .inr (1, [zI 0]), .inr (4, [zR 5, zR 11, zR 12, zR 13]), .inl (1, 31, .inl (fun _ => 0)), .inl (1, 31, .inl (fun _ => 0)), .inl (1, 64, .inl (fun _ => 0)), .inr (0, [zR 5]), .inr (8, [zR 5, zR 16, zR 17]), .inl (0, 7, .inl (fun _ => 0)), .inl (0, 4, .inl (fun _ => 0)), .inr (3, [zR 5]), .inl (4, 4, .inr (va_up (va_up (va_up (fun _ => none) 0 (some 20)) 1 (some 22)) 2 (some 24))), .inr (7, [zR 21, zI 1, zI 0, zI 0]), .inl (1, 30, .inl (fun _ => 0)), .inr (7, [zR 23, zI 1, zI 0, zI 0]), .inl (1, 30, .inl (fun _ => 0)), .inr (7, [zR 25, zI 1, zI 0, zI 0]), .inl (1, 30, .inl (fun _ => 0)), .inr (7, [zN, zI 0, zI 0, zI 0])]) (zIs (.inl none) ([.inr (9, [zR 1, zR 3, zR 5, zR 9, zR 10, zR 14, zR 15, zR 18, zR 19, zN]), .inr (6, [zR 2, zI 0]), .inl (2, 600, .inl (fun _ => 0)), .inr (5, [zR 1, zR 4, zI 0, zI 0, zI 0, zI 0, zI 0, zI (-1), zI 0, zI 0, zI 0, zI 0, zI 0]), .inl (0, 39, .inl (fun _ => 0)), .inr (2, [zI 0, zI 0, zI 0, zI 5, zI 0, zR 6, zR 7, zR 8]), .inl (0, 39, .inl (fun _ => 0)), .inl (0, 60, .inl (fun _ => 0)), .inl (0, 2340, .inl (fun _ => 0)), .inr (1, [zI 0]), .inr (4, [zR 5, zR 11, zR 12, zR 13]), .inl (1, 31, .inl (fun _ => 0)), .inl (1, 31, .inl (fun _ => 0)), .inl (1, 64, .inl (fun _ => 0)), .inr (0, [zR 5]), .inr (8, [zR 5, zR 16, zR 17]), .inl (0, 7, .inl (fun _ => 0)), .inl (0, 4, .inl (fun _ => 0)), .inr (3, [zR 5]), .inl (4, 4, .inr (va_up (va_up (va_up (fun _ => none) 0 (some 20)) 1 (some 22)) 2 (some 24))), .inr (7, [zR 21, zI 1, zI 0, zI 0]), .inl (1, 30, .inl (fun _ => 0)), .inr (7, [zR 23, zI 1, zI 0, zI 0]), .inl (1, 30, .inl (fun _ => 0)), .inr (7, [zR 25, zI 1, zI 0, zI 0]), .inl (1, 30, .inl (fun _ => 0)), .inr (7, [zR 27, zI 1, zI 0, zI 0]), .inl (1, 30, .inl (fun _ => 0))])) := by
  refine zEv_run gX7_init 80 [] rfl ?_
  refine mVc_i ⟨by omega, by omega, by decide, zStc (p := [.inr (9, [zR 1, zR 3, zR 5, zR 9, zR 10, zR 14, zR 15, zR 18, zR 19, zN]), .inr (6, [zR 2, zI 0]), .inl (2, 600, .inl (fun _ => 0)), .inr (5, [zR 1, zR 4, zI 0, zI 0, zI 0, zI 0, zI 0, zI (-1), zI 0, zI 0, zI 0, zI 0, zI 0]), .inl (0, 39, .inl (fun _ => 0)), .inr (2, [zI 0, zI 0, zI 0, zI 5, zI 0, zR 6, zR 7, zR 8]), .inl (0, 39, .inl (fun _ => 0)), .inl (0, 60, .inl (fun _ => 0)), .inl (0, 2340, .inl (fun _ => 0)), .inr (1, [zI 0]), .inr (4, [zR 5, zR 11, zR 12, zR 13]), .inl (1, 31, .inl (fun _ => 0)), .inl (1, 31, .inl (fun _ => 0)), .inl (1, 64, .inl (fun _ => 0)), .inr (0, [zR 5]), .inr (8, [zR 5, zR 16, zR 17]), .inl (0, 7, .inl (fun _ => 0)), .inl (0, 4, .inl (fun _ => 0)), .inr (3, [zR 5])]) (e := .inl (4, 4, .inr (va_up (va_up (va_up (fun _ => none) 0 (some 20)) 1 (some 22)) 2 (some 24)))) (r := [.inr (7, [zR 21, zI 1, zI 0, zI 0]), .inl (1, 30, .inl (fun _ => 0)), .inr (7, [zR 23, zI 1, zI 0, zI 0]), .inl (1, 30, .inl (fun _ => 0)), .inr (7, [zR 25, zI 1, zI 0, zI 0]), .inl (1, 30, .inl (fun _ => 0)), .inr (7, [zN, zI 0, zI 0, zI 0])]) (n := 27) rfl rfl (tr3 (by omega)) rfl rfl rfl, by show 27 < mSB; decide +kernel⟩ ?_
  exact ⟨rfl, rfl⟩
theorem tr4 {n : Nat} (hn : 28 ≤ n) : ∀ i j : Nat, ((va_up (va_up (va_up (va_up (fun _ => none) 0 (some 20)) 1 (some 22)) 2 (some 24)) 3 (some 26)) : Nat → Option Nat) i = some j → j < n := by
  intro i j q
  simp only [va_up] at q
  repeat (first | (split at q) | (cases q; omega) | (cases q))
theorem tr_e : (va_up (va_up (va_up (va_up (fun _ => none) 0 (some 20)) 1 (some 22)) 2 (some 24)) 3 (some 26)) = (fun i => match i with
     | 0 => some 20
     | 1 => some 22
     | 2 => some 24
     | 3 => some 26
     | _ => none) := by
  funext i
  rcases i with _ | _ | _ | _ | i <;> simp [va_up]
set_option maxHeartbeats 1000000 in
set_option maxRecDepth 100000 in
theorem cInit  : zEv X 11 mX9_init [zR 0] ([.inr (9, [zN, zN, zN, zN, zN, zN, zN, zN, zN, zN])]) (zIs (.inl none) (cX s0)) := by
  refine zEv_run gX9_init 300 [] rfl ?_
  refine mVc_i ⟨zStb (n := 1) rfl rfl rfl rfl, by show 1 < mSB; decide +kernel⟩ ?_
  refine zCl_e (ini1) (by decide) ?_
  refine mVc_i ⟨zStb (n := 3) rfl rfl rfl rfl, by show 3 < mSB; decide +kernel⟩ ?_
  refine zCl_e (ini3) (by decide) ?_
  refine mVc_i ⟨zStb (n := 5) rfl rfl rfl rfl, by show 5 < mSB; decide +kernel⟩ ?_
  refine zCl_e (ini5) (by decide) ?_
  refine mVc_i ⟨zStb (n := 9) rfl rfl rfl rfl, by show 9 < mSB; decide +kernel⟩ ?_
  refine zCl_e (ini9) (by decide) ?_
  refine mVc_i ⟨zStb (n := 10) rfl rfl rfl rfl, by show 10 < mSB; decide +kernel⟩ ?_
  refine zCl_e (ini10) (by decide) ?_
  refine mVc_i ⟨zStb (n := 14) rfl rfl rfl rfl, by show 14 < mSB; decide +kernel⟩ ?_
  refine zCl_e (ini14) (by decide) ?_
  refine mVc_i ⟨zStb (n := 15) rfl rfl rfl rfl, by show 15 < mSB; decide +kernel⟩ ?_
  refine zCl_e (ini15) (by decide) ?_
  refine mVc_i ⟨zStb (n := 18) rfl rfl rfl rfl, by show 18 < mSB; decide +kernel⟩ ?_
  refine zCl_e (ini18) (by decide) ?_
  refine mVc_i ⟨by omega, by omega, by decide, zStb (n := 19) rfl rfl rfl rfl, by show 19 < mSB; decide +kernel⟩ ?_
  refine zBrF (by simp only [rI]; omega) (by omega) ?_
  refine mVc_i ⟨zStc (p := [.inr (9, [zR 1, zR 3, zR 5, zR 9, zR 10, zR 14, zR 15, zR 18, zR 19, zN]), .inr (6, [zR 2, zI 0]), .inl (2, 600, .inl (fun _ => 0)), .inr (5, [zR 1, zR 4, zI 0, zI 0, zI 0, zI 0, zI 0, zI (-1), zI 0, zI 0, zI 0, zI 0, zI 0]), .inl (0, 39, .inl (fun _ => 0)), .inr (2, [zI 0, zI 0, zI 0, zI 5, zI 0, zR 6, zR 7, zR 8]), .inl (0, 39, .inl (fun _ => 0)), .inl (0, 60, .inl (fun _ => 0)), .inl (0, 2340, .inl (fun _ => 0)), .inr (1, [zI 0]), .inr (4, [zR 5, zR 11, zR 12, zR 13]), .inl (1, 31, .inl (fun _ => 0)), .inl (1, 31, .inl (fun _ => 0)), .inl (1, 64, .inl (fun _ => 0)), .inr (0, [zR 5]), .inr (8, [zR 5, zR 16, zR 17]), .inl (0, 7, .inl (fun _ => 0)), .inl (0, 4, .inl (fun _ => 0)), .inr (3, [zR 5])]) (e := .inl (4, 4, .inr (fun _ => none))) (r := []) (n := 20) rfl rfl (tr0 (by omega)) rfl rfl rfl, by show 20 < mSB; decide +kernel⟩ ?_
  refine zCl_e (ini20) (by decide) ?_
  refine mVc_i (by omega) ?_
  refine zBrF (by simp only [rI]; omega) (by omega) ?_
  refine mVc_i ⟨zStc (p := [.inr (9, [zR 1, zR 3, zR 5, zR 9, zR 10, zR 14, zR 15, zR 18, zR 19, zN]), .inr (6, [zR 2, zI 0]), .inl (2, 600, .inl (fun _ => 0)), .inr (5, [zR 1, zR 4, zI 0, zI 0, zI 0, zI 0, zI 0, zI (-1), zI 0, zI 0, zI 0, zI 0, zI 0]), .inl (0, 39, .inl (fun _ => 0)), .inr (2, [zI 0, zI 0, zI 0, zI 5, zI 0, zR 6, zR 7, zR 8]), .inl (0, 39, .inl (fun _ => 0)), .inl (0, 60, .inl (fun _ => 0)), .inl (0, 2340, .inl (fun _ => 0)), .inr (1, [zI 0]), .inr (4, [zR 5, zR 11, zR 12, zR 13]), .inl (1, 31, .inl (fun _ => 0)), .inl (1, 31, .inl (fun _ => 0)), .inl (1, 64, .inl (fun _ => 0)), .inr (0, [zR 5]), .inr (8, [zR 5, zR 16, zR 17]), .inl (0, 7, .inl (fun _ => 0)), .inl (0, 4, .inl (fun _ => 0)), .inr (3, [zR 5])]) (e := .inl (4, 4, .inr (va_up (fun _ => none) 0 (some 20)))) (r := [.inr (7, [zR 21, zI 1, zI 0, zI 0]), .inl (1, 30, .inl (fun _ => 0))]) (n := 22) rfl rfl (tr1 (by omega)) rfl rfl rfl, by show 22 < mSB; decide +kernel⟩ ?_
  refine zCl_e (ini22) (by decide) ?_
  refine mVc_i (by omega) ?_
  refine zBrF (by simp only [rI]; omega) (by omega) ?_
  refine mVc_i ⟨zStc (p := [.inr (9, [zR 1, zR 3, zR 5, zR 9, zR 10, zR 14, zR 15, zR 18, zR 19, zN]), .inr (6, [zR 2, zI 0]), .inl (2, 600, .inl (fun _ => 0)), .inr (5, [zR 1, zR 4, zI 0, zI 0, zI 0, zI 0, zI 0, zI (-1), zI 0, zI 0, zI 0, zI 0, zI 0]), .inl (0, 39, .inl (fun _ => 0)), .inr (2, [zI 0, zI 0, zI 0, zI 5, zI 0, zR 6, zR 7, zR 8]), .inl (0, 39, .inl (fun _ => 0)), .inl (0, 60, .inl (fun _ => 0)), .inl (0, 2340, .inl (fun _ => 0)), .inr (1, [zI 0]), .inr (4, [zR 5, zR 11, zR 12, zR 13]), .inl (1, 31, .inl (fun _ => 0)), .inl (1, 31, .inl (fun _ => 0)), .inl (1, 64, .inl (fun _ => 0)), .inr (0, [zR 5]), .inr (8, [zR 5, zR 16, zR 17]), .inl (0, 7, .inl (fun _ => 0)), .inl (0, 4, .inl (fun _ => 0)), .inr (3, [zR 5])]) (e := .inl (4, 4, .inr (va_up (va_up (fun _ => none) 0 (some 20)) 1 (some 22)))) (r := [.inr (7, [zR 21, zI 1, zI 0, zI 0]), .inl (1, 30, .inl (fun _ => 0)), .inr (7, [zR 23, zI 1, zI 0, zI 0]), .inl (1, 30, .inl (fun _ => 0))]) (n := 24) rfl rfl (tr2 (by omega)) rfl rfl rfl, by show 24 < mSB; decide +kernel⟩ ?_
  refine zCl_e (ini24) (by decide) ?_
  refine mVc_i (by omega) ?_
  refine zBrF (by simp only [rI]; omega) (by omega) ?_
  refine mVc_i ⟨zStc (p := [.inr (9, [zR 1, zR 3, zR 5, zR 9, zR 10, zR 14, zR 15, zR 18, zR 19, zN]), .inr (6, [zR 2, zI 0]), .inl (2, 600, .inl (fun _ => 0)), .inr (5, [zR 1, zR 4, zI 0, zI 0, zI 0, zI 0, zI 0, zI (-1), zI 0, zI 0, zI 0, zI 0, zI 0]), .inl (0, 39, .inl (fun _ => 0)), .inr (2, [zI 0, zI 0, zI 0, zI 5, zI 0, zR 6, zR 7, zR 8]), .inl (0, 39, .inl (fun _ => 0)), .inl (0, 60, .inl (fun _ => 0)), .inl (0, 2340, .inl (fun _ => 0)), .inr (1, [zI 0]), .inr (4, [zR 5, zR 11, zR 12, zR 13]), .inl (1, 31, .inl (fun _ => 0)), .inl (1, 31, .inl (fun _ => 0)), .inl (1, 64, .inl (fun _ => 0)), .inr (0, [zR 5]), .inr (8, [zR 5, zR 16, zR 17]), .inl (0, 7, .inl (fun _ => 0)), .inl (0, 4, .inl (fun _ => 0)), .inr (3, [zR 5])]) (e := .inl (4, 4, .inr (va_up (va_up (va_up (fun _ => none) 0 (some 20)) 1 (some 22)) 2 (some 24)))) (r := [.inr (7, [zR 21, zI 1, zI 0, zI 0]), .inl (1, 30, .inl (fun _ => 0)), .inr (7, [zR 23, zI 1, zI 0, zI 0]), .inl (1, 30, .inl (fun _ => 0)), .inr (7, [zR 25, zI 1, zI 0, zI 0]), .inl (1, 30, .inl (fun _ => 0))]) (n := 26) rfl rfl (tr3 (by omega)) rfl rfl rfl, by show 26 < mSB; decide +kernel⟩ ?_
  refine zCl_e (ini26) (by decide) ?_
  refine mVc_i (by omega) ?_
  refine zBrT (by simp only [rI]; omega) (by omega) ?_
  refine mVc_i ⟨by omega, by omega, by decide, zStc (p := [.inr (9, [zR 1, zR 3, zR 5, zR 9, zR 10, zR 14, zR 15, zR 18, zR 19, zN]), .inr (6, [zR 2, zI 0]), .inl (2, 600, .inl (fun _ => 0)), .inr (5, [zR 1, zR 4, zI 0, zI 0, zI 0, zI 0, zI 0, zI (-1), zI 0, zI 0, zI 0, zI 0, zI 0]), .inl (0, 39, .inl (fun _ => 0)), .inr (2, [zI 0, zI 0, zI 0, zI 5, zI 0, zR 6, zR 7, zR 8]), .inl (0, 39, .inl (fun _ => 0)), .inl (0, 60, .inl (fun _ => 0)), .inl (0, 2340, .inl (fun _ => 0)), .inr (1, [zI 0]), .inr (4, [zR 5, zR 11, zR 12, zR 13]), .inl (1, 31, .inl (fun _ => 0)), .inl (1, 31, .inl (fun _ => 0)), .inl (1, 64, .inl (fun _ => 0)), .inr (0, [zR 5]), .inr (8, [zR 5, zR 16, zR 17]), .inl (0, 7, .inl (fun _ => 0)), .inl (0, 4, .inl (fun _ => 0)), .inr (3, [zR 5])]) (e := .inl (4, 4, .inr (va_up (va_up (va_up (va_up (fun _ => none) 0 (some 20)) 1 (some 22)) 2 (some 24)) 3 (some 26)))) (r := [.inr (7, [zR 21, zI 1, zI 0, zI 0]), .inl (1, 30, .inl (fun _ => 0)), .inr (7, [zR 23, zI 1, zI 0, zI 0]), .inl (1, 30, .inl (fun _ => 0)), .inr (7, [zR 25, zI 1, zI 0, zI 0]), .inl (1, 30, .inl (fun _ => 0)), .inr (7, [zR 27, zI 1, zI 0, zI 0]), .inl (1, 30, .inl (fun _ => 0))]) (n := 28) rfl rfl (tr4 (by omega)) rfl rfl rfl, by show 28 < mSB; decide +kernel⟩ ?_
  refine ⟨rfl, ?_⟩
  show [.inr (9, [zR 1, zR 3, zR 5, zR 9, zR 10, zR 14, zR 15, zR 18, zR 19, zR 28]), .inr (6, [zR 2, zI 0]), .inl (2, 600, .inl (fun _ => 0)), .inr (5, [zR 1, zR 4, zI 0, zI 0, zI 0, zI 0, zI 0, zI (-1), zI 0, zI 0, zI 0, zI 0, zI 0]), .inl (0, 39, .inl (fun _ => 0)), .inr (2, [zI 0, zI 0, zI 0, zI 5, zI 0, zR 6, zR 7, zR 8]), .inl (0, 39, .inl (fun _ => 0)), .inl (0, 60, .inl (fun _ => 0)), .inl (0, 2340, .inl (fun _ => 0)), .inr (1, [zI 0]), .inr (4, [zR 5, zR 11, zR 12, zR 13]), .inl (1, 31, .inl (fun _ => 0)), .inl (1, 31, .inl (fun _ => 0)), .inl (1, 64, .inl (fun _ => 0)), .inr (0, [zR 5]), .inr (8, [zR 5, zR 16, zR 17]), .inl (0, 7, .inl (fun _ => 0)), .inl (0, 4, .inl (fun _ => 0)), .inr (3, [zR 5])] ++ (.inl (4, 4, .inr (va_up (va_up (va_up (va_up (fun _ => none) 0 (some 20)) 1 (some 22)) 2 (some 24)) 3 (some 26))) :: [.inr (7, [zR 21, zI 1, zI 0, zI 0]), .inl (1, 30, .inl (fun _ => 0)), .inr (7, [zR 23, zI 1, zI 0, zI 0]), .inl (1, 30, .inl (fun _ => 0)), .inr (7, [zR 25, zI 1, zI 0, zI 0]), .inl (1, 30, .inl (fun _ => 0)), .inr (7, [zR 27, zI 1, zI 0, zI 0]), .inl (1, 30, .inl (fun _ => 0)), .inl (5, 3, .inr (fun _ => none))]) = cX s0
  rw [tr_e]
  rfl
end Ini
