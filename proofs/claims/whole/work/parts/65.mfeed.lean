/-! the reference: feed, count, image, restore -/
theorem va_up_2 {α : Type} (f : Nat → α) (i : Nat) (x y : α) : va_up (va_up f i x) i y = va_up f i y := by
  funext j
  simp only [va_up]
  split <;> rfl
theorem va_up_i {α : Type} (f : Nat → α) (i : Nat) : va_up f i (f i) = f := by
  funext j
  simp only [va_up]
  split
  · rename_i c; rw [c]
  · rfl
theorem and255 (x : Int) : (Int32.ofInt x &&& Int32.ofInt 255).toInt = x % 256 := by
  show ((Int32.ofInt x).toBitVec &&& (Int32.ofInt 255).toBitVec).toInt = x % 256
  have e : ((Int32.ofInt x).toBitVec &&& (Int32.ofInt 255).toBitVec).toNat = (x % 4294967296).toNat % 256 := by
    rw [BitVec.toNat_and]
    have e1 : (Int32.ofInt 255).toBitVec.toNat = 2 ^ 8 - 1 := by decide
    have e2 : (Int32.ofInt x).toBitVec.toNat = (x % 4294967296).toNat := BitVec.toNat_ofInt x
    rw [e1, e2, Nat.and_two_pow_sub_one_eq_mod]
  have e3 : ((Int32.ofInt x).toBitVec &&& (Int32.ofInt 255).toBitVec).toNat < 256 := by
    rw [e]
    omega
  rw [BitVec.toInt_eq_toNat_of_lt (by omega), e]
  omega
theorem and3 : ∀ k : Fin 20, (Int32.ofInt (k.val : Int) &&& Int32.ofInt 3).toInt = (k.val : Int) % 4 := by decide +kernel
theorem and3i {k : Int} (h : 0 ≤ k ∧ k < 20) : (Int32.ofInt k &&& Int32.ofInt 3).toInt = k % 4 := by
  have := and3 ⟨k.toNat, by omega⟩
  rw [show ((⟨k.toNat, by omega⟩ : Fin 20).val : Int) = k by show (k.toNat : Int) = k; omega] at this
  exact this
/-- a feed's word, and how far its byte is shifted -/
def fdW (a b c d e k : Int) : Int := if k < 4 then a else if k < 8 then b else if k < 12 then c else if k < 16 then d else e
def fdB (a b c d e k : Int) : Int := bE (fdW a b c d e k) (24 - 8 * (k % 4))
/-- the tape after k bytes of a feed; m: how a byte is kept -/
def fdF (m : Int → Int) (a b c d e l : Int) (f : Nat → Int) : Nat → Nat → Int
  | 0 => f
  | k + 1 => va_up (fdF m a b c d e l f k) (l + k).toNat (m (fdB a b c d e k))
theorem fdF_m {m1 m2 : Int → Int} (hm : ∀ x, m2 x = m1 x % 256) {a b c d e l : Int} (hl : 0 ≤ l) {f1 f2 : Nat → Int} (hf : ∀ j, f2 j = f1 j % 256) : ∀ (k : Nat) (j : Nat), fdF m2 a b c d e l f2 k j = fdF m1 a b c d e l f1 k j % 256 := by
  intro k
  induction k with
  | zero => intro j; exact hf j
  | succ k ih =>
    intro j
    simp only [fdF]
    by_cases q : j = (l + k).toNat
    · rw [q, va_up_s, va_up_s]
      exact hm _
    · rw [va_up_o _ _ q, va_up_o _ _ q]
      exact ih j
def mB1 (x : Int) : Int := (x.bmod 256).bmod 256
theorem mB1_b (x : Int) : -128 ≤ mB1 x ∧ mB1 x ≤ 127 := by
  unfold mB1
  have h1 := Int.le_bmod (x := x.bmod 256) (m := 256) (by omega)
  have h2 := Int.bmod_lt (x := x.bmod 256) (m := 256) (by omega)
  omega
theorem mB1_m (x : Int) : x % 256 = mB1 x % 256 := by
  unfold mB1
  rw [Int.bmod_bmod]
  have : (x.bmod (256 : Nat)) % ((256 : Nat) : Int) = x % ((256 : Nat) : Int) := Int.bmod_emod
  exact this.symm
theorem fdF_b {m : Int → Int} (hm : ∀ x, -128 ≤ m x ∧ m x ≤ 127) {a b c d e l : Int} {f : Nat → Int} (hf : ∀ j, -128 ≤ f j ∧ f j ≤ 127) : ∀ (k : Nat) (j : Nat), -128 ≤ fdF m a b c d e l f k j ∧ fdF m a b c d e l f k j ≤ 127 := by
  intro k
  induction k with
  | zero => intro j; exact hf j
  | succ k ih =>
    intro j
    simp only [fdF]
    by_cases q : j = (l + k).toNat
    · rw [q, va_up_s]; exact hm _
    · rw [va_up_o _ _ q]; exact ih j
/-- the class's tape after a feed -/
theorem tPut1_f {R : sS} {a b c d e l : Int} {f : Nat → Int} {k : Nat} {w sh : Int} (h1 : R.1 0 = l + k) (h2 : R.2.1 0 = fdF mB1 a b c d e l f k) (hw : fdB a b c d e k = bE w sh) : (tPut1 R w sh).1 0 = l + ((k + 1 : Nat) : Int) ∧ (tPut1 R w sh).2.1 0 = fdF mB1 a b c d e l f (k + 1) := by
  constructor
  · show R.1 0 + 1 = _
    omega
  · show va_up (R.2.1 0) (R.1 0).toNat (mB1 (bE w sh)) = va_up (fdF mB1 a b c d e l f k) (l + k).toNat (mB1 (fdB a b c d e k))
    rw [h1, h2, hw]
theorem tFd_r (S : sS) (a b c d e : Int) : (tFd S a b c d e).2.1 0 = fdF mB1 a b c d e (S.1 0) (S.2.1 0) 20 := by
  have s0 : S.1 0 = S.1 0 + ((0 : Nat) : Int) ∧ S.2.1 0 = fdF mB1 a b c d e (S.1 0) (S.2.1 0) 0 := ⟨by omega, rfl⟩
  have s1 := tPut1_f (k := 0) (w := a) (sh := 24) s0.1 s0.2 rfl
  have s2 := tPut1_f (k := 1) (w := a) (sh := 16) s1.1 s1.2 rfl
  have s3 := tPut1_f (k := 2) (w := a) (sh := 8) s2.1 s2.2 rfl
  have s4 := tPut1_f (k := 3) (w := a) (sh := 0) s3.1 s3.2 rfl
  have s5 := tPut1_f (k := 4) (w := b) (sh := 24) s4.1 s4.2 rfl
  have s6 := tPut1_f (k := 5) (w := b) (sh := 16) s5.1 s5.2 rfl
  have s7 := tPut1_f (k := 6) (w := b) (sh := 8) s6.1 s6.2 rfl
  have s8 := tPut1_f (k := 7) (w := b) (sh := 0) s7.1 s7.2 rfl
  have s9 := tPut1_f (k := 8) (w := c) (sh := 24) s8.1 s8.2 rfl
  have s10 := tPut1_f (k := 9) (w := c) (sh := 16) s9.1 s9.2 rfl
  have s11 := tPut1_f (k := 10) (w := c) (sh := 8) s10.1 s10.2 rfl
  have s12 := tPut1_f (k := 11) (w := c) (sh := 0) s11.1 s11.2 rfl
  have s13 := tPut1_f (k := 12) (w := d) (sh := 24) s12.1 s12.2 rfl
  have s14 := tPut1_f (k := 13) (w := d) (sh := 16) s13.1 s13.2 rfl
  have s15 := tPut1_f (k := 14) (w := d) (sh := 8) s14.1 s14.2 rfl
  have s16 := tPut1_f (k := 15) (w := d) (sh := 0) s15.1 s15.2 rfl
  have s17 := tPut1_f (k := 16) (w := e) (sh := 24) s16.1 s16.2 rfl
  have s18 := tPut1_f (k := 17) (w := e) (sh := 16) s17.1 s17.2 rfl
  have s19 := tPut1_f (k := 18) (w := e) (sh := 8) s18.1 s18.2 rfl
  have s20 := tPut1_f (k := 19) (w := e) (sh := 0) s19.1 s19.2 rfl
  exact s20.2
theorem tFd_W (S : sS) (a b c d e : Int) : (∀ i, ¬ i = 0 → (tFd S a b c d e).1 i = S.1 i) ∧ (∀ r, ¬ r = 0 → (tFd S a b c d e).2.1 r = S.2.1 r) ∧ (tFd S a b c d e).2.2 = S.2.2 := by
  have p : ∀ (R : sS) (w sh : Int), (∀ i, ¬ i = 0 → (tPut1 R w sh).1 i = R.1 i) ∧ (∀ r, ¬ r = 0 → (tPut1 R w sh).2.1 r = R.2.1 r) ∧ (tPut1 R w sh).2.2 = R.2.2 := fun R w sh => ⟨fun i hi => va_up_o _ _ hi, fun r hr => va_up_o _ _ hr, rfl⟩
  have t4 : ∀ (R : sS) (w : Int), (∀ i, ¬ i = 0 → (tPut R w).1 i = R.1 i) ∧ (∀ r, ¬ r = 0 → (tPut R w).2.1 r = R.2.1 r) ∧ (tPut R w).2.2 = R.2.2 := fun R w => by
    unfold tPut
    refine ⟨fun i hi => ?_, fun r hr => ?_, ?_⟩
    · rw [(p _ _ _).1 i hi, (p _ _ _).1 i hi, (p _ _ _).1 i hi, (p _ _ _).1 i hi]
    · rw [(p _ _ _).2.1 r hr, (p _ _ _).2.1 r hr, (p _ _ _).2.1 r hr, (p _ _ _).2.1 r hr]
    · rw [(p _ _ _).2.2, (p _ _ _).2.2, (p _ _ _).2.2, (p _ _ _).2.2]
  unfold tFd
  refine ⟨fun i hi => ?_, fun r hr => ?_, ?_⟩
  · rw [(t4 _ _).1 i hi, (t4 _ _).1 i hi, (t4 _ _).1 i hi, (t4 _ _).1 i hi, (t4 _ _).1 i hi]
  · rw [(t4 _ _).2.1 r hr, (t4 _ _).2.1 r hr, (t4 _ _).2.1 r hr, (t4 _ _).2.1 r hr, (t4 _ _).2.1 r hr]
  · rw [(t4 _ _).2.2, (t4 _ _).2.2, (t4 _ _).2.2, (t4 _ _).2.2, (t4 _ _).2.2]
section Ko
variable {X : mX} {S : sS} {K : kK} {t : zH} {v : vV}
set_option maxHeartbeats 1000000 in
set_option maxRecDepth 100000 in
theorem kFeed (hl : 0 ≤ K.1 1 ∧ K.1 1 ≤ 600) {a b c d e : Int} : zEv X 10 mX10_feed [zR 29, zI a, zI b, zI c, zI d, zI e] (cX S ++ (cM (K) ++ t)) (zIs (.inl (some (zI (if K.1 1 ≤ 580 then K.1 1 + 20 else -1)))) (cX S ++ (cM (if K.1 1 ≤ 580 then kA (kI (kI K 0 0) 1 (K.1 1 + 20)) 5 (fdF (fun x => x % 256) a b c d e (K.1 1) (K.2 5) 20) else kI K 0 0) ++ t))) := by
  by_cases k : K.1 1 ≤ 580
  rotate_left
  · rw [if_neg k, if_neg k]
    refine zEv_run gX10_feed 80 [] rfl ?_
    refine zBrF (by show rI (K.1 1 + 20) ∧ rI 600; simp only [rI]; omega) (by show ¬ K.1 1 + 20 ≤ 600; omega) ?_
    exact ⟨rfl, rfl⟩
  rw [if_pos k, if_pos k]
  generalize hQ : zIs (.inl (some (zI (K.1 1 + 20)))) (cX S ++ (cM (kA (kI (kI K 0 0) 1 (K.1 1 + 20)) 5 (fdF (fun x => x % 256) a b c d e (K.1 1) (K.2 5) 20)) ++ t)) = Q
  have lp : ∀ (kk i : Nat), i + kk = 20 → ∀ j : Int, j = (i : Int) → zWP X mX10_feed 10 Q 23 [some (zR 29), some (zI a), some (zI b), some (zI c), some (zI d), some (zI e), some (zI j), none] [] (cX S ++ (cM (kA (kI (kI K 0 0) 1 (K.1 1 + (i : Int))) 5 (fdF (fun x => x % 256) a b c d e (K.1 1) (K.2 5) i)) ++ t)) 0 0 := by
    intro kk
    induction kk with
    | zero =>
      intro i hk j hj
      refine zWP_run gX10_feed 80 [23] ?_
      refine zBrT (by simp only [rI]; omega) (by omega) ?_
      rw [← hQ]
      rw [show i = 20 by omega]
      exact ⟨rfl, rfl⟩
    | succ kk ih =>
      intro i hk j hj
      have rest : zWP X mX10_feed 10 Q 76 [some (zR 29), some (zI a), some (zI b), some (zI c), some (zI d), some (zI e), some (zI j), none] [zI (fdW a b c d e j)] (cX S ++ (cM (kA (kI (kI K 0 0) 1 (K.1 1 + (i : Int))) 5 (fdF (fun x => x % 256) a b c d e (K.1 1) (K.2 5) i)) ++ t)) 0 0 := by
        refine zWP_run gX10_feed 80 [23] ?_
        refine mVc_i (by show 0 ≤ K.1 1 + (i : Int) ∧ K.1 1 + (i : Int) < 600; omega) ?_
        have k9 := ih (i + 1) (by omega) (j + 1) (by omega)
        have e1 : (kA (kI (kI K 0 0) 1 (K.1 1 + ((i + 1 : Nat) : Int))) 5 (fdF (fun x => x % 256) a b c d e (K.1 1) (K.2 5) (i + 1)) : kK) = kI (kA (kA (kI (kI K 0 0) 1 (K.1 1 + (i : Int))) 5 (fdF (fun x => x % 256) a b c d e (K.1 1) (K.2 5) i)) 5 (va_up (fdF (fun x => x % 256) a b c d e (K.1 1) (K.2 5) i) (K.1 1 + (i : Int)).toNat ((Int32.ofInt (bE (fdW a b c d e j) (24 - 8 * (Int32.ofInt j &&& Int32.ofInt 3).toInt)) &&& Int32.ofInt 255).toInt))) 1 (K.1 1 + (i : Int) + 1) := by
          rw [and255, and3i (by omega), hj]
          show (va_up (va_up K.1 0 0) 1 (K.1 1 + ((i + 1 : Nat) : Int)), _) = (va_up (va_up (va_up K.1 0 0) 1 (K.1 1 + (i : Int))) 1 (K.1 1 + (i : Int) + 1), va_up (va_up K.2 5 _) 5 _)
          rw [va_up_2, va_up_2, show K.1 1 + ((i + 1 : Nat) : Int) = K.1 1 + (i : Int) + 1 by omega]
          rfl
        rw [e1] at k9
        exact zWP_fg k9 (by repeat (first | exact trivial | refine ⟨rfl, ?_⟩))
      unfold fdW at rest
      refine zWP_run gX10_feed 80 [23, 76] ?_
      refine zBrF (by simp only [rI]; omega) (by omega) ?_
      by_cases c1 : 4 ≤ j
      rotate_left
      · rw [if_pos (by omega)] at rest
        refine zBrF (by simp only [rI]; omega) c1 ?_
        exact rest
      rw [if_neg (by omega)] at rest
      refine zBrT (by simp only [rI]; omega) c1 ?_
      by_cases c2 : 8 ≤ j
      rotate_left
      · rw [if_pos (by omega)] at rest
        refine zBrF (by simp only [rI]; omega) c2 ?_
        exact rest
      rw [if_neg (by omega)] at rest
      refine zBrT (by simp only [rI]; omega) c2 ?_
      by_cases c3 : 12 ≤ j
      rotate_left
      · rw [if_pos (by omega)] at rest
        refine zBrF (by simp only [rI]; omega) c3 ?_
        exact rest
      rw [if_neg (by omega)] at rest
      refine zBrT (by simp only [rI]; omega) c3 ?_
      by_cases c4 : 16 ≤ j
      rotate_left
      · rw [if_pos (by omega)] at rest
        refine zBrF (by simp only [rI]; omega) c4 ?_
        exact rest
      rw [if_neg (by omega)] at rest
      refine zBrT (by simp only [rI]; omega) c4 ?_
      exact rest
  have k9 := lp 20 0 (by omega) 0 rfl
  have e9 : (kA (kI (kI K 0 0) 1 (K.1 1 + ((0 : Nat) : Int))) 5 (fdF (fun x => x % 256) a b c d e (K.1 1) (K.2 5) 0) : kK) = kI K 0 0 := by
    show (va_up (va_up K.1 0 0) 1 (K.1 1 + ((0 : Nat) : Int)), va_up K.2 5 (K.2 5)) = (va_up K.1 0 0, K.2)
    rw [show K.1 1 + ((0 : Nat) : Int) = va_up K.1 0 0 1 by show _ = K.1 1; omega, va_up_i, va_up_i]
  rw [e9] at k9
  refine zEv_run gX10_feed 80 [23] rfl ?_
  refine zBrT (by show rI (K.1 1 + 20) ∧ rI 600; simp only [rI]; omega) (by show K.1 1 + 20 ≤ 600; omega) ?_
  exact k9
end Ko
