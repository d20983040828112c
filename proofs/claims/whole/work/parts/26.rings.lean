/-! rings, the evenest two; ants again; draws and lots -/
def vBe (v : vV) (a b : Int) : Prop := vBt v.2.1 b a < vBt v.2.1 a b
def vRg (v : vV) (a b c : Int) : Prop := vBe v a b ∧ vBe v b c ∧ vBe v c a
def vC3 (v : vV) (key a b : Int) : Nat → Int → Int → (Int → Int) → Int
  | 0, _, n, fin => fin n
  | k + 1, c, n, fin => if vBt v.2.1 b a < vBt v.2.1 a b ∧ vBt v.2.1 c b < vBt v.2.1 b c ∧ vBt v.2.1 a c < vBt v.2.1 c a then (if n = key then 100 * a + 10 * b + c else vC3 v key a b k (c + 1) (n + 1) fin) else vC3 v key a b k (c + 1) n fin
def vC2 (v : vV) (key a : Int) : Nat → Int → Int → (Int → Int) → Int
  | 0, _, n, fin => fin n
  | k + 1, b, n, fin => vC3 v key a b (v.1 1 - (a + 1)).toNat (a + 1) n (fun n => vC2 v key a k (b + 1) n fin)
def vC1 (v : vV) (key : Int) : Nat → Int → Int → Int
  | 0, _, n => if key = -1 then n else -1
  | k + 1, a, n => vC2 v key a (v.1 1 - (a + 1)).toNat (a + 1) n (fun n => vC1 v key k (a + 1) n)
def vE1 (v : vV) (a b : Int) (x : Int × Int × Int) : Int × Int × Int := if 0 < vTot v.2.1 a * vTot v.2.1 b ∧ (x.1 = -1 ∨ vAb (vBt v.2.1 a b - vBt v.2.1 b a) * x.2.2 < x.2.1 * (vTot v.2.1 a * vTot v.2.1 b)) then (10 * a + b, vAb (vBt v.2.1 a b - vBt v.2.1 b a), vTot v.2.1 a * vTot v.2.1 b) else x
def vE2 (v : vV) (a : Int) : Nat → Int → Int × Int × Int → Int × Int × Int
  | 0, _, x => x
  | k + 1, b, x => vE2 v a k (b + 1) (vE1 v a b x)
def vE0 (v : vV) : Nat → Int → Int × Int × Int → Int × Int × Int
  | 0, _, x => x
  | k + 1, a, x => vE0 v k (a + 1) (vE2 v a (v.1 1 - (a + 1)).toNat (a + 1) x)
section Rings
variable {X : mX} {S : sS} {t : zH} {v : vV}
set_option maxHeartbeats 1000000 in
set_option maxRecDepth 100000 in
theorem bring (hv : vX S v) {y : Int} (hy : rI y) : zEv X 4 mX0_ringAt [zR 14, zI y] (cX S ++ t) (zIs (.inl (some (zI (vC1 v y (v.1 1).toNat 0 0)))) (cX S ++ t)) := by
  have h4 := hv.1.2.2.2.2.1
  have e4 : S.1 16 = v.1 4 := hv.2.2.2.2.2.1
  have h1 := hv.1.2.1
  have e1 : S.1 13 = v.1 1 := hv.2.2.1
  have h2 := hv.1.2.2.1
  have e2 : S.1 14 = v.1 2 := hv.2.2.2.1
  have hy1 := hy.1
  have hy2 := hy.2
  have l3 : ∀ (k : Nat) (a b c n : Int) (fin : Int → Int), 0 ≤ a → a < v.1 1 → 0 ≤ b → b < v.1 1 → 0 ≤ c → c + k = v.1 1 → 0 ≤ n → n ≤ 25 * a + 5 * b + c → (∀ z, 0 ≤ z → z ≤ 25 * a + 5 * (b + 1) → zWP X mX0_ringAt 4 (zIs (.inl (some (zI (fin z)))) (cX S ++ t)) 20 [some (zR 14), some (zI y), some (zI z), some (zI a), some (zI (b + 1)), none] [] (cX S ++ t) 0 0) → zWP X mX0_ringAt 4 (zIs (.inl (some (zI (vC3 v y a b k c n fin)))) (cX S ++ t)) 37 [some (zR 14), some (zI y), some (zI n), some (zI a), some (zI b), some (zI c)] [] (cX S ++ t) 0 0 := by
    intro k
    induction k with
    | zero =>
      intro a b c n fin a0 a1 b0 b1 c0 hk n0 n1 hf
      refine zWP_run gX0_ringAt 60 [20, 37] ?_
      refine zBrT (by simp only [rI]; omega) (by omega) ?_
      exact zWP_fg (hf n n0 (by omega)) (by repeat (first | exact trivial | refine ⟨rfl, ?_⟩))
    | succ k ih =>
      intro a b c n fin a0 a1 b0 b1 c0 hk n0 n1 hf
      have st0 : zWP X mX0_ringAt 4 (zIs (.inl (some (zI (vC3 v y a b k (c + 1) n fin)))) (cX S ++ t)) 37 [some (zR 14), some (zI y), some (zI n), some (zI a), some (zI b), some (zI (c + 1))] [] (cX S ++ t) 0 0 := ih a b (c + 1) n fin a0 a1 b0 b1 (by omega) (by omega) n0 (by omega) hf
      refine zWP_run gX0_ringAt 60 [20, 37] ?_
      refine zBrF (by simp only [rI]; omega) (by omega) ?_
      simp only [vC3]
      refine zCl_e (bbe hv ⟨a0, a1⟩ ⟨b0, b1⟩) (by decide) ?_
      refine zBb (fun d1 => ?_) (fun d1 => ?_)
      · rw [if_neg (fun q => d1 q.1)]
        exact st0
      · refine zCl_e (bbe hv ⟨b0, b1⟩ ⟨c0, by omega⟩) (by decide) ?_
        refine zBb (fun d2 => ?_) (fun d2 => ?_)
        · rw [if_neg (fun q => d2 q.2.1)]
          exact st0
        · refine zCl_e (bbe hv ⟨c0, by omega⟩ ⟨a0, a1⟩) (by decide) ?_
          refine zBb (fun d3 => ?_) (fun d3 => ?_)
          · rw [if_neg (fun q => d3 q.2.2)]
            exact st0
          · rw [if_pos ⟨d1, d2, d3⟩]
            refine zBr ⟨by simp only [rI]; omega, hy⟩ (fun d4 => ?_) (fun d4 => ?_)
            · rw [if_pos d4]
              exact ⟨rfl, rfl⟩
            · rw [if_neg d4]
              exact ih a b (c + 1) (n + 1) fin a0 a1 b0 b1 (by omega) (by omega) (by omega) (by omega) hf
  have l2 : ∀ (k : Nat) (a b n : Int) (fin : Int → Int), 0 ≤ a → a < v.1 1 → 0 ≤ b → b + k = v.1 1 → 0 ≤ n → n ≤ 25 * a + 5 * b → (∀ z, 0 ≤ z → z ≤ 25 * (a + 1) → zWP X mX0_ringAt 4 (zIs (.inl (some (zI (fin z)))) (cX S ++ t)) 4 [some (zR 14), some (zI y), some (zI z), some (zI (a + 1)), none, none] [] (cX S ++ t) 0 0) → zWP X mX0_ringAt 4 (zIs (.inl (some (zI (vC2 v y a k b n fin)))) (cX S ++ t)) 20 [some (zR 14), some (zI y), some (zI n), some (zI a), some (zI b), none] [] (cX S ++ t) 0 0 := by
    intro k
    induction k with
    | zero =>
      intro a b n fin a0 a1 b0 hk n0 n1 hf
      refine zWP_run gX0_ringAt 60 [4, 20, 37] ?_
      refine zBrT (by simp only [rI]; omega) (by omega) ?_
      exact zWP_fg (hf n n0 (by omega)) (by repeat (first | exact trivial | refine ⟨rfl, ?_⟩))
    | succ k ih =>
      intro a b n fin a0 a1 b0 hk n0 n1 hf
      refine zWP_run gX0_ringAt 60 [4, 20, 37] ?_
      refine zBrF (by simp only [rI]; omega) (by omega) ?_
      exact l3 _ a b (a + 1) n _ a0 a1 b0 (by omega) (by omega) (by omega) n0 (by omega) (fun z z0 z1 => ih a (b + 1) z fin a0 a1 (by omega) (by omega) z0 (by omega) hf)
  have l1 : ∀ (k : Nat) (a n : Int), 0 ≤ a → a + k = v.1 1 → 0 ≤ n → n ≤ 25 * a → zWP X mX0_ringAt 4 (zIs (.inl (some (zI (vC1 v y k a n)))) (cX S ++ t)) 4 [some (zR 14), some (zI y), some (zI n), some (zI a), none, none] [] (cX S ++ t) 0 0 := by
    intro k
    induction k with
    | zero =>
      intro a n a0 hk n0 n1
      refine zWP_run gX0_ringAt 60 [4, 20, 37] ?_
      refine zBrT (by simp only [rI]; omega) (by omega) ?_
      simp only [vC1]
      refine zBr ⟨hy, by simp only [rI]; omega⟩ (fun c => ?_) (fun c => ?_)
      · rw [if_pos c]
        exact ⟨rfl, rfl⟩
      · rw [if_neg c]
        exact ⟨rfl, rfl⟩
    | succ k ih =>
      intro a n a0 hk n0 n1
      refine zWP_run gX0_ringAt 60 [4, 20, 37] ?_
      refine zBrF (by simp only [rI]; omega) (by omega) ?_
      exact l2 _ a (a + 1) n _ a0 (by omega) (by omega) (by omega) n0 (by omega) (fun z z0 z1 => ih (a + 1) z (by omega) (by omega) z0 (by omega))
  refine zEv_run gX0_ringAt 40 [4] rfl ?_
  exact l1 (v.1 1).toNat 0 0 (by omega) (by omega) (by omega) (by omega)
set_option maxHeartbeats 1000000 in
set_option maxRecDepth 100000 in
theorem beven (hv : vX S v) : zEv X 3 mX0_evenestTwo [zR 14] (cX S ++ t) (zIs (.inl (some (zI ((vE0 v (v.1 1).toNat 0 (-1, 0, 1)).1)))) (cX S ++ t)) := by
  have h4 := hv.1.2.2.2.2.1
  have e4 : S.1 16 = v.1 4 := hv.2.2.2.2.2.1
  have h1 := hv.1.2.1
  have e1 : S.1 13 = v.1 1 := hv.2.2.1
  have h2 := hv.1.2.2.1
  have e2 : S.1 14 = v.1 2 := hv.2.2.2.1
  have l2 : ∀ (k ka : Nat) (a b x y z : Int), 0 ≤ a → a < v.1 1 → 0 ≤ b → b + k = v.1 1 → -1 ≤ x ∧ x ≤ 100 → 0 ≤ y ∧ y ≤ 6000 → 0 ≤ z ∧ z ≤ 14400 → (∀ x y z : Int, -1 ≤ x ∧ x ≤ 100 → 0 ≤ y ∧ y ≤ 6000 → 0 ≤ z ∧ z ≤ 14400 → zWP X mX0_evenestTwo 3 (zIs (.inl (some (zI ((vE0 v ka (a + 1) (x, y, z)).1)))) (cX S ++ t)) 10 [some (zR 14), some (zI x), some (zJ y), none, some (zJ z), none, some (zI (a + 1)), none, none, none, none, none] [] (cX S ++ t) 0 0) → zWP X mX0_evenestTwo 3 (zIs (.inl (some (zI ((vE0 v ka (a + 1) (vE2 v a k b (x, y, z))).1)))) (cX S ++ t)) 28 [some (zR 14), some (zI x), some (zJ y), none, some (zJ z), none, some (zI a), some (zI b), none, none, none, none] [] (cX S ++ t) 0 0 := by
    intro k
    induction k with
    | zero =>
      intro ka a b x y z a0 a1 b0 hk hx hy hz hf
      refine zWP_run gX0_evenestTwo 60 [10, 28] ?_
      refine zBrT (by simp only [rI]; omega) (by omega) ?_
      exact zWP_fg (hf x y z hx hy hz) (by repeat (first | exact trivial | refine ⟨rfl, ?_⟩))
    | succ k ih =>
      intro ka a b x y z a0 a1 b0 hk hx hy hz hf
      have q1 := vBt_b hv.1.2.2.2.2.2.1 a b
      have q2 := vBt_b hv.1.2.2.2.2.2.1 b a
      have q3 := gtb hv a
      have q4 := gtb hv b
      have q5 := mul_b q3 q4
      have q6 : 0 ≤ vAb (vBt v.2.1 a b - vBt v.2.1 b a) ∧ vAb (vBt v.2.1 a b - vBt v.2.1 b a) ≤ 6000 := by simp only [vAb]; omega
      have q7 := mul_b q6 hz
      have q8 := mul_b hy q5
      have st0 : ¬ (0 < vTot v.2.1 a * vTot v.2.1 b ∧ (x = -1 ∨ vAb (vBt v.2.1 a b - vBt v.2.1 b a) * z < y * (vTot v.2.1 a * vTot v.2.1 b))) → zWP X mX0_evenestTwo 3 (zIs (.inl (some (zI ((vE0 v ka (a + 1) (vE2 v a (k + 1) b (x, y, z))).1)))) (cX S ++ t)) 28 [some (zR 14), some (zI x), some (zJ y), none, some (zJ z), none, some (zI a), some (zI (b + 1)), none, none, none, none] [] (cX S ++ t) 0 0 := by
        intro c
        simp only [vE2, vE1]
        rw [if_neg c]
        exact ih ka a (b + 1) x y z a0 a1 (by omega) (by omega) hx hy hz hf
      have st1 : (0 < vTot v.2.1 a * vTot v.2.1 b ∧ (x = -1 ∨ vAb (vBt v.2.1 a b - vBt v.2.1 b a) * z < y * (vTot v.2.1 a * vTot v.2.1 b))) → zWP X mX0_evenestTwo 3 (zIs (.inl (some (zI ((vE0 v ka (a + 1) (vE2 v a (k + 1) b (x, y, z))).1)))) (cX S ++ t)) 28 [some (zR 14), some (zI (10 * a + b)), some (zJ (vAb (vBt v.2.1 a b - vBt v.2.1 b a))), none, some (zJ (vTot v.2.1 a * vTot v.2.1 b)), none, some (zI a), some (zI (b + 1)), none, none, none, none] [] (cX S ++ t) 0 0 := by
        intro c
        simp only [vE2, vE1]
        rw [if_pos c]
        exact ih ka a (b + 1) _ _ _ a0 a1 (by omega) (by omega) (by omega) q6 (by omega) hf
      refine zWP_run gX0_evenestTwo 60 [10, 28] ?_
      refine zBrF (by simp only [rI]; omega) (by omega) ?_
      refine zCl_e (gtot hv a0 a1) (by decide) ?_
      refine zCl_e (gtot hv b0 (by omega)) (by decide) ?_
      refine mVc_i (by simp only [rI]; omega) ?_
      refine zCl_e (bbt hv ⟨a0, a1⟩ ⟨b0, by omega⟩) (by decide) ?_
      refine zCl_e (bbt hv ⟨b0, by omega⟩ ⟨a0, a1⟩) (by decide) ?_
      refine mVc_i (by simp only [rI]; omega) ?_
      refine mVc_i (by simp only [rI]; omega) ?_
      refine zBr (by simp only [rL]; omega) (fun c1 => ?_) (fun c1 => ?_)
      · exact zWP_fg (st0 (by omega)) (by repeat (first | exact trivial | refine ⟨rfl, ?_⟩))
      · refine zBr (by simp only [rI]; omega) (fun c2 => ?_) (fun c2 => ?_)
        · exact zWP_fg (st1 ⟨by omega, Or.inl c2⟩) (by repeat (first | exact trivial | refine ⟨rfl, ?_⟩))
        · refine zBr ?_ (fun c3 => ?_) (fun c3 => ?_)
          · show rL (vAb (vBt v.2.1 a b - vBt v.2.1 b a) * z) ∧ rL (y * (vTot v.2.1 a * vTot v.2.1 b))
            simp only [rL]
            omega
          · exact zWP_fg (st0 (by intro q; rcases q.2 with q | q; exact c2 q; exact absurd q (Int.not_lt.mpr c3))) (by repeat (first | exact trivial | refine ⟨rfl, ?_⟩))
          · exact zWP_fg (st1 ⟨by omega, Or.inr (Int.not_le.mp c3)⟩) (by repeat (first | exact trivial | refine ⟨rfl, ?_⟩))
  have l1 : ∀ (k : Nat) (a x y z : Int), 0 ≤ a → a + k = v.1 1 → -1 ≤ x ∧ x ≤ 100 → 0 ≤ y ∧ y ≤ 6000 → 0 ≤ z ∧ z ≤ 14400 → zWP X mX0_evenestTwo 3 (zIs (.inl (some (zI ((vE0 v k a (x, y, z)).1)))) (cX S ++ t)) 10 [some (zR 14), some (zI x), some (zJ y), none, some (zJ z), none, some (zI a), none, none, none, none, none] [] (cX S ++ t) 0 0 := by
    intro k
    induction k with
    | zero =>
      intro a x y z a0 hk hx hy hz
      refine zWP_run gX0_evenestTwo 60 [10, 28] ?_
      refine zBrT (by simp only [rI]; omega) (by omega) ?_
      exact ⟨rfl, rfl⟩
    | succ k ih =>
      intro a x y z a0 hk hx hy hz
      refine zWP_run gX0_evenestTwo 60 [10, 28] ?_
      refine zBrF (by simp only [rI]; omega) (by omega) ?_
      exact l2 _ k a (a + 1) x y z a0 (by omega) (by omega) (by omega) hx hy hz (fun x y z hx hy hz => ih (a + 1) x y z (by omega) (by omega) hx hy hz)
  refine zEv_run gX0_evenestTwo 40 [10] rfl ?_
  exact l1 (v.1 1).toNat 0 (-1) 0 1 (by omega) (by omega) (by omega) (by omega) (by omega)
end Rings
