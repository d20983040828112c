/-! Tray, Tape, powers -/
def tCut (so z : Int) : Int := if so = 0 then z.bmod 256 else if so = 1 then z.bmod 65536 else if so = 2 then z.bmod 4294967296 else z
theorem bm8 (z : Int) : -128 ≤ z.bmod 256 ∧ z.bmod 256 < 128 := by
  have a1 := Int.le_bmod (x := z) (m := 256) (by decide)
  have a2 := Int.bmod_lt (x := z) (m := 256) (by decide)
  omega
theorem bm16 (z : Int) : -32768 ≤ z.bmod 65536 ∧ z.bmod 65536 < 32768 := by
  have a1 := Int.le_bmod (x := z) (m := 65536) (by decide)
  have a2 := Int.bmod_lt (x := z) (m := 65536) (by decide)
  omega
theorem bm32 (z : Int) : -2147483648 ≤ z.bmod 4294967296 ∧ z.bmod 4294967296 < 2147483648 := by
  have a1 := Int.le_bmod (x := z) (m := 4294967296) (by decide)
  have a2 := Int.bmod_lt (x := z) (m := 4294967296) (by decide)
  omega
theorem zcut2 (z : Int) : (Int64.ofInt z).toInt32.toInt64 = Int64.ofInt (z.bmod 4294967296) := by
  rw [zL2I]
  have e : Int32.ofInt z = Int32.ofInt (z.bmod 4294967296) := by
    rw [← zI_asI (Int32.ofInt z), Int32.toInt_ofInt]
  rw [e]
  exact zI2L (bm32 z)
/-- all from i on, k of them, are faces: 1 or 0 -/
def tAll (f : Nat → Int) : Nat → Int → Int
  | 0, _ => 1
  | k + 1, i => if 1 ≤ f i.toNat ∧ f i.toNat ≤ 6 then tAll f k (i + 1) else 0
theorem tAll_01 (f : Nat → Int) : ∀ (k : Nat) (i : Int), tAll f k i = 0 ∨ tAll f k i = 1
  | 0, _ => Or.inr rfl
  | k + 1, i => by
    simp only [tAll]
    split
    · exact tAll_01 f k (i + 1)
    · exact Or.inl rfl
theorem tAll_f {f : Nat → Int} : ∀ {k : Nat} {i : Int}, tAll f k i = 1 → ∀ j : Int, i ≤ j → j < i + k → 1 ≤ f j.toNat ∧ f j.toNat ≤ 6
  | 0, i, _, j, h1, h2 => by omega
  | k + 1, i, h, j, h1, h2 => by
    simp only [tAll] at h
    split at h
    · rename_i c
      by_cases e : j = i
      · rw [e]; exact c
      · exact tAll_f h j (by omega) (by omega)
    · omega
def tH (mn : Int) (f : Nat → Int) : Int := if 1 ≤ mn ∧ mn ≤ 5 then tAll f mn.toNat 0 else 0
def bE (w sh : Int) : Int := ((Int32.ofInt w).toUInt32 >>> ((Int32.ofInt sh).toUInt32 &&& Int32.toUInt32 31)).toInt32.toInt
def tPut1 (S : sS) (w sh : Int) : sS := sI (sA S 0 (va_up (S.2.1 0) (S.1 0).toNat (((bE w sh).bmod 256).bmod 256))) 0 (S.1 0 + 1)
def tPut (S : sS) (w : Int) : sS := tPut1 (tPut1 (tPut1 (tPut1 S w 24) w 16) w 8) w 0
section Tray
variable {X : mX} {S : sS} {t : zH}
set_option maxHeartbeats 1000000 in
set_option maxRecDepth 100000 in
theorem ynum0 (hm : 0 ≤ S.1 20 ∧ S.1 20 ≤ 30) {p : Int} (h0 : 0 ≤ p) (h1 : p < S.1 20) : zEv X 1 mX7_number [zR 20, zI p] (cX S ++ t) (zIs (.inl (some (zJ (S.2.1 10 p.toNat)))) (cX S ++ t)) := by
  refine zEv_run gX7_number 60 [] rfl ?_
  repeat (first
    | refine zBrT (by simp only [rI]; omega) (by omega) ?_
    | refine zBrF (by simp only [rI]; omega) (by omega) ?_
    | refine mVc_i (by first | omega | (simp only [rI]; omega)) ?_)
  exact ⟨rfl, rfl⟩
set_option maxHeartbeats 1000000 in
set_option maxRecDepth 100000 in
theorem ycut0 {z : Int} (hs : 0 ≤ S.1 19 ∧ S.1 19 ≤ 3) : zEv X 1 mX7_cut [zR 20, zJ z] (cX S ++ t) (zIs (.inl (some (zJ (tCut (S.1 19) z)))) (cX S ++ t)) := by
  by_cases c2 : S.1 19 = 2
  · refine mEv_run gX7_cut 40 [] rfl ?_
    have e : (Int32.ofInt (S.1 19)).toInt = 2 := by rw [c2]; rfl
    refine ⟨fun q => ?_, fun q => ?_, fun q => ?_, fun q => ?_, trivial⟩
    · have q2 : (Int32.ofInt (S.1 19)).toInt < 0 ∨ 2 < (Int32.ofInt (S.1 19)).toInt := q
      omega
    · have q2 : (Int32.ofInt (S.1 19)).toInt = 0 := q
      omega
    · have q2 : (Int32.ofInt (S.1 19)).toInt = 1 := q
      omega
    · refine ⟨_, cX S ++ t, ?_, rfl, rfl, rfl⟩
      show (Sum.inl (some (Value.long (Int64.ofInt z).toInt32.toInt64)) : mO) = Sum.inl (some (Value.long (Int64.ofInt (tCut (S.1 19) z))))
      rw [zcut2, tCut, if_neg (by omega), if_neg (by omega), if_pos c2]
  · refine zEv_run gX7_cut 40 [] rfl ?_
    have a1 := bm8 z
    have a2 := bm16 z
    refine mVc_i (by simp only [rI]; omega) ⟨fun q => ?_, fun q => ?_, fun q => ?_, fun q => ?_, trivial⟩
    · have q2 : S.1 19 < 0 ∨ 2 < S.1 19 := q
      rw [tCut, if_neg (by omega), if_neg (by omega), if_neg (by omega)]
      exact ⟨rfl, rfl⟩
    · have q2 : S.1 19 = 0 := q
      rw [tCut, if_pos q2]
      exact mVc_i (by simp only [rI]; omega) ⟨rfl, rfl⟩
    · have q2 : S.1 19 = 0 + 1 := q
      rw [tCut, if_neg (by omega), if_pos (by omega)]
      exact mVc_i (by simp only [rI]; omega) ⟨rfl, rfl⟩
    · have q2 : S.1 19 = 0 + 1 + 1 := q
      omega
set_option maxHeartbeats 1000000 in
set_option maxRecDepth 100000 in
theorem yput0 (hm : 0 ≤ S.1 20 ∧ S.1 20 ≤ 30) {p z : Int} (h0 : 0 ≤ p) (h1 : p < S.1 20) (hs : 0 ≤ S.1 19 ∧ S.1 19 ≤ 3) : zEv X 2 mX7_put [zR 20, zI p, zJ z] (cX S ++ t) (zIs (.inl none) (cX (sA S 10 (va_up (S.2.1 10) p.toNat (tCut (S.1 19) z))) ++ t)) := by
  refine zEv_run gX7_put 60 [] rfl ?_
  repeat (first
    | refine zBrT (by simp only [rI]; omega) (by omega) ?_
    | refine zBrF (by simp only [rI]; omega) (by omega) ?_
    | refine zCl_e (ycut0 hs) (by decide) ?_
    | refine mVc_i (by first | omega | (simp only [rI]; omega)) ?_)
  exact ⟨rfl, rfl⟩
set_option maxHeartbeats 1000000 in
set_option maxRecDepth 100000 in
theorem ylay0 {a b : Int} : zEv X 1 mX7_lay [zR 20, zI a, zI b] (cX S ++ t) (fun o9 h9 => o9 = .inl none ∧ ∃ f : Nat → Int, (∀ j, j < 30 → f j = 0) ∧ h9 = cX (sA (sI (sI (sI S 18 0) 19 a) 20 b) 10 f) ++ t) := by
  have lp : ∀ (k : Nat) (i : Int) (f : Nat → Int), 0 ≤ i → (∀ j : Nat, (j : Int) < i → f j = 0) → i + k = 30 → zWP X mX7_lay 1 (fun o9 h9 => o9 = .inl none ∧ ∃ f : Nat → Int, (∀ j, j < 30 → f j = 0) ∧ h9 = cX (sA (sI (sI (sI S 18 0) 19 a) 20 b) 10 f) ++ t) 17 [some (zR 20), some (zI a), some (zI b), some (zI i)] [] (cX (sA (sI (sI (sI S 18 0) 19 a) 20 b) 10 f) ++ t) 0 0 := by
    intro k
    induction k with
    | zero =>
      intro i f g0 hf hk
      refine zWP_run gX7_lay 80 [17] ?_
      refine zBrT (by simp only [rI]; omega) (by omega) ?_
      exact ⟨rfl, f, fun j hj => hf j (by omega), rfl⟩
    | succ k ih =>
      intro i f g0 hf hk
      refine zWP_run gX7_lay 80 [17] ?_
      refine zBrF (by simp only [rI]; omega) (by omega) ?_
      refine mVc_i (by first | omega | (simp only [rI]; omega) | (simp only [rL]; omega)) ?_
      exact ih (i + 1) (va_up f i.toNat 0) (by omega) (fun j hj => by
        by_cases e : j = i.toNat
        · rw [e, va_up_s]
        · rw [va_up_o _ _ e]
          exact hf j (by omega)) (by omega)
  refine zEv_run gX7_lay 60 [17] rfl ?_
  exact lp 30 0 (S.2.1 10) (by omega) (fun j hj => by omega) (by omega)
set_option maxHeartbeats 1000000 in
set_option maxRecDepth 100000 in
theorem yface0 (hm : 0 ≤ S.1 20 ∧ S.1 20 ≤ 30) {p : Int} (h0 : 0 ≤ p) (h1 : p < S.1 20) (hf : 1 ≤ S.2.1 10 p.toNat ∧ S.2.1 10 p.toNat ≤ 6) : zEv X 2 mX7_face [zR 20, zI p] (cX S ++ t) (zIs (.inl (some (zI (S.2.1 10 p.toNat)))) (cX S ++ t)) := by
  refine zEv_run gX7_face 60 [] rfl ?_
  refine zCl_e (ynum0 hm h0 h1) (by decide) ?_
  refine zCl_e (face_t hf) (by decide) ?_
  refine zBrF rI_1 (by omega) ?_
  refine zCl_e (ynum0 hm h0 h1) (by decide) ?_
  exact ⟨rfl, rfl⟩
set_option maxHeartbeats 1000000 in
set_option maxRecDepth 100000 in
theorem yholds0 (hm : 0 ≤ S.1 20 ∧ S.1 20 ≤ 30) (hr : ∀ j, rL (S.2.1 10 j)) : zEv X 2 mX7_holdsToldFaces [zR 20] (cX S ++ t) (zIs (.inl (some (zI (tH (S.1 20) (S.2.1 10))))) (cX S ++ t)) := by
  have lp : ∀ (k : Nat) (i : Int), 0 ≤ i → i + k = S.1 20 → zWP X mX7_holdsToldFaces 2 (zIs (.inl (some (zI (tAll (S.2.1 10) k i)))) (cX S ++ t)) 24 [some (zR 20), some (zI 1), some (zI i)] [] (cX S ++ t) 0 0 := by
    intro k
    induction k with
    | zero =>
      intro i i0 hk
      refine zWP_run gX7_holdsToldFaces 60 [24] ?_
      refine zBrT (by simp only [rI]; omega) (by omega) ?_
      exact mVc_i (Or.inr rfl) ⟨rfl, rfl⟩
    | succ k ih =>
      intro i i0 hk
      refine zWP_run gX7_holdsToldFaces 60 [24] ?_
      refine zBrF (by simp only [rI]; omega) (by omega) ?_
      refine zBrF rI_1 (by omega) ?_
      refine zCl_e (ynum0 hm i0 (by omega)) (by decide) ?_
      simp only [tAll]
      by_cases c : 1 ≤ S.2.1 10 i.toNat ∧ S.2.1 10 i.toNat ≤ 6
      · rw [if_pos c]
        refine zCl_e (face_t c) (by decide) ?_
        exact ih (i + 1) (by omega) (by omega)
      · rw [if_neg c]
        refine zCl_e (face_f (hr _) c) (by decide) ?_
        refine zWP_run gX7_holdsToldFaces 60 [] ?_
        refine zBr (by simp only [rI]; omega) (fun _ => ?_) (fun _ => ?_)
        · exact mVc_i (Or.inl rfl) ⟨rfl, rfl⟩
        · refine zBrT rI_0 rfl ?_
          exact mVc_i (Or.inl rfl) ⟨rfl, rfl⟩
  refine zEv_run gX7_holdsToldFaces 60 [24] rfl ?_
  simp only [tH]
  by_cases c : 1 ≤ S.1 20
  · refine zBrF (by simp only [rI]; omega) (by omega) ?_
    by_cases c2 : S.1 20 ≤ 5
    · rw [if_pos ⟨c, c2⟩]
      refine zBrF (by simp only [rI]; omega) (by omega) ?_
      exact lp (S.1 20).toNat 0 (by omega) (by omega)
    · rw [if_neg (fun q => c2 q.2)]
      refine zBrT (by simp only [rI]; omega) (by omega) ?_
      refine zWP_run gX7_holdsToldFaces 60 [] ?_
      refine zBrF (by simp only [rI]; omega) (by omega) ?_
      refine zBrT rI_0 rfl ?_
      exact mVc_i (Or.inl rfl) ⟨rfl, rfl⟩
  · rw [if_neg (fun q => c q.1)]
    refine zBrT (by simp only [rI]; omega) (by omega) ?_
    refine zWP_run gX7_holdsToldFaces 60 [] ?_
    refine zBrT (by simp only [rI]; omega) (by omega) ?_
    exact mVc_i (Or.inl rfl) ⟨rfl, rfl⟩
set_option maxHeartbeats 1000000 in
set_option maxRecDepth 100000 in
theorem ynum1 (hm : 0 ≤ S.1 23 ∧ S.1 23 ≤ 30) {p : Int} (h0 : 0 ≤ p) (h1 : p < S.1 23) : zEv X 1 mX7_number [zR 22, zI p] (cX S ++ t) (zIs (.inl (some (zJ (S.2.1 11 p.toNat)))) (cX S ++ t)) := by
  refine zEv_run gX7_number 60 [] rfl ?_
  repeat (first
    | refine zBrT (by simp only [rI]; omega) (by omega) ?_
    | refine zBrF (by simp only [rI]; omega) (by omega) ?_
    | refine mVc_i (by first | omega | (simp only [rI]; omega)) ?_)
  exact ⟨rfl, rfl⟩
set_option maxHeartbeats 1000000 in
set_option maxRecDepth 100000 in
theorem ycut1 {z : Int} (hs : 0 ≤ S.1 22 ∧ S.1 22 ≤ 3) : zEv X 1 mX7_cut [zR 22, zJ z] (cX S ++ t) (zIs (.inl (some (zJ (tCut (S.1 22) z)))) (cX S ++ t)) := by
  by_cases c2 : S.1 22 = 2
  · refine mEv_run gX7_cut 40 [] rfl ?_
    have e : (Int32.ofInt (S.1 22)).toInt = 2 := by rw [c2]; rfl
    refine ⟨fun q => ?_, fun q => ?_, fun q => ?_, fun q => ?_, trivial⟩
    · have q2 : (Int32.ofInt (S.1 22)).toInt < 0 ∨ 2 < (Int32.ofInt (S.1 22)).toInt := q
      omega
    · have q2 : (Int32.ofInt (S.1 22)).toInt = 0 := q
      omega
    · have q2 : (Int32.ofInt (S.1 22)).toInt = 1 := q
      omega
    · refine ⟨_, cX S ++ t, ?_, rfl, rfl, rfl⟩
      show (Sum.inl (some (Value.long (Int64.ofInt z).toInt32.toInt64)) : mO) = Sum.inl (some (Value.long (Int64.ofInt (tCut (S.1 22) z))))
      rw [zcut2, tCut, if_neg (by omega), if_neg (by omega), if_pos c2]
  · refine zEv_run gX7_cut 40 [] rfl ?_
    have a1 := bm8 z
    have a2 := bm16 z
    refine mVc_i (by simp only [rI]; omega) ⟨fun q => ?_, fun q => ?_, fun q => ?_, fun q => ?_, trivial⟩
    · have q2 : S.1 22 < 0 ∨ 2 < S.1 22 := q
      rw [tCut, if_neg (by omega), if_neg (by omega), if_neg (by omega)]
      exact ⟨rfl, rfl⟩
    · have q2 : S.1 22 = 0 := q
      rw [tCut, if_pos q2]
      exact mVc_i (by simp only [rI]; omega) ⟨rfl, rfl⟩
    · have q2 : S.1 22 = 0 + 1 := q
      rw [tCut, if_neg (by omega), if_pos (by omega)]
      exact mVc_i (by simp only [rI]; omega) ⟨rfl, rfl⟩
    · have q2 : S.1 22 = 0 + 1 + 1 := q
      omega
set_option maxHeartbeats 1000000 in
set_option maxRecDepth 100000 in
theorem yput1 (hm : 0 ≤ S.1 23 ∧ S.1 23 ≤ 30) {p z : Int} (h0 : 0 ≤ p) (h1 : p < S.1 23) (hs : 0 ≤ S.1 22 ∧ S.1 22 ≤ 3) : zEv X 2 mX7_put [zR 22, zI p, zJ z] (cX S ++ t) (zIs (.inl none) (cX (sA S 11 (va_up (S.2.1 11) p.toNat (tCut (S.1 22) z))) ++ t)) := by
  refine zEv_run gX7_put 60 [] rfl ?_
  repeat (first
    | refine zBrT (by simp only [rI]; omega) (by omega) ?_
    | refine zBrF (by simp only [rI]; omega) (by omega) ?_
    | refine zCl_e (ycut1 hs) (by decide) ?_
    | refine mVc_i (by first | omega | (simp only [rI]; omega)) ?_)
  exact ⟨rfl, rfl⟩
set_option maxHeartbeats 1000000 in
set_option maxRecDepth 100000 in
theorem ylay1 {a b : Int} : zEv X 1 mX7_lay [zR 22, zI a, zI b] (cX S ++ t) (fun o9 h9 => o9 = .inl none ∧ ∃ f : Nat → Int, (∀ j, j < 30 → f j = 0) ∧ h9 = cX (sA (sI (sI (sI S 21 0) 22 a) 23 b) 11 f) ++ t) := by
  have lp : ∀ (k : Nat) (i : Int) (f : Nat → Int), 0 ≤ i → (∀ j : Nat, (j : Int) < i → f j = 0) → i + k = 30 → zWP X mX7_lay 1 (fun o9 h9 => o9 = .inl none ∧ ∃ f : Nat → Int, (∀ j, j < 30 → f j = 0) ∧ h9 = cX (sA (sI (sI (sI S 21 0) 22 a) 23 b) 11 f) ++ t) 17 [some (zR 22), some (zI a), some (zI b), some (zI i)] [] (cX (sA (sI (sI (sI S 21 0) 22 a) 23 b) 11 f) ++ t) 0 0 := by
    intro k
    induction k with
    | zero =>
      intro i f g0 hf hk
      refine zWP_run gX7_lay 80 [17] ?_
      refine zBrT (by simp only [rI]; omega) (by omega) ?_
      exact ⟨rfl, f, fun j hj => hf j (by omega), rfl⟩
    | succ k ih =>
      intro i f g0 hf hk
      refine zWP_run gX7_lay 80 [17] ?_
      refine zBrF (by simp only [rI]; omega) (by omega) ?_
      refine mVc_i (by first | omega | (simp only [rI]; omega) | (simp only [rL]; omega)) ?_
      exact ih (i + 1) (va_up f i.toNat 0) (by omega) (fun j hj => by
        by_cases e : j = i.toNat
        · rw [e, va_up_s]
        · rw [va_up_o _ _ e]
          exact hf j (by omega)) (by omega)
  refine zEv_run gX7_lay 60 [17] rfl ?_
  exact lp 30 0 (S.2.1 11) (by omega) (fun j hj => by omega) (by omega)
set_option maxHeartbeats 1000000 in
set_option maxRecDepth 100000 in
theorem yface1 (hm : 0 ≤ S.1 23 ∧ S.1 23 ≤ 30) {p : Int} (h0 : 0 ≤ p) (h1 : p < S.1 23) (hf : 1 ≤ S.2.1 11 p.toNat ∧ S.2.1 11 p.toNat ≤ 6) : zEv X 2 mX7_face [zR 22, zI p] (cX S ++ t) (zIs (.inl (some (zI (S.2.1 11 p.toNat)))) (cX S ++ t)) := by
  refine zEv_run gX7_face 60 [] rfl ?_
  refine zCl_e (ynum1 hm h0 h1) (by decide) ?_
  refine zCl_e (face_t hf) (by decide) ?_
  refine zBrF rI_1 (by omega) ?_
  refine zCl_e (ynum1 hm h0 h1) (by decide) ?_
  exact ⟨rfl, rfl⟩
set_option maxHeartbeats 1000000 in
set_option maxRecDepth 100000 in
theorem yholds1 (hm : 0 ≤ S.1 23 ∧ S.1 23 ≤ 30) (hr : ∀ j, rL (S.2.1 11 j)) : zEv X 2 mX7_holdsToldFaces [zR 22] (cX S ++ t) (zIs (.inl (some (zI (tH (S.1 23) (S.2.1 11))))) (cX S ++ t)) := by
  have lp : ∀ (k : Nat) (i : Int), 0 ≤ i → i + k = S.1 23 → zWP X mX7_holdsToldFaces 2 (zIs (.inl (some (zI (tAll (S.2.1 11) k i)))) (cX S ++ t)) 24 [some (zR 22), some (zI 1), some (zI i)] [] (cX S ++ t) 0 0 := by
    intro k
    induction k with
    | zero =>
      intro i i0 hk
      refine zWP_run gX7_holdsToldFaces 60 [24] ?_
      refine zBrT (by simp only [rI]; omega) (by omega) ?_
      exact mVc_i (Or.inr rfl) ⟨rfl, rfl⟩
    | succ k ih =>
      intro i i0 hk
      refine zWP_run gX7_holdsToldFaces 60 [24] ?_
      refine zBrF (by simp only [rI]; omega) (by omega) ?_
      refine zBrF rI_1 (by omega) ?_
      refine zCl_e (ynum1 hm i0 (by omega)) (by decide) ?_
      simp only [tAll]
      by_cases c : 1 ≤ S.2.1 11 i.toNat ∧ S.2.1 11 i.toNat ≤ 6
      · rw [if_pos c]
        refine zCl_e (face_t c) (by decide) ?_
        exact ih (i + 1) (by omega) (by omega)
      · rw [if_neg c]
        refine zCl_e (face_f (hr _) c) (by decide) ?_
        refine zWP_run gX7_holdsToldFaces 60 [] ?_
        refine zBr (by simp only [rI]; omega) (fun _ => ?_) (fun _ => ?_)
        · exact mVc_i (Or.inl rfl) ⟨rfl, rfl⟩
        · refine zBrT rI_0 rfl ?_
          exact mVc_i (Or.inl rfl) ⟨rfl, rfl⟩
  refine zEv_run gX7_holdsToldFaces 60 [24] rfl ?_
  simp only [tH]
  by_cases c : 1 ≤ S.1 23
  · refine zBrF (by simp only [rI]; omega) (by omega) ?_
    by_cases c2 : S.1 23 ≤ 5
    · rw [if_pos ⟨c, c2⟩]
      refine zBrF (by simp only [rI]; omega) (by omega) ?_
      exact lp (S.1 23).toNat 0 (by omega) (by omega)
    · rw [if_neg (fun q => c2 q.2)]
      refine zBrT (by simp only [rI]; omega) (by omega) ?_
      refine zWP_run gX7_holdsToldFaces 60 [] ?_
      refine zBrF (by simp only [rI]; omega) (by omega) ?_
      refine zBrT rI_0 rfl ?_
      exact mVc_i (Or.inl rfl) ⟨rfl, rfl⟩
  · rw [if_neg (fun q => c q.1)]
    refine zBrT (by simp only [rI]; omega) (by omega) ?_
    refine zWP_run gX7_holdsToldFaces 60 [] ?_
    refine zBrT (by simp only [rI]; omega) (by omega) ?_
    exact mVc_i (Or.inl rfl) ⟨rfl, rfl⟩
set_option maxHeartbeats 1000000 in
set_option maxRecDepth 100000 in
theorem ynum2 (hm : 0 ≤ S.1 26 ∧ S.1 26 ≤ 30) {p : Int} (h0 : 0 ≤ p) (h1 : p < S.1 26) : zEv X 1 mX7_number [zR 24, zI p] (cX S ++ t) (zIs (.inl (some (zJ (S.2.1 12 p.toNat)))) (cX S ++ t)) := by
  refine zEv_run gX7_number 60 [] rfl ?_
  repeat (first
    | refine zBrT (by simp only [rI]; omega) (by omega) ?_
    | refine zBrF (by simp only [rI]; omega) (by omega) ?_
    | refine mVc_i (by first | omega | (simp only [rI]; omega)) ?_)
  exact ⟨rfl, rfl⟩
set_option maxHeartbeats 1000000 in
set_option maxRecDepth 100000 in
theorem ycut2 {z : Int} (hs : 0 ≤ S.1 25 ∧ S.1 25 ≤ 3) : zEv X 1 mX7_cut [zR 24, zJ z] (cX S ++ t) (zIs (.inl (some (zJ (tCut (S.1 25) z)))) (cX S ++ t)) := by
  by_cases c2 : S.1 25 = 2
  · refine mEv_run gX7_cut 40 [] rfl ?_
    have e : (Int32.ofInt (S.1 25)).toInt = 2 := by rw [c2]; rfl
    refine ⟨fun q => ?_, fun q => ?_, fun q => ?_, fun q => ?_, trivial⟩
    · have q2 : (Int32.ofInt (S.1 25)).toInt < 0 ∨ 2 < (Int32.ofInt (S.1 25)).toInt := q
      omega
    · have q2 : (Int32.ofInt (S.1 25)).toInt = 0 := q
      omega
    · have q2 : (Int32.ofInt (S.1 25)).toInt = 1 := q
      omega
    · refine ⟨_, cX S ++ t, ?_, rfl, rfl, rfl⟩
      show (Sum.inl (some (Value.long (Int64.ofInt z).toInt32.toInt64)) : mO) = Sum.inl (some (Value.long (Int64.ofInt (tCut (S.1 25) z))))
      rw [zcut2, tCut, if_neg (by omega), if_neg (by omega), if_pos c2]
  · refine zEv_run gX7_cut 40 [] rfl ?_
    have a1 := bm8 z
    have a2 := bm16 z
    refine mVc_i (by simp only [rI]; omega) ⟨fun q => ?_, fun q => ?_, fun q => ?_, fun q => ?_, trivial⟩
    · have q2 : S.1 25 < 0 ∨ 2 < S.1 25 := q
      rw [tCut, if_neg (by omega), if_neg (by omega), if_neg (by omega)]
      exact ⟨rfl, rfl⟩
    · have q2 : S.1 25 = 0 := q
      rw [tCut, if_pos q2]
      exact mVc_i (by simp only [rI]; omega) ⟨rfl, rfl⟩
    · have q2 : S.1 25 = 0 + 1 := q
      rw [tCut, if_neg (by omega), if_pos (by omega)]
      exact mVc_i (by simp only [rI]; omega) ⟨rfl, rfl⟩
    · have q2 : S.1 25 = 0 + 1 + 1 := q
      omega
set_option maxHeartbeats 1000000 in
set_option maxRecDepth 100000 in
theorem yput2 (hm : 0 ≤ S.1 26 ∧ S.1 26 ≤ 30) {p z : Int} (h0 : 0 ≤ p) (h1 : p < S.1 26) (hs : 0 ≤ S.1 25 ∧ S.1 25 ≤ 3) : zEv X 2 mX7_put [zR 24, zI p, zJ z] (cX S ++ t) (zIs (.inl none) (cX (sA S 12 (va_up (S.2.1 12) p.toNat (tCut (S.1 25) z))) ++ t)) := by
  refine zEv_run gX7_put 60 [] rfl ?_
  repeat (first
    | refine zBrT (by simp only [rI]; omega) (by omega) ?_
    | refine zBrF (by simp only [rI]; omega) (by omega) ?_
    | refine zCl_e (ycut2 hs) (by decide) ?_
    | refine mVc_i (by first | omega | (simp only [rI]; omega)) ?_)
  exact ⟨rfl, rfl⟩
set_option maxHeartbeats 1000000 in
set_option maxRecDepth 100000 in
theorem ylay2 {a b : Int} : zEv X 1 mX7_lay [zR 24, zI a, zI b] (cX S ++ t) (fun o9 h9 => o9 = .inl none ∧ ∃ f : Nat → Int, (∀ j, j < 30 → f j = 0) ∧ h9 = cX (sA (sI (sI (sI S 24 0) 25 a) 26 b) 12 f) ++ t) := by
  have lp : ∀ (k : Nat) (i : Int) (f : Nat → Int), 0 ≤ i → (∀ j : Nat, (j : Int) < i → f j = 0) → i + k = 30 → zWP X mX7_lay 1 (fun o9 h9 => o9 = .inl none ∧ ∃ f : Nat → Int, (∀ j, j < 30 → f j = 0) ∧ h9 = cX (sA (sI (sI (sI S 24 0) 25 a) 26 b) 12 f) ++ t) 17 [some (zR 24), some (zI a), some (zI b), some (zI i)] [] (cX (sA (sI (sI (sI S 24 0) 25 a) 26 b) 12 f) ++ t) 0 0 := by
    intro k
    induction k with
    | zero =>
      intro i f g0 hf hk
      refine zWP_run gX7_lay 80 [17] ?_
      refine zBrT (by simp only [rI]; omega) (by omega) ?_
      exact ⟨rfl, f, fun j hj => hf j (by omega), rfl⟩
    | succ k ih =>
      intro i f g0 hf hk
      refine zWP_run gX7_lay 80 [17] ?_
      refine zBrF (by simp only [rI]; omega) (by omega) ?_
      refine mVc_i (by first | omega | (simp only [rI]; omega) | (simp only [rL]; omega)) ?_
      exact ih (i + 1) (va_up f i.toNat 0) (by omega) (fun j hj => by
        by_cases e : j = i.toNat
        · rw [e, va_up_s]
        · rw [va_up_o _ _ e]
          exact hf j (by omega)) (by omega)
  refine zEv_run gX7_lay 60 [17] rfl ?_
  exact lp 30 0 (S.2.1 12) (by omega) (fun j hj => by omega) (by omega)
set_option maxHeartbeats 1000000 in
set_option maxRecDepth 100000 in
theorem yface2 (hm : 0 ≤ S.1 26 ∧ S.1 26 ≤ 30) {p : Int} (h0 : 0 ≤ p) (h1 : p < S.1 26) (hf : 1 ≤ S.2.1 12 p.toNat ∧ S.2.1 12 p.toNat ≤ 6) : zEv X 2 mX7_face [zR 24, zI p] (cX S ++ t) (zIs (.inl (some (zI (S.2.1 12 p.toNat)))) (cX S ++ t)) := by
  refine zEv_run gX7_face 60 [] rfl ?_
  refine zCl_e (ynum2 hm h0 h1) (by decide) ?_
  refine zCl_e (face_t hf) (by decide) ?_
  refine zBrF rI_1 (by omega) ?_
  refine zCl_e (ynum2 hm h0 h1) (by decide) ?_
  exact ⟨rfl, rfl⟩
set_option maxHeartbeats 1000000 in
set_option maxRecDepth 100000 in
theorem yholds2 (hm : 0 ≤ S.1 26 ∧ S.1 26 ≤ 30) (hr : ∀ j, rL (S.2.1 12 j)) : zEv X 2 mX7_holdsToldFaces [zR 24] (cX S ++ t) (zIs (.inl (some (zI (tH (S.1 26) (S.2.1 12))))) (cX S ++ t)) := by
  have lp : ∀ (k : Nat) (i : Int), 0 ≤ i → i + k = S.1 26 → zWP X mX7_holdsToldFaces 2 (zIs (.inl (some (zI (tAll (S.2.1 12) k i)))) (cX S ++ t)) 24 [some (zR 24), some (zI 1), some (zI i)] [] (cX S ++ t) 0 0 := by
    intro k
    induction k with
    | zero =>
      intro i i0 hk
      refine zWP_run gX7_holdsToldFaces 60 [24] ?_
      refine zBrT (by simp only [rI]; omega) (by omega) ?_
      exact mVc_i (Or.inr rfl) ⟨rfl, rfl⟩
    | succ k ih =>
      intro i i0 hk
      refine zWP_run gX7_holdsToldFaces 60 [24] ?_
      refine zBrF (by simp only [rI]; omega) (by omega) ?_
      refine zBrF rI_1 (by omega) ?_
      refine zCl_e (ynum2 hm i0 (by omega)) (by decide) ?_
      simp only [tAll]
      by_cases c : 1 ≤ S.2.1 12 i.toNat ∧ S.2.1 12 i.toNat ≤ 6
      · rw [if_pos c]
        refine zCl_e (face_t c) (by decide) ?_
        exact ih (i + 1) (by omega) (by omega)
      · rw [if_neg c]
        refine zCl_e (face_f (hr _) c) (by decide) ?_
        refine zWP_run gX7_holdsToldFaces 60 [] ?_
        refine zBr (by simp only [rI]; omega) (fun _ => ?_) (fun _ => ?_)
        · exact mVc_i (Or.inl rfl) ⟨rfl, rfl⟩
        · refine zBrT rI_0 rfl ?_
          exact mVc_i (Or.inl rfl) ⟨rfl, rfl⟩
  refine zEv_run gX7_holdsToldFaces 60 [24] rfl ?_
  simp only [tH]
  by_cases c : 1 ≤ S.1 26
  · refine zBrF (by simp only [rI]; omega) (by omega) ?_
    by_cases c2 : S.1 26 ≤ 5
    · rw [if_pos ⟨c, c2⟩]
      refine zBrF (by simp only [rI]; omega) (by omega) ?_
      exact lp (S.1 26).toNat 0 (by omega) (by omega)
    · rw [if_neg (fun q => c2 q.2)]
      refine zBrT (by simp only [rI]; omega) (by omega) ?_
      refine zWP_run gX7_holdsToldFaces 60 [] ?_
      refine zBrF (by simp only [rI]; omega) (by omega) ?_
      refine zBrT rI_0 rfl ?_
      exact mVc_i (Or.inl rfl) ⟨rfl, rfl⟩
  · rw [if_neg (fun q => c q.1)]
    refine zBrT (by simp only [rI]; omega) (by omega) ?_
    refine zWP_run gX7_holdsToldFaces 60 [] ?_
    refine zBrT (by simp only [rI]; omega) (by omega) ?_
    exact mVc_i (Or.inl rfl) ⟨rfl, rfl⟩
set_option maxHeartbeats 1000000 in
set_option maxRecDepth 100000 in
theorem ynum3 (hm : 0 ≤ S.1 29 ∧ S.1 29 ≤ 30) {p : Int} (h0 : 0 ≤ p) (h1 : p < S.1 29) : zEv X 1 mX7_number [zR 26, zI p] (cX S ++ t) (zIs (.inl (some (zJ (S.2.1 13 p.toNat)))) (cX S ++ t)) := by
  refine zEv_run gX7_number 60 [] rfl ?_
  repeat (first
    | refine zBrT (by simp only [rI]; omega) (by omega) ?_
    | refine zBrF (by simp only [rI]; omega) (by omega) ?_
    | refine mVc_i (by first | omega | (simp only [rI]; omega)) ?_)
  exact ⟨rfl, rfl⟩
set_option maxHeartbeats 1000000 in
set_option maxRecDepth 100000 in
theorem ycut3 {z : Int} (hs : 0 ≤ S.1 28 ∧ S.1 28 ≤ 3) : zEv X 1 mX7_cut [zR 26, zJ z] (cX S ++ t) (zIs (.inl (some (zJ (tCut (S.1 28) z)))) (cX S ++ t)) := by
  by_cases c2 : S.1 28 = 2
  · refine mEv_run gX7_cut 40 [] rfl ?_
    have e : (Int32.ofInt (S.1 28)).toInt = 2 := by rw [c2]; rfl
    refine ⟨fun q => ?_, fun q => ?_, fun q => ?_, fun q => ?_, trivial⟩
    · have q2 : (Int32.ofInt (S.1 28)).toInt < 0 ∨ 2 < (Int32.ofInt (S.1 28)).toInt := q
      omega
    · have q2 : (Int32.ofInt (S.1 28)).toInt = 0 := q
      omega
    · have q2 : (Int32.ofInt (S.1 28)).toInt = 1 := q
      omega
    · refine ⟨_, cX S ++ t, ?_, rfl, rfl, rfl⟩
      show (Sum.inl (some (Value.long (Int64.ofInt z).toInt32.toInt64)) : mO) = Sum.inl (some (Value.long (Int64.ofInt (tCut (S.1 28) z))))
      rw [zcut2, tCut, if_neg (by omega), if_neg (by omega), if_pos c2]
  · refine zEv_run gX7_cut 40 [] rfl ?_
    have a1 := bm8 z
    have a2 := bm16 z
    refine mVc_i (by simp only [rI]; omega) ⟨fun q => ?_, fun q => ?_, fun q => ?_, fun q => ?_, trivial⟩
    · have q2 : S.1 28 < 0 ∨ 2 < S.1 28 := q
      rw [tCut, if_neg (by omega), if_neg (by omega), if_neg (by omega)]
      exact ⟨rfl, rfl⟩
    · have q2 : S.1 28 = 0 := q
      rw [tCut, if_pos q2]
      exact mVc_i (by simp only [rI]; omega) ⟨rfl, rfl⟩
    · have q2 : S.1 28 = 0 + 1 := q
      rw [tCut, if_neg (by omega), if_pos (by omega)]
      exact mVc_i (by simp only [rI]; omega) ⟨rfl, rfl⟩
    · have q2 : S.1 28 = 0 + 1 + 1 := q
      omega
set_option maxHeartbeats 1000000 in
set_option maxRecDepth 100000 in
theorem yput3 (hm : 0 ≤ S.1 29 ∧ S.1 29 ≤ 30) {p z : Int} (h0 : 0 ≤ p) (h1 : p < S.1 29) (hs : 0 ≤ S.1 28 ∧ S.1 28 ≤ 3) : zEv X 2 mX7_put [zR 26, zI p, zJ z] (cX S ++ t) (zIs (.inl none) (cX (sA S 13 (va_up (S.2.1 13) p.toNat (tCut (S.1 28) z))) ++ t)) := by
  refine zEv_run gX7_put 60 [] rfl ?_
  repeat (first
    | refine zBrT (by simp only [rI]; omega) (by omega) ?_
    | refine zBrF (by simp only [rI]; omega) (by omega) ?_
    | refine zCl_e (ycut3 hs) (by decide) ?_
    | refine mVc_i (by first | omega | (simp only [rI]; omega)) ?_)
  exact ⟨rfl, rfl⟩
set_option maxHeartbeats 1000000 in
set_option maxRecDepth 100000 in
theorem ylay3 {a b : Int} : zEv X 1 mX7_lay [zR 26, zI a, zI b] (cX S ++ t) (fun o9 h9 => o9 = .inl none ∧ ∃ f : Nat → Int, (∀ j, j < 30 → f j = 0) ∧ h9 = cX (sA (sI (sI (sI S 27 0) 28 a) 29 b) 13 f) ++ t) := by
  have lp : ∀ (k : Nat) (i : Int) (f : Nat → Int), 0 ≤ i → (∀ j : Nat, (j : Int) < i → f j = 0) → i + k = 30 → zWP X mX7_lay 1 (fun o9 h9 => o9 = .inl none ∧ ∃ f : Nat → Int, (∀ j, j < 30 → f j = 0) ∧ h9 = cX (sA (sI (sI (sI S 27 0) 28 a) 29 b) 13 f) ++ t) 17 [some (zR 26), some (zI a), some (zI b), some (zI i)] [] (cX (sA (sI (sI (sI S 27 0) 28 a) 29 b) 13 f) ++ t) 0 0 := by
    intro k
    induction k with
    | zero =>
      intro i f g0 hf hk
      refine zWP_run gX7_lay 80 [17] ?_
      refine zBrT (by simp only [rI]; omega) (by omega) ?_
      exact ⟨rfl, f, fun j hj => hf j (by omega), rfl⟩
    | succ k ih =>
      intro i f g0 hf hk
      refine zWP_run gX7_lay 80 [17] ?_
      refine zBrF (by simp only [rI]; omega) (by omega) ?_
      refine mVc_i (by first | omega | (simp only [rI]; omega) | (simp only [rL]; omega)) ?_
      exact ih (i + 1) (va_up f i.toNat 0) (by omega) (fun j hj => by
        by_cases e : j = i.toNat
        · rw [e, va_up_s]
        · rw [va_up_o _ _ e]
          exact hf j (by omega)) (by omega)
  refine zEv_run gX7_lay 60 [17] rfl ?_
  exact lp 30 0 (S.2.1 13) (by omega) (fun j hj => by omega) (by omega)
set_option maxHeartbeats 1000000 in
set_option maxRecDepth 100000 in
theorem yface3 (hm : 0 ≤ S.1 29 ∧ S.1 29 ≤ 30) {p : Int} (h0 : 0 ≤ p) (h1 : p < S.1 29) (hf : 1 ≤ S.2.1 13 p.toNat ∧ S.2.1 13 p.toNat ≤ 6) : zEv X 2 mX7_face [zR 26, zI p] (cX S ++ t) (zIs (.inl (some (zI (S.2.1 13 p.toNat)))) (cX S ++ t)) := by
  refine zEv_run gX7_face 60 [] rfl ?_
  refine zCl_e (ynum3 hm h0 h1) (by decide) ?_
  refine zCl_e (face_t hf) (by decide) ?_
  refine zBrF rI_1 (by omega) ?_
  refine zCl_e (ynum3 hm h0 h1) (by decide) ?_
  exact ⟨rfl, rfl⟩
set_option maxHeartbeats 1000000 in
set_option maxRecDepth 100000 in
theorem yholds3 (hm : 0 ≤ S.1 29 ∧ S.1 29 ≤ 30) (hr : ∀ j, rL (S.2.1 13 j)) : zEv X 2 mX7_holdsToldFaces [zR 26] (cX S ++ t) (zIs (.inl (some (zI (tH (S.1 29) (S.2.1 13))))) (cX S ++ t)) := by
  have lp : ∀ (k : Nat) (i : Int), 0 ≤ i → i + k = S.1 29 → zWP X mX7_holdsToldFaces 2 (zIs (.inl (some (zI (tAll (S.2.1 13) k i)))) (cX S ++ t)) 24 [some (zR 26), some (zI 1), some (zI i)] [] (cX S ++ t) 0 0 := by
    intro k
    induction k with
    | zero =>
      intro i i0 hk
      refine zWP_run gX7_holdsToldFaces 60 [24] ?_
      refine zBrT (by simp only [rI]; omega) (by omega) ?_
      exact mVc_i (Or.inr rfl) ⟨rfl, rfl⟩
    | succ k ih =>
      intro i i0 hk
      refine zWP_run gX7_holdsToldFaces 60 [24] ?_
      refine zBrF (by simp only [rI]; omega) (by omega) ?_
      refine zBrF rI_1 (by omega) ?_
      refine zCl_e (ynum3 hm i0 (by omega)) (by decide) ?_
      simp only [tAll]
      by_cases c : 1 ≤ S.2.1 13 i.toNat ∧ S.2.1 13 i.toNat ≤ 6
      · rw [if_pos c]
        refine zCl_e (face_t c) (by decide) ?_
        exact ih (i + 1) (by omega) (by omega)
      · rw [if_neg c]
        refine zCl_e (face_f (hr _) c) (by decide) ?_
        refine zWP_run gX7_holdsToldFaces 60 [] ?_
        refine zBr (by simp only [rI]; omega) (fun _ => ?_) (fun _ => ?_)
        · exact mVc_i (Or.inl rfl) ⟨rfl, rfl⟩
        · refine zBrT rI_0 rfl ?_
          exact mVc_i (Or.inl rfl) ⟨rfl, rfl⟩
  refine zEv_run gX7_holdsToldFaces 60 [24] rfl ?_
  simp only [tH]
  by_cases c : 1 ≤ S.1 29
  · refine zBrF (by simp only [rI]; omega) (by omega) ?_
    by_cases c2 : S.1 29 ≤ 5
    · rw [if_pos ⟨c, c2⟩]
      refine zBrF (by simp only [rI]; omega) (by omega) ?_
      exact lp (S.1 29).toNat 0 (by omega) (by omega)
    · rw [if_neg (fun q => c2 q.2)]
      refine zBrT (by simp only [rI]; omega) (by omega) ?_
      refine zWP_run gX7_holdsToldFaces 60 [] ?_
      refine zBrF (by simp only [rI]; omega) (by omega) ?_
      refine zBrT rI_0 rfl ?_
      exact mVc_i (Or.inl rfl) ⟨rfl, rfl⟩
  · rw [if_neg (fun q => c q.1)]
    refine zBrT (by simp only [rI]; omega) (by omega) ?_
    refine zWP_run gX7_holdsToldFaces 60 [] ?_
    refine zBrT (by simp only [rI]; omega) (by omega) ?_
    exact mVc_i (Or.inl rfl) ⟨rfl, rfl⟩
set_option maxHeartbeats 1000000 in
set_option maxRecDepth 100000 in
theorem pow9 {b n : Int} (hn : 0 ≤ n ∧ n ≤ 60) : zEv X 1 mX9_power [zJ b, zI n] (cX S ++ t) (zIs (.inl (some (zJ (b ^ n.toNat)))) (cX S ++ t)) := by
  have lp : ∀ (k : Nat) (i : Int), 0 ≤ i → i + k = n → zWP X mX9_power 1 (zIs (.inl (some (zJ (b ^ n.toNat)))) (cX S ++ t)) 5 [some (zJ b), none, some (zI n), some (zJ (b ^ i.toNat)), none, some (zI i)] [] (cX S ++ t) 0 0 := by
    intro k
    induction k with
    | zero =>
      intro i g0 hk
      refine zWP_run gX9_power 80 [5] ?_
      refine zBrT (by simp only [rI]; omega) (by omega) ?_
      rw [show i = n by omega]
      exact ⟨rfl, rfl⟩
    | succ k ih =>
      intro i g0 hk
      refine zWP_run gX9_power 80 [5] ?_
      refine zBrF (by simp only [rI]; omega) (by omega) ?_
      have k3 := ih (i + 1) (by omega) (by omega)
      rw [show (i + 1).toNat = i.toNat + 1 by omega, Int.pow_succ] at k3
      exact k3
  refine zEv_run gX9_power 60 [5] rfl ?_
  have k1 := lp n.toNat 0 (by omega) (by omega)
  rw [show b ^ (0 : Int).toNat = 1 from Int.pow_zero b] at k1
  exact k1
set_option maxHeartbeats 1000000 in
set_option maxRecDepth 100000 in
theorem tproom (h : 0 ≤ S.1 0 ∧ S.1 0 ≤ 600) : zEv X 1 mX6_hasRoomForFeed [zR 1] (cX S ++ t) (zIs (.inl (some (zI (if S.1 0 ≤ 580 then 1 else 0)))) (cX S ++ t)) := by
  refine zEv_run gX6_hasRoomForFeed 40 [] rfl ?_
  refine zBr (by simp only [rI]; omega) (fun c => ?_) (fun c => ?_)
  · rw [if_neg (by omega)]
    exact mVc_i (Or.inl rfl) ⟨rfl, rfl⟩
  · rw [if_pos (by omega)]
    exact mVc_i (Or.inr rfl) ⟨rfl, rfl⟩
set_option maxHeartbeats 1000000 in
set_option maxRecDepth 100000 in
theorem tpput {w : Int} (h : 0 ≤ S.1 0 ∧ S.1 0 ≤ 596) : zEv X 1 mX6_put [zR 1, zI w] (cX S ++ t) (zIs (.inl none) (cX (tPut S w) ++ t)) := by
  refine zEv_run gX6_put 200 [] rfl ?_
  refine zBrF (by simp only [rI]; omega) (by omega) ?_
  refine zBrF (by simp only [rI]; omega) (by omega) ?_
  refine mVc_i (by omega) ?_
  refine zBrF (by simp only [rI]; omega) (by omega) ?_
  refine zBrF ⟨⟨by omega, by omega⟩, by simp only [rI]; omega⟩ (by omega) ?_
  refine mVc_i (by omega) ?_
  refine zBrF (by simp only [rI]; omega) (by omega) ?_
  refine zBrF ⟨⟨by omega, by omega⟩, by simp only [rI]; omega⟩ (by omega) ?_
  refine mVc_i (by omega) ?_
  refine zBrF (by simp only [rI]; omega) (by omega) ?_
  refine zBrF ⟨⟨by omega, by omega⟩, by simp only [rI]; omega⟩ (by omega) ?_
  refine mVc_i (by omega) ?_
  refine zBrT (by simp only [rI]; omega) (by omega) ?_
  exact ⟨rfl, rfl⟩
set_option maxHeartbeats 1000000 in
set_option maxRecDepth 100000 in
theorem tpat {p : Int} (h : 0 ≤ S.1 0 ∧ S.1 0 ≤ 600) (h0 : 0 ≤ p) (hp : rI p) : zEv X 1 mX6_byteAt [zR 1, zI p] (cX S ++ t) (zIs (.inl (some (zI (if p < S.1 0 then S.2.1 0 p.toNat else 0)))) (cX S ++ t)) := by
  have hp2 := hp.2
  refine zEv_run gX6_byteAt 40 [] rfl ?_
  refine zBrF hp (by omega) ?_
  refine zBr (by simp only [rI]; omega) (fun c => ?_) (fun c => ?_)
  · rw [if_neg (by omega)]
    exact ⟨rfl, rfl⟩
  · rw [if_pos (by omega)]
    refine mVc_i (by omega) ?_
    exact ⟨rfl, rfl⟩
end Tray
