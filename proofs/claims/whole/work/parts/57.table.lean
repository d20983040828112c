/-! the class: table, feed, fault, count -/
/-- the trays and the images stay -/
def sW (S R : sS) : Prop := (∀ i, 17 < i → R.1 i = S.1 i) ∧ (∀ r, 9 < r → R.2.1 r = S.2.1 r) ∧ R.2.2 = S.2.2
theorem sW_r (S : sS) : sW S S := ⟨fun _ _ => rfl, fun _ _ => rfl, rfl⟩
theorem sW_t {S R Q : sS} (h : sW S R) (k : sW R Q) : sW S Q := ⟨fun i hi => by rw [k.1 i hi, h.1 i hi], fun i hi => by rw [k.2.1 i hi, h.2.1 i hi], by rw [k.2.2, h.2.2]⟩
theorem sW_A (S : sS) {r : Nat} (f : Nat → Int) (h : r ≤ 9) : sW S (sA S r f) := ⟨fun _ _ => rfl, fun i hi => va_up_o _ _ (by omega), rfl⟩
theorem sW_I (S : sS) {r : Nat} (z : Int) (h : r ≤ 17) : sW S (sI S r z) := ⟨fun i hi => va_up_o _ _ (by omega), fun _ _ => rfl, rfl⟩
theorem sW_P {S R : sS} (h : sP S R) : sW S R := ⟨fun i hi => h.1 i (by omega), fun r hr => h.2.1 r (by omega), h.2.2⟩
/-- the view stays where its cells stay -/
theorem vX_st {S R : sS} {v : vV} (h : vX S v) (h1 : ∀ i, 12 ≤ i → i ≤ 16 → R.1 i = S.1 i) (h2 : ∀ r, 2 ≤ r → r ≤ 4 → R.2.1 r = S.2.1 r) : vX R v := by
  unfold vX
  rw [h1 12 (by omega) (by omega), h1 13 (by omega) (by omega), h1 14 (by omega) (by omega), h1 15 (by omega) (by omega), h1 16 (by omega) (by omega), h2 2 (by omega) (by omega), h2 3 (by omega) (by omega), h2 4 (by omega) (by omega)]
  exact h
theorem vX_P {S R : sS} {v : vV} (h : vX S v) (k : sP S R) : vX R v := vX_st h (fun i a _ => k.1 i (by omega)) (fun r a _ => k.2.1 r (by omega))
theorem pTb_b {B : Int → Int} {n : Int} (hn : 0 ≤ n) : (0 ≤ (pTb B n).1 ∧ (pTb B n).1 ≤ 4) ∧ (-1 ≤ (pTb B n).2.1 ∧ (pTb B n).2.1 ≤ n) ∧ ((pTb B n).1 = 0 → pFb n (pTb B n).2.2.2) := by
  have h := pRd_ok (B := B) (n := n) n.toNat 0 (tok B n 0) pF0 ⟨0, by omega, hn, rfl⟩ pF0_b
  rw [show (0 : Int) + n.toNat = n by omega] at h
  exact h
def cBg (S : sS) : sS := sA (sI (sI (sI (sI (sI S 12 (S.1 1)) 13 (S.1 2)) 14 (S.1 3)) 15 (S.1 4)) 16 0) 2 (va_cpy (S.2.1 1) (S.2.1 2) 0 0 39)
theorem cBg_W (S : sS) : sW S (cBg S) := sW_t (sW_t (sW_t (sW_t (sW_t (sW_I S _ (by omega)) (sW_I _ _ (by omega))) (sW_I _ _ (by omega))) (sW_I _ _ (by omega))) (sW_I _ _ (by omega))) (sW_A _ _ (by omega))
theorem cBg_v {S : sS} {n : Int} {fr : pF} (hn : n ≤ 600) (hf : pFb n fr) (h : cFr S fr) : vX (cBg S) (vNew fr) := by
  obtain ⟨h1, h2, h3, h4, h5, h6, h7⟩ := h
  have f2 := hf.2.2.1
  refine ⟨vNew_b hn hf, h1, h2, h3, h4, rfl, ?_, fun k k0 k1 => ?_⟩
  · show vRow (va_cpy (S.2.1 1) (S.2.1 2) 0 0 39) 0 (fr.1 2) fr.2
    refine vRow_cg (c := S.2.1 1) (a := 0) (by omega) (fun i hi => ?_) ⟨h7.1, h7.2.1, h7.2.2.1, fun k k0 k1 => h7.2.2.2 k k0 (by omega)⟩
    rw [va_cpy, if_pos (by omega), show 0 + (0 + i - 0) = 0 + i by omega]
  · have : k < 0 := k1
    omega
section Tbl
variable {X : mX} {S : sS} {t : zH} {v : vV}
set_option maxHeartbeats 1000000 in
set_option maxRecDepth 100000 in
theorem gbeg  : zEv X 1 mX2_begin [zR 5, zR 3] (cX S ++ t) (zIs (.inl none) (cX (cBg S) ++ t)) := by
  refine zEv_run gX2_begin 60 [] rfl ?_
  exact mVc_i (by omega) ⟨rfl, rfl⟩
/-- how table ends -/
def zTb (S : sS) (t : zH) (r : (Int ⊕ Nat) × vV × Option (Int × Int)) : zO → zH → Prop := fun o9 h9 => o9 = zIr r.1 ∧ ∃ R : sS, h9 = cX R ++ t ∧ sW S R ∧ R.2.1 0 = S.2.1 0 ∧ vX R r.2.1 ∧ ((r.2.2 = none ∧ R = S) ∨ ∃ z, r.2.2 = some z ∧ R.1 0 = 0 ∧ R.1 5 = z.1 ∧ R.1 6 = z.2)
set_option maxHeartbeats 1000000 in
set_option maxRecDepth 100000 in
theorem cTable (hv : vX S v) (hB : ∀ k, -128 ≤ S.2.1 0 k ∧ S.2.1 0 k ≤ 127) (hl : 0 ≤ S.1 0 ∧ S.1 0 ≤ 600) {n : Int} (hn : rI n) : zEv X 12 mX9_table [zR 0, zI n] (cX S ++ t) (zTb S t (pTable v (fun a => S.2.1 0 a.toNat) (S.1 0) n)) := by
  unfold pTable
  by_cases c1 : 0 ≤ n ∧ n ≤ S.1 0
  · rw [if_pos c1]
    have hb := pTb_b (B := fun a => S.2.1 0 a.toNat) c1.1
    refine zEv_run gX9_table 120 [] rfl ?_
    refine zBrF hn (by omega) ?_
    refine zBrT (by simp only [rI]; omega) (by omega) ?_
    refine zCl_i (xread (S := S) (B := fun a => S.2.1 0 a.toNat) (fun a => hB _) (by omega) c1.1 (fun a _ _ => rfl)) (by decide) ?_
    rintro o9 h9 ⟨rfl, R, rfl, g1, r5, r6, r7⟩
    generalize pTb (fun a => S.2.1 0 a.toNat) n = p at hb r5 r6 r7 ⊢
    by_cases c2 : p.1 = 0
    · rw [if_pos c2]
      refine zBrT (by show rI (R.1 5); rw [r5]; simp only [rI]; omega) (by show R.1 5 = 0; omega) ?_
      have r8 := r6 c2
      refine zCl_e (gbeg (S := sI R 0 0)) (by decide) ?_
      refine ⟨?_, cBg (sI R 0 0), rfl, sW_t (sW_t (sW_P g1) (sW_I _ _ (by omega))) (cBg_W _), ?_, ?_, Or.inr ⟨(0, -1), rfl, rfl, ?_, r8.1⟩⟩
      · show Sum.inl (some (zI (R.1 1))) = _
        rw [r8.2.1]
        rfl
      · exact g1.2.1 0 (by omega)
      · exact cBg_v (S := sI R 0 0) (by omega) (hb.2.2 c2) r8.2
      · show R.1 5 = 0
        omega
    · rw [if_neg c2]
      refine zBrF (by show rI (R.1 5); rw [r5]; simp only [rI]; omega) (by show ¬ R.1 5 = 0; omega) ?_
      refine ⟨?_, sI R 0 0, rfl, sW_t (sW_P g1) (sW_I _ _ (by omega)), g1.2.1 0 (by omega), ?_, Or.inr ⟨(p.1, p.2.1), rfl, rfl, r5, r7 c2⟩⟩
      · show Sum.inl (some (zI (-10 - R.1 5))) = _
        rw [r5]
        rfl
      · exact vX_st (vX_P hv g1) (fun i a _ => va_up_o _ _ (by omega)) (fun _ _ _ => rfl)
  · rw [if_neg c1]
    refine zEv_run gX9_table 120 [] rfl ?_
    by_cases k1 : n < 0
    · refine zBrT hn k1 ?_
      exact ⟨rfl, S, rfl, sW_r S, rfl, hv, Or.inl ⟨rfl, rfl⟩⟩
    · refine zBrF hn k1 ?_
      refine zBrF ⟨hn, by simp only [rI]; omega⟩ (by omega) ?_
      exact ⟨rfl, S, rfl, sW_r S, rfl, hv, Or.inl ⟨rfl, rfl⟩⟩
def tFd (S : sS) (a b c d e : Int) : sS := tPut (tPut (tPut (tPut (tPut S a) b) c) d) e
theorem tPut_0 (S : sS) (w : Int) : (tPut S w).1 0 = S.1 0 + 4 := by
  show S.1 0 + 1 + 1 + 1 + 1 = _
  omega
theorem tFd_0 (S : sS) (a b c d e : Int) : (tFd S a b c d e).1 0 = S.1 0 + 20 := by
  unfold tFd
  rw [tPut_0, tPut_0, tPut_0, tPut_0, tPut_0]
  omega
set_option maxHeartbeats 1000000 in
set_option maxRecDepth 100000 in
theorem cFeed (hl : 0 ≤ S.1 0 ∧ S.1 0 ≤ 600) {a b c d e : Int} : zEv X 12 mX9_feed [zR 0, zI a, zI b, zI c, zI d, zI e] (cX S ++ t) (zIs (.inl (some (zI (if S.1 0 ≤ 580 then S.1 0 + 20 else -1)))) (cX (if S.1 0 ≤ 580 then tFd S a b c d e else S) ++ t)) := by
  refine zEv_run gX9_feed 120 [] rfl ?_
  refine zCl_e (tproom hl) (by decide) ?_
  by_cases k : S.1 0 ≤ 580
  · rw [if_pos k, if_pos k, if_pos k]
    refine zBrF (by simp only [rI]; omega) (by omega) ?_
    refine zCl_e (tpput (w := a) (by omega)) (by decide) ?_
    have e1 := tPut_0 S a
    refine zCl_e (tpput (S := tPut S a) (w := b) (by omega)) (by decide) ?_
    have e2 := tPut_0 (tPut S a) b
    refine zCl_e (tpput (S := tPut (tPut S a) b) (w := c) (by omega)) (by decide) ?_
    have e3 := tPut_0 (tPut (tPut S a) b) c
    refine zCl_e (tpput (S := tPut (tPut (tPut S a) b) c) (w := d) (by omega)) (by decide) ?_
    have e4 := tPut_0 (tPut (tPut (tPut S a) b) c) d
    refine zCl_e (tpput (S := tPut (tPut (tPut (tPut S a) b) c) d) (w := e) (by omega)) (by decide) ?_
    refine ⟨?_, rfl⟩
    rw [← tFd_0 S a b c d e]
    rfl
  · rw [if_neg k, if_neg k, if_neg k]
    refine zBrT (by simp only [rI]; omega) (by omega) ?_
    exact ⟨rfl, rfl⟩
set_option maxHeartbeats 1000000 in
set_option maxRecDepth 100000 in
theorem cFault {w : Int} (hw : rI w) : zEv X 12 mX9_fault [zR 0, zI w] (cX S ++ t) (zIs (.inl (some (zI (if w = 0 then S.1 5 else if w = 1 then S.1 6 else -1)))) (cX S ++ t)) := by
  refine zEv_run gX9_fault 120 [] rfl ?_
  refine mVc_i hw ⟨fun q => ?_, fun q => ⟨fun q2 => ?_, fun q2 => ?_⟩⟩
  · have q1 : w = 0 := q
    rw [if_pos q1]
    exact ⟨rfl, rfl⟩
  · have q1 : ¬ w = 0 := q
    have q3 : w = 1 := q2
    rw [if_neg q1, if_pos q3]
    exact ⟨rfl, rfl⟩
  · have q1 : ¬ w = 0 := q
    have q3 : ¬ w = 1 := q2
    rw [if_neg q1, if_neg q3]
    exact ⟨rfl, rfl⟩
/-- count; l: how many bytes there are -/
def pCount (v : vV) (l w : Int) : Int := if w = 0 then v.1 0 else if w = 1 then v.1 1 else if w = 2 then v.1 2 else if w = 3 then v.1 3 else if w = 4 then v.1 4 else if w = 5 then zSum (fun d => if vTot v.2.1 d = 0 then 1 else 0) (v.1 1) else if w = 6 then zSum (vTot v.2.1) (v.1 1) else if w = 7 then l else -1
set_option maxHeartbeats 1000000 in
set_option maxRecDepth 100000 in
theorem cCount (hv : vX S v) {w : Int} (hw : rI w) : zEv X 12 mX9_count [zR 0, zI w] (cX S ++ t) (zIs (.inl (some (zI (pCount v (S.1 0) w)))) (cX S ++ t)) := by
  unfold pCount
  refine zEv_run gX9_count 120 [] rfl ?_
  refine mVc_i hw ⟨fun q => ?_, fun q => ?_, fun q => ?_, fun q => ?_, fun q => ?_, fun q => ?_, fun q => ?_, fun q => ?_, fun q => ?_, trivial⟩
  · have q2 : w < 0 ∨ 7 < w := q
    rw [if_neg (by omega), if_neg (by omega), if_neg (by omega), if_neg (by omega), if_neg (by omega), if_neg (by omega), if_neg (by omega), if_neg (by omega)]
    exact ⟨rfl, rfl⟩
  · have q2 : w = 0 := q
    rw [if_pos (by omega)]
    rw [← hv.2.1]
    exact ⟨rfl, rfl⟩
  · have q2 : w = 0 + 1 := q
    rw [if_neg (by omega), if_pos (by omega)]
    rw [← hv.2.2.1]
    exact ⟨rfl, rfl⟩
  · have q2 : w = 0 + 1 + 1 := q
    rw [if_neg (by omega), if_neg (by omega), if_pos (by omega)]
    rw [← hv.2.2.2.1]
    exact ⟨rfl, rfl⟩
  · have q2 : w = 0 + 1 + 1 + 1 := q
    rw [if_neg (by omega), if_neg (by omega), if_neg (by omega), if_pos (by omega)]
    rw [← hv.2.2.2.2.1]
    exact ⟨rfl, rfl⟩
  · have q2 : w = 0 + 1 + 1 + 1 + 1 := q
    rw [if_neg (by omega), if_neg (by omega), if_neg (by omega), if_neg (by omega), if_pos (by omega)]
    rw [← hv.2.2.2.2.2.1]
    exact ⟨rfl, rfl⟩
  · have q2 : w = 0 + 1 + 1 + 1 + 1 + 1 := q
    rw [if_neg (by omega), if_neg (by omega), if_neg (by omega), if_neg (by omega), if_neg (by omega), if_pos (by omega)]
    refine zCl_e (ggd hv) (by decide) ?_
    exact ⟨rfl, rfl⟩
  · have q2 : w = 0 + 1 + 1 + 1 + 1 + 1 + 1 := q
    rw [if_neg (by omega), if_neg (by omega), if_neg (by omega), if_neg (by omega), if_neg (by omega), if_neg (by omega), if_pos (by omega)]
    refine zCl_e (gall hv) (by decide) ?_
    exact ⟨rfl, rfl⟩
  · have q2 : w = 0 + 1 + 1 + 1 + 1 + 1 + 1 + 1 := q
    rw [if_neg (by omega), if_neg (by omega), if_neg (by omega), if_neg (by omega), if_neg (by omega), if_neg (by omega), if_neg (by omega), if_pos (by omega)]
    exact ⟨rfl, rfl⟩
end Tbl
