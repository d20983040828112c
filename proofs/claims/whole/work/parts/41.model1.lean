/-! the reference: what the table is, throws -/
/-- the number by which a call tells what it throws: its place among what is caught -/
def kcd : List Nat → Nat → Int
  | [], _ => 0
  | a :: l, e => if e = a then 1 else 1 + kcd l e
def kAn (cd : Nat → Int) (r : Int ⊕ Nat) (z th : Int) : Prop := match r with
  | .inl y => z = y ∧ th = 0
  | .inr e => th = cd e
def kTp (S : sS) (K : kK) (t : zH) (cd : Nat → Int) (r : (Int ⊕ Nat) × vV) : zO → zH → Prop := fun o9 h9 => ∃ (z : Int) (R : kK), o9 = .inl (some (zI z)) ∧ h9 = cX S ++ (cM R ++ t) ∧ kF K R ∧ kV (R.2 0) r.2 ∧ kAn cd r.1 z (R.1 0)
def kTq (S : sS) (K : kK) (t : zH) (cd : Nat → Int) (r : (Int ⊕ Nat) × vV) : zO → zH → Prop := fun o9 h9 => ∃ (z : Int) (R : kK), o9 = .inl (some (zJ z)) ∧ h9 = cX S ++ (cM R ++ t) ∧ kF K R ∧ kV (R.2 0) r.2 ∧ kAn cd r.1 z (R.1 0)
/-- the table's row alone changes -/
def kCh (S : sS) (K : kK) (t : zH) (o : zO) (v : vV) : zO → zH → Prop := fun o9 h9 => o9 = o ∧ ∃ c : Nat → Int, kV c v ∧ h9 = cX S ++ (cM (kA K 0 c) ++ t)
theorem zCl_k {X : mX} {d d2 : Nat} {S : sS} {K : kK} {t : zH} {v : vV} {o : zO} {M2 : mM} {as : List zV} {h : zH} {Q : zO → zH → Prop} (hE : zEv X d2 M2 as h (kCh S K t o v)) (hd : d2 < d) (hq : ∀ c, kV c v → Q o (cX S ++ (cM (kA K 0 c) ++ t))) : zCl X d M2 as h Q := ⟨d2, _, hd, hE, fun o9 h9 q => by
  obtain ⟨q1, c, q2, q3⟩ := q
  rw [q1, q3]
  exact hq c q2⟩
section Mdl1
variable {X : mX} {S : sS} {K : kK} {t : zH} {v : vV}
set_option maxHeartbeats 1000000 in
set_option maxRecDepth 100000 in
theorem kti1 (hk : kVn (K.2 0) v (v.1 4)) {x : Int} (hx : rI x) : zEv X 2 mX10_times [zR 29, zI x, zI (-1)] (cX S ++ (cM K ++ t)) (zIs (.inl (some (zI (vTd v x)))) (cX S ++ (cM K ++ t))) := by
  have b1 := hk.1.2.1
  have b2 := hk.1.2.2.1
  have b4 := hk.1.2.2.2.2.1
  have lp : ∀ (k : Nat) (i n : Int), 0 ≤ i → n = zSum (fun k => if v.2.2.1 k = x then 1 else 0) i → i + k = v.1 4 → zWP X mX10_times 2 (zIs (.inl (some (zI (vTd v x)))) (cX S ++ (cM K ++ t))) 5 [some (zR 29), some (zI x), some (zI (-1)), some (zI n), some (zI i)] [] (cX S ++ (cM K ++ t)) 0 0 := by
    intro k
    induction k with
    | zero =>
      intro i n g0 hn hk0
      refine zWP_run gX10_times 80 [5] ?_
      refine zCl_e (kth hk) (by decide) ?_
      refine zBrT (by simp only [rI]; omega) (by omega) ?_
      rw [hn, show i = v.1 4 by omega]
      exact ⟨rfl, rfl⟩
    | succ k ih =>
      intro i n g0 hn hk0
      refine zWP_run gX10_times 80 [5] ?_
      refine zCl_e (kth hk) (by decide) ?_
      refine zBrF (by simp only [rI]; omega) (by omega) ?_
      have hb := hk.1.2.2.2.2.2.2 i g0 (by omega)
      refine zCl_e (kp0 hk ⟨g0, by omega⟩) (by decide) ?_
      refine zBr ⟨by simp only [rI]; omega, hx⟩ (fun c => ?_) (fun c => ?_)
      · refine zBrT (by simp only [rI]; omega) (by omega) ?_
        exact ih (i + 1) (n + 1) (by omega) (by rw [zSum_s g0, ← hn, if_pos c]) (by omega)
      · exact ih (i + 1) (n + 0) (by omega) (by rw [zSum_s g0, ← hn, if_neg c]) (by omega)
  refine zEv_run gX10_times 40 [5] rfl ?_
  exact lp (v.1 4).toNat 0 0 (by omega) rfl (by omega)
set_option maxHeartbeats 1000000 in
set_option maxRecDepth 100000 in
theorem kti2 (hk : kVn (K.2 0) v (v.1 4)) {x : Int} (hx : rI x) {f : Int} (hf : 1 ≤ f ∧ f ≤ 6) : zEv X 2 mX10_times [zR 29, zI x, zI f] (cX S ++ (cM K ++ t)) (zIs (.inl (some (zI (vTf v x f)))) (cX S ++ (cM K ++ t))) := by
  have b1 := hk.1.2.1
  have b2 := hk.1.2.2.1
  have b4 := hk.1.2.2.2.2.1
  have lp : ∀ (k : Nat) (i n : Int), 0 ≤ i → n = zSum (fun k => if v.2.2.1 k = x ∧ v.2.2.2.2.1 k = f then 1 else 0) i → i + k = v.1 4 → zWP X mX10_times 2 (zIs (.inl (some (zI (vTf v x f)))) (cX S ++ (cM K ++ t))) 5 [some (zR 29), some (zI x), some (zI f), some (zI n), some (zI i)] [] (cX S ++ (cM K ++ t)) 0 0 := by
    intro k
    induction k with
    | zero =>
      intro i n g0 hn hk0
      refine zWP_run gX10_times 80 [5] ?_
      refine zCl_e (kth hk) (by decide) ?_
      refine zBrT (by simp only [rI]; omega) (by omega) ?_
      rw [hn, show i = v.1 4 by omega]
      exact ⟨rfl, rfl⟩
    | succ k ih =>
      intro i n g0 hn hk0
      refine zWP_run gX10_times 80 [5] ?_
      refine zCl_e (kth hk) (by decide) ?_
      refine zBrF (by simp only [rI]; omega) (by omega) ?_
      have hb := hk.1.2.2.2.2.2.2 i g0 (by omega)
      refine zCl_e (kp0 hk ⟨g0, by omega⟩) (by decide) ?_
      refine zBr ⟨by simp only [rI]; omega, hx⟩ (fun c => ?_) (fun c => ?_)
      · refine zBrF (by simp only [rI]; omega) (by omega) ?_
        refine zCl_e (kp2 hk ⟨g0, by omega⟩) (by decide) ?_
        refine zBr (by simp only [rI]; omega) (fun c2 => ?_) (fun c2 => ?_)
        · exact ih (i + 1) (n + 1) (by omega) (by rw [zSum_s g0, ← hn, if_pos ⟨c, c2⟩]) (by omega)
        · exact ih (i + 1) (n + 0) (by omega) (by rw [zSum_s g0, ← hn, if_neg (fun q => c2 q.2)]) (by omega)
      · exact ih (i + 1) (n + 0) (by omega) (by rw [zSum_s g0, ← hn, if_neg (fun q => c q.1)]) (by omega)
  refine zEv_run gX10_times 40 [5] rfl ?_
  exact lp (v.1 4).toNat 0 0 (by omega) rfl (by omega)
set_option maxHeartbeats 1000000 in
set_option maxRecDepth 100000 in
theorem kDie (hk : kVn (K.2 0) v (v.1 4)) {d w : Int} (hd : rI d) (hw : rI w) : zEv X 10 mX10_die [zR 29, zI d, zI w] (cX S ++ (cM K ++ t)) (kTp S K t (kcd [1, 0]) (pDie v d w)) := by
  unfold pDie
  have b1 := hk.1.2.1
  have b2 := hk.1.2.2.1
  have b4 := hk.1.2.2.2.2.1
  have hd1 := hd.1
  have hd2 := hd.2
  have hw1 := hw.1
  have hw2 := hw.2
  by_cases c1 : 0 ≤ d ∧ d < v.1 1
  · rw [if_pos c1]
    by_cases c2 : 1 ≤ w ∧ w ≤ 10
    · rw [if_pos c2]
      refine zEv_run gX10_die 120 [] rfl ?_
      refine mVc_i (by simp only [rI]; omega) ?_
      refine zCl_e (kdie_t (K := kI K 0 0) hk (by simp only [rL]; omega) c1) (by decide) ?_
      refine zBrF (by first | (simp only [rI]; omega) | (simp only [rL]; omega)) (by omega) ?_
      refine mVc_i (by simp only [rI]; omega) ?_
      refine zCl_e (kwi_t (by simp only [rL]; omega) (by simp only [rL]; omega) (by simp only [rL]; omega) (by omega)) (by decide) ?_
      refine zBrF (by first | (simp only [rI]; omega) | (simp only [rL]; omega)) (by omega) ?_
      have hs := hk.1.2.2.2.2.2.1.2.1 d
      by_cases e6 : w ≤ 6
      · refine zBrF (by first | (simp only [rI]; omega) | (simp only [rL]; omega)) (by omega) ?_
        refine zCl_e (kw (K := kI K 0 0) hk c1 (by omega)) (by decide) ?_
        rw [if_neg (by omega), if_neg (by omega), if_neg (by omega), if_neg (by omega)]
        exact ⟨_, kI K 0 0, rfl, rfl, kF_t (kF_r K) (kF_I _ _ (by omega)), hk, rfl, rfl⟩
      · refine zBrT (by first | (simp only [rI]; omega) | (simp only [rL]; omega)) (by omega) ?_
        by_cases e7 : w = 7
        · refine zBrT (by first | (simp only [rI]; omega) | (simp only [rL]; omega)) e7 ?_
          refine zCl_e (kto (K := kI K 0 0) hk c1) (by decide) ?_
          rw [if_pos e7]
          exact ⟨_, kI K 0 0, rfl, rfl, kF_t (kF_r K) (kF_I _ _ (by omega)), hk, rfl, rfl⟩
        · refine zBrF (by first | (simp only [rI]; omega) | (simp only [rL]; omega)) e7 ?_
          rw [if_neg e7]
          by_cases e8 : w = 8
          · refine zBrT (by first | (simp only [rI]; omega) | (simp only [rL]; omega)) e8 ?_
            refine zCl_e (ksa (K := kI K 0 0) hk c1) (by decide) ?_
            rw [if_pos e8]
            refine zBb (fun c => ?_) (fun c => ?_)
            · exact ⟨0, kI K 0 0, rfl, rfl, kF_t (kF_r K) (kF_I _ _ (by omega)), hk, by omega, rfl⟩
            · exact ⟨1, kI K 0 0, rfl, rfl, kF_t (kF_r K) (kF_I _ _ (by omega)), hk, by omega, rfl⟩
          · refine zBrF (by first | (simp only [rI]; omega) | (simp only [rL]; omega)) e8 ?_
            rw [if_neg e8]
            by_cases e9 : w = 9
            · refine zBrT (by first | (simp only [rI]; omega) | (simp only [rL]; omega)) e9 ?_
              refine zCl_e (kgo (K := kI K 0 0) hk c1) (by decide) ?_
              rw [if_pos e9]
              refine zBb (fun c => ?_) (fun c => ?_)
              · exact ⟨0, kI K 0 0, rfl, rfl, kF_t (kF_r K) (kF_I _ _ (by omega)), hk, by rw [if_neg c], rfl⟩
              · exact ⟨1, kI K 0 0, rfl, rfl, kF_t (kF_r K) (kF_I _ _ (by omega)), hk, by rw [if_pos c], rfl⟩
            · refine zBrF (by first | (simp only [rI]; omega) | (simp only [rL]; omega)) e9 ?_
              rw [if_neg e9, if_pos (by omega)]
              refine zCl_e (kti1 (K := kI K 0 0) hk hd) (by decide) ?_
              exact ⟨_, kI K 0 0, rfl, rfl, kF_t (kF_r K) (kF_I _ _ (by omega)), hk, rfl, rfl⟩
    · rw [if_neg c2]
      refine zEv_run gX10_die 120 [] rfl ?_
      refine mVc_i (by first | omega | (simp only [rI]; omega) | (simp only [rL]; omega)) ?_
      refine zCl_e (kdie_t (K := kI K 0 0) hk (by simp only [rL]; omega) c1) (by decide) ?_
      refine zBrF (by first | (simp only [rI]; omega) | (simp only [rL]; omega)) (by omega) ?_
      refine mVc_i (by first | omega | (simp only [rI]; omega) | (simp only [rL]; omega)) ?_
      refine zCl_e (kwi_f (by simp only [rL]; omega) (by simp only [rL]; omega) (by simp only [rL]; omega) (by omega)) (by decide) ?_
      refine zBrT (by first | (simp only [rI]; omega) | (simp only [rL]; omega)) (by omega) ?_
      refine zCl_e (kfa (K := kI K 0 0)) (by decide) ?_
      exact ⟨0, kI (kI K 0 0) 0 2, rfl, rfl, kF_t (kF_t (kF_r K) (kF_I _ _ (by omega))) (kF_I _ _ (by omega)), hk, rfl⟩
  · rw [if_neg c1]
    refine zEv_run gX10_die 120 [] rfl ?_
    refine mVc_i (by first | omega | (simp only [rI]; omega) | (simp only [rL]; omega)) ?_
    refine zCl_e (kdie_f (K := kI K 0 0) hk (by simp only [rL]; omega) c1) (by decide) ?_
    refine zBrT (by first | (simp only [rI]; omega) | (simp only [rL]; omega)) (by omega) ?_
    refine zCl_e (kfa (K := kI K 0 0)) (by decide) ?_
    exact ⟨0, kI (kI K 0 0) 0 1, rfl, rfl, kF_t (kF_t (kF_r K) (kF_I _ _ (by omega))) (kF_I _ _ (by omega)), hk, rfl⟩
set_option maxHeartbeats 1000000 in
set_option maxRecDepth 100000 in
theorem kHand (hk : kVn (K.2 0) v (v.1 4)) {q w : Int} (hq : rI q) (hw : rI w) : zEv X 10 mX10_hand [zR 29, zI q, zI w] (cX S ++ (cM K ++ t)) (kTp S K t (kcd [1, 0]) (pHand v q w)) := by
  unfold pHand
  have b1 := hk.1.2.1
  have b2 := hk.1.2.2.1
  have b4 := hk.1.2.2.2.2.1
  have hq1 := hq.1
  have hq2 := hq.2
  have hw1 := hw.1
  have hw2 := hw.2
  by_cases c1 : 0 ≤ q ∧ q < v.1 2
  · rw [if_pos c1]
    by_cases c2 : 0 ≤ w ∧ w ≤ 2
    · rw [if_pos c2]
      have hh := hk.2.2.1.2.2.1 q c1.1 (by omega)
      have hl := hk.2.2.1.2.2.2 q c1.1 c1.2
      rw [Nat.zero_add] at hh hl
      by_cases e0 : w = 0
      · rw [if_pos e0]
        refine zEv_run gX10_hand 120 [67] rfl ?_
        refine mVc_i (by first | omega | (simp only [rI]; omega) | (simp only [rL]; omega)) ?_
        refine zCl_e (khan_t (K := kI K 0 0) hk (by simp only [rL]; omega) c1) (by decide) ?_
        refine zBrF (by first | (simp only [rI]; omega) | (simp only [rL]; omega)) (by omega) ?_
        refine mVc_i (by first | omega | (simp only [rI]; omega) | (simp only [rL]; omega)) ?_
        refine zCl_e (kwi_t (by simp only [rL]; omega) (by simp only [rL]; omega) (by simp only [rL]; omega) (by omega)) (by decide) ?_
        refine zBrF (by first | (simp only [rI]; omega) | (simp only [rL]; omega)) (by omega) ?_
        refine zBrF (by first | (simp only [rI]; omega) | (simp only [rL]; omega)) (by omega) ?_
        refine zBrT (by first | (simp only [rI]; omega) | (simp only [rL]; omega)) (by omega) ?_
        refine mVc_i (by first | omega | (simp only [rI]; omega) | (simp only [rL]; omega)) ?_
        exact ⟨_, kI K 0 0, rfl, rfl, kF_t (kF_r K) (kF_I _ _ (by omega)), hk, hh, rfl⟩
      · rw [if_neg e0]
        by_cases e1 : w = 1
        · rw [if_pos e1]
          refine zEv_run gX10_hand 120 [67] rfl ?_
          refine mVc_i (by first | omega | (simp only [rI]; omega) | (simp only [rL]; omega)) ?_
          refine zCl_e (khan_t (K := kI K 0 0) hk (by simp only [rL]; omega) c1) (by decide) ?_
          refine zBrF (by first | (simp only [rI]; omega) | (simp only [rL]; omega)) (by omega) ?_
          refine mVc_i (by first | omega | (simp only [rI]; omega) | (simp only [rL]; omega)) ?_
          refine zCl_e (kwi_t (by simp only [rL]; omega) (by simp only [rL]; omega) (by simp only [rL]; omega) (by omega)) (by decide) ?_
          refine zBrF (by first | (simp only [rI]; omega) | (simp only [rL]; omega)) (by omega) ?_
          refine zBrF (by first | (simp only [rI]; omega) | (simp only [rL]; omega)) (by omega) ?_
          refine zBrF (by first | (simp only [rI]; omega) | (simp only [rL]; omega)) (by omega) ?_
          refine mVc_i (by first | omega | (simp only [rI]; omega) | (simp only [rL]; omega)) ?_
          exact ⟨_, kI K 0 0, rfl, rfl, kF_t (kF_r K) (kF_I _ _ (by omega)), hk, hl, rfl⟩
        · rw [if_neg e1]
          have lp : ∀ (k : Nat) (i n : Int), 0 ≤ i → n = zSum (fun k => if v.2.2.2.1 k = q then 1 else 0) i → i + k = v.1 4 → zWP X mX10_hand 10 (kTp S K t (kcd [1, 0]) (.inl (vTh v q), v)) 67 [some (zR 29), some (zI q), some (zI w), some (zI n), some (zI i)] [] (cX S ++ (cM (kI K 0 0) ++ t)) 0 0 := by
            intro k
            induction k with
            | zero =>
              intro i n g0 hn hk0
              refine zWP_run gX10_hand 80 [67] ?_
              refine zCl_e (kth (K := kI K 0 0) hk) (by decide) ?_
              refine zBrT (by simp only [rI]; omega) (by omega) ?_
              exact ⟨n, kI K 0 0, rfl, rfl, kF_t (kF_r K) (kF_I _ _ (by omega)), hk, by rw [hn, show i = v.1 4 by omega]; rfl, rfl⟩
            | succ k ih =>
              intro i n g0 hn hk0
              refine zWP_run gX10_hand 80 [67] ?_
              refine zCl_e (kth (K := kI K 0 0) hk) (by decide) ?_
              refine zBrF (by simp only [rI]; omega) (by omega) ?_
              have hb := hk.1.2.2.2.2.2.2 i g0 (by omega)
              refine zCl_e (kp1 (K := kI K 0 0) hk ⟨g0, by omega⟩) (by decide) ?_
              refine zBr (by simp only [rI]; omega) (fun c => ?_) (fun c => ?_)
              · exact ih (i + 1) (n + 1) (by omega) (by rw [zSum_s g0, ← hn, if_pos c]) (by omega)
              · exact ih (i + 1) (n + 0) (by omega) (by rw [zSum_s g0, ← hn, if_neg c]) (by omega)
          refine zEv_run gX10_hand 120 [67] rfl ?_
          refine mVc_i (by first | omega | (simp only [rI]; omega) | (simp only [rL]; omega)) ?_
          refine zCl_e (khan_t (K := kI K 0 0) hk (by simp only [rL]; omega) c1) (by decide) ?_
          refine zBrF (by first | (simp only [rI]; omega) | (simp only [rL]; omega)) (by omega) ?_
          refine mVc_i (by first | omega | (simp only [rI]; omega) | (simp only [rL]; omega)) ?_
          refine zCl_e (kwi_t (by simp only [rL]; omega) (by simp only [rL]; omega) (by simp only [rL]; omega) (by omega)) (by decide) ?_
          refine zBrF (by first | (simp only [rI]; omega) | (simp only [rL]; omega)) (by omega) ?_
          refine zBrT (by first | (simp only [rI]; omega) | (simp only [rL]; omega)) (by omega) ?_
          exact lp (v.1 4).toNat 0 0 (by omega) rfl (by omega)
    · rw [if_neg c2]
      refine zEv_run gX10_hand 120 [] rfl ?_
      refine mVc_i (by first | omega | (simp only [rI]; omega) | (simp only [rL]; omega)) ?_
      refine zCl_e (khan_t (K := kI K 0 0) hk (by simp only [rL]; omega) c1) (by decide) ?_
      refine zBrF (by first | (simp only [rI]; omega) | (simp only [rL]; omega)) (by omega) ?_
      refine mVc_i (by first | omega | (simp only [rI]; omega) | (simp only [rL]; omega)) ?_
      refine zCl_e (kwi_f (by simp only [rL]; omega) (by simp only [rL]; omega) (by simp only [rL]; omega) (by omega)) (by decide) ?_
      refine zBrT (by first | (simp only [rI]; omega) | (simp only [rL]; omega)) (by omega) ?_
      refine zCl_e (kfa (K := kI K 0 0)) (by decide) ?_
      exact ⟨0, kI (kI K 0 0) 0 2, rfl, rfl, kF_t (kF_t (kF_r K) (kF_I _ _ (by omega))) (kF_I _ _ (by omega)), hk, rfl⟩
  · rw [if_neg c1]
    refine zEv_run gX10_hand 120 [] rfl ?_
    refine mVc_i (by first | omega | (simp only [rI]; omega) | (simp only [rL]; omega)) ?_
    refine zCl_e (khan_f (K := kI K 0 0) hk (by simp only [rL]; omega) c1) (by decide) ?_
    refine zBrT (by first | (simp only [rI]; omega) | (simp only [rL]; omega)) (by omega) ?_
    refine zCl_e (kfa (K := kI K 0 0)) (by decide) ?_
    exact ⟨0, kI (kI K 0 0) 0 1, rfl, rfl, kF_t (kF_t (kF_r K) (kF_I _ _ (by omega))) (kF_I _ _ (by omega)), hk, rfl⟩
set_option maxHeartbeats 1000000 in
set_option maxRecDepth 100000 in
theorem kSalts (hk : kVn (K.2 0) v (v.1 4)) {d : Int} (hd : rI d) : zEv X 10 mX10_salts [zR 29, zI d] (cX S ++ (cM K ++ t)) (kTp S K t (kcd [1]) (pSalts v d)) := by
  unfold pSalts
  have b1 := hk.1.2.1
  have b2 := hk.1.2.2.1
  have b4 := hk.1.2.2.2.2.1
  have hd1 := hd.1
  have hd2 := hd.2
  by_cases c1 : 0 ≤ d ∧ d < v.1 1
  · rw [if_pos c1]
    refine zEv_run gX10_salts 120 [] rfl ?_
    have hs := hk.1.2.2.2.2.2.1.2.1 d
    refine mVc_i (by first | omega | (simp only [rI]; omega) | (simp only [rL]; omega)) ?_
    refine zCl_e (kdie_t (K := K) hk (by simp only [rL]; omega) c1) (by decide) ?_
    refine zBrF (by first | (simp only [rI]; omega) | (simp only [rL]; omega)) (by omega) ?_
    refine zBrF (by first | (simp only [rI]; omega) | (simp only [rL]; omega)) (by omega) ?_
    refine zCl_e (ksa (K := kI K 0 0) hk c1) (by decide) ?_
    refine zBb (fun c => ?_) (fun c => ?_)
    · refine mVc_i (by omega) ?_
      refine mVc_i (Or.inr rfl) ?_
      rw [if_neg c]
      exact ⟨1, kA (kI K 0 0) 0 (va_up (K.2 0) (5 + 7 * d + 6).toNat 1), rfl, rfl, kF_t (kF_t (kF_r K) (kF_I _ _ (by omega))) (kF_A _ _ (by omega)), kV_s hk c1.1 (by omega), rfl, rfl⟩
    · refine mVc_i (Or.inl rfl) ?_
      rw [if_pos c]
      refine ⟨0, kI K 0 0, rfl, rfl, kF_t (kF_r K) (kF_I _ _ (by omega)), ?_, rfl, rfl⟩
      have e : vSl v d = v := by
        show (v.1, (v.2.1.1, fun d1 => if d1 = d then 1 else v.2.1.2.1 d1, v.2.1.2.2), v.2.2) = v
        have : (fun d1 => if d1 = d then 1 else v.2.1.2.1 d1) = v.2.1.2.1 := by
          funext d1
          split
          · rename_i q; rw [q, c]
          · rfl
        rw [this]
      rw [e]
      exact hk
  · rw [if_neg c1]
    refine zEv_run gX10_salts 120 [] rfl ?_
    refine mVc_i (by first | omega | (simp only [rI]; omega) | (simp only [rL]; omega)) ?_
    refine zCl_e (kdie_f (K := K) hk (by simp only [rL]; omega) c1) (by decide) ?_
    refine zBrT (by first | (simp only [rI]; omega) | (simp only [rL]; omega)) (by omega) ?_
    refine zBrT (by simp only [rI]; omega) (by omega) ?_
    refine mVc_i (Or.inl rfl) ?_
    exact ⟨0, kI K 0 1, rfl, rfl, kF_t (kF_r K) (kF_I _ _ (by omega)), hk, rfl⟩
set_option maxHeartbeats 1000000 in
set_option maxRecDepth 100000 in
theorem kdr {z mo : Int} (hz : K.1 11 = z) (hm : 0 < mo ∧ mo < 2147483648) : zEv X 1 mX10_draw [zR 29, zI mo] (cX S ++ (cM K ++ t)) (zIs (.inl (some (zI (dW (dN z) % mo)))) (cX S ++ (cM (kI K 11 (dN z)) ++ t))) := by
  subst hz
  have hw := dW_b (dN (K.1 11))
  refine zEv_run gX10_draw 40 [] rfl ?_
  refine mVc_i ?_ ⟨rfl, rfl⟩
  show 0 ≤ dW (dN (K.1 11)) ∧ rI (dW (dN (K.1 11))) ∧ 0 < mo ∧ rI mo
  simp only [rI]
  omega
set_option maxHeartbeats 1000000 in
set_option maxRecDepth 100000 in
theorem kfb (hk : kVn (K.2 0) v (v.1 4)) {d z : Int} (hd : 0 ≤ d ∧ d < v.1 1) (hz : 0 ≤ z ∧ z < vTot v.2.1 d) : zEv X 3 mX10_faceBy [zR 29, zI d, zI z] (cX S ++ (cM K ++ t)) (zIs (.inl (some (zI (vFb (v.2.1.1 d) 5 1 z)))) (cX S ++ (cM K ++ t))) := by
  have hb := vTot_b hk.1.2.2.2.2.2.1 d
  have ht := vTot_z v.2.1 d
  have lp : ∀ (k : Nat) (f s : Int), 0 ≤ f → f + k = 6 → s = zSum (fun i => v.2.1.1 d (i + 1)) f → (s ≤ z ∧ 0 < k → vFb (v.2.1.1 d) 5 1 z = vFb (v.2.1.1 d) (k - 1) (f + 1) (z - s)) → (z < s → vFb (v.2.1.1 d) 5 1 z = f) → 0 ≤ s ∧ s ≤ 120 → zWP X mX10_faceBy 3 (zIs (.inl (some (zI (vFb (v.2.1.1 d) 5 1 z)))) (cX S ++ (cM K ++ t))) 5 [some (zR 29), some (zI d), some (zI z), some (zI s), some (zI f)] [] (cX S ++ (cM K ++ t)) 0 0 := by
    intro k
    induction k with
    | zero =>
      intro f s f0 hf hs h1 h2 hr
      have : s = vTot v.2.1 d := by rw [hs, ← ht, show f = 6 by omega]
      refine zWP_run gX10_faceBy 60 [5] ?_
      refine zBrT (by simp only [rI]; omega) (by omega) ?_
      rw [h2 (by omega)]
      exact ⟨rfl, rfl⟩
    | succ k ih =>
      intro f s f0 hf hs h1 h2 hr
      have hw := hk.1.2.2.2.2.2.1.1 d (f + 1)
      refine zWP_run gX10_faceBy 60 [5] ?_
      by_cases c : z < s
      · refine zBrT (by simp only [rI]; omega) c ?_
        rw [h2 c]
        exact ⟨rfl, rfl⟩
      · refine zBrF (by simp only [rI]; omega) c ?_
        refine zCl_e (kw hk hd (by omega)) (by decide) ?_
        have hs1 : s + v.2.1.1 d (f + 1) = zSum (fun i => v.2.1.1 d (i + 1)) (f + 1) := by rw [zSum_s f0, ← hs]
        have hbb := zSum_bd (f := fun i => v.2.1.1 d (i + 1)) (c := 20) (i := f + 1) (n := 6) (fun i => hk.1.2.2.2.2.2.1.1 d _) (by omega) (by omega) (by omega)
        have e1 := h1 ⟨by omega, by omega⟩
        rw [Nat.add_sub_cancel] at e1
        refine ih (f + 1) (s + v.2.1.1 d (f + 1)) (by omega) (by omega) hs1 (fun g => ?_) (fun g => ?_) (by omega)
        · obtain ⟨k1, rfl⟩ : ∃ k1, k = k1 + 1 := ⟨k - 1, by omega⟩
          rw [e1, vFb, if_neg (by omega), Nat.add_sub_cancel, show z - (s + v.2.1.1 d (f + 1)) = z - s - v.2.1.1 d (f + 1) by omega]
        · rw [e1]
          cases k with
          | zero => rfl
          | succ k => rw [vFb, if_pos (by omega)]
  refine zEv_run gX10_faceBy 60 [5] rfl ?_
  exact lp 6 0 0 (by omega) (by omega) rfl (fun _ => by rw [Int.sub_zero]; rfl) (fun g => by omega) (by omega)
set_option maxHeartbeats 1000000 in
set_option maxRecDepth 100000 in
theorem kgoes (hk : kVn (K.2 0) v (v.1 4)) {d q f : Int} (hd : 0 ≤ d ∧ d < v.1 1) (hq : 0 ≤ q ∧ q < v.1 2) (hf : 1 ≤ f ∧ f ≤ 6) (hr : v.1 4 < 60) : zEv X 3 mX10_goes [zR 29, zI d, zI q, zI f] (cX S ++ (cM K ++ t)) (kCh S K t (.inl none) (vGo v d q f)) := by
  have b1 := hk.1.2.1
  have b2 := hk.1.2.2.1
  have b4 := hk.1.2.2.2.2.1
  have hw := hk.1.2.2.2.2.2.1.1 d f
  have hh := hk.1.2.2.2.2.2.1.2.2.1 q
  have last : ∀ (i : Int) (C2 : Nat → Int) (w2 : vV), kVn C2 w2 (v.1 4) → w2 = vWr (vPush v d q f) d f (v.2.1.2.2.1 q) → C2 (40 + q).toNat = v.2.1.2.2.1 q → zWP X mX10_goes 3 (kCh S K t (.inl none) (vGo v d q f)) 125 [some (zR 29), some (zI d), some (zI q), some (zI f), some (zI (48 + 51 * v.1 4)), some (zI i)] [] (cX S ++ (cM (kA K 0 C2) ++ t)) 0 0 := by
    intro i C2 w2 h2 hw2 e2
    have h3 := kV_h h2 hq.1 (by omega) (z := min (v.2.1.2.2.1 q + 1) 9) (by omega)
    have h4 := kV_4 h3 (v.1 4 + 1)
    have h5 : (vHt w2 q (min (v.2.1.2.2.1 q + 1) 9)).1 4 = v.1 4 + 1 := by
      show w2.1 4 = _
      rw [hw2, vWr_num]
      rfl
    have h6 : vGo v d q f = vHt w2 q (min (v.2.1.2.2.1 q + 1) 9) := by rw [hw2]; rfl
    have e4 : (va_up C2 (40 + q).toNat (min 9 (C2 (40 + q).toNat + 1))) 4 = v.1 4 := by
      rw [va_up_o _ _ (by omega)]
      exact h2.2.1.2.2.2.2
    refine zWP_run gX10_goes 60 [] ?_
    refine mVc_i (by omega) ?_
    refine mVc_i (by show rI 9 ∧ rI (C2 (40 + q).toNat + 1); simp only [rI]; omega) ?_
    refine mVc_i (by omega) ?_
    refine mVc_i (by omega) ?_
    refine mVc_i (by omega) ?_
    refine ⟨rfl, va_up (va_up C2 (40 + q).toNat (min (v.2.1.2.2.1 q + 1) 9)) 4 (v.1 4 + 1), ?_, ?_⟩
    · show kVn _ (vGo v d q f) ((vGo v d q f).1 4)
      rw [h6, h5]
      exact h4
    · rw [show min (v.2.1.2.2.1 q + 1) 9 = min 9 (C2 (40 + q).toNat + 1) by omega]
      have e5 : v.1 4 + 1 = (va_up C2 (40 + q).toNat (min 9 (C2 (40 + q).toNat + 1))) 4 + 1 := by rw [e4]
      rw [e5]
      rfl
  have cut : ∀ (i : Int) (C : Nat → Int), kVn C (vPush v d q f) (v.1 4) → zWP X mX10_goes 3 (kCh S K t (.inl none) (vGo v d q f)) 82 [some (zR 29), some (zI d), some (zI q), some (zI f), some (zI (48 + 51 * v.1 4)), some (zI i)] [] (cX S ++ (cM (kA K 0 C) ++ t)) 0 0 := by
    intro i C hC
    have hs2 : v.2.1.2.1 d = 0 ∨ v.2.1.2.1 d = 1 := hC.1.2.2.2.2.2.1.2.1 d
    have eh : C (40 + q).toNat = v.2.1.2.2.1 q := by
      have := hC.2.2.1.2.2.1 q hq.1 (by omega)
      rw [Nat.zero_add] at this
      exact this
    refine zWP_run gX10_goes 100 [125] ?_
    refine zCl_e (ksa (K := kA K 0 C) (v := vPush v d q f) hC hd) (by decide) ?_
    refine zBb (P := v.2.1.2.1 d = 1) (fun c => ?_) (fun c => ?_)
    · refine zCl_e (kw (K := kA K 0 C) (v := vPush v d q f) hC hd hf) (by decide) ?_
      refine mVc_i (by omega) ?_
      refine mVc_i (by show rI 0 ∧ rI (v.2.1.1 d f - C (40 + q).toNat); simp only [rI]; omega) ?_
      refine mVc_i (by omega) ?_
      have e1 : max 0 (v.2.1.1 d f - C (40 + q).toNat) = v.2.1.1 d f - min (v.2.1.1 d f) (v.2.1.2.2.1 q) := by omega
      have h7 := kV_w hC hd.1 (by omega) hf.1 hf.2 (z := v.2.1.1 d f - min (v.2.1.1 d f) (v.2.1.2.2.1 q)) (by omega)
      refine last i (va_up C (5 + 7 * d + f - 1).toNat (max 0 (v.2.1.1 d f - C (40 + q).toNat))) _ (by rw [e1]; exact h7) ?_ ?_
      · rw [vWr, if_neg (show ¬ (vPush v d q f).2.1.2.1 d = 1 from c)]
        rfl
      · rw [va_up_o _ _ (by omega)]
        exact eh
    · refine last i C _ hC ?_ eh
      rw [vWr, if_pos (show (vPush v d q f).2.1.2.1 d = 1 from c)]
  have lp : ∀ (k : Nat) (i : Int) (c : Nat → Int), 0 ≤ i → (∀ j, j < i.toNat → c (48 + 51 * (v.1 4).toNat + j) = K.2 0 j) → (∀ j, j < 48 + 51 * (v.1 4).toNat → c j = K.2 0 j) → i + k = 48 → zWP X mX10_goes 3 (kCh S K t (.inl none) (vGo v d q f)) 15 [some (zR 29), some (zI d), some (zI q), some (zI f), some (zI (48 + 51 * v.1 4)), some (zI i)] [] (cX S ++ (cM (kA K 0 c) ++ t)) 0 0 := by
    intro k
    induction k with
    | zero =>
      intro i c i0 h1 h2 hk0
      refine zWP_run gX10_goes 200 [15, 82] ?_
      refine zBrT (by simp only [rI]; omega) (by omega) ?_
      refine mVc_i (by omega) ?_
      refine mVc_i (by omega) ?_
      refine mVc_i (by omega) ?_
      refine cut i (va_up (va_up (va_up c (48 + 51 * v.1 4 + 48).toNat d) (48 + 51 * v.1 4 + 48 + 1).toNat q) (48 + 51 * v.1 4 + 48 + 2).toNat f) ?_
      refine kV_push hk hd hq hf hr (fun j hj => ?_) (fun j hj => ?_) ⟨?_, ?_, ?_⟩
      · rw [va_up_o _ _ (by omega), va_up_o _ _ (by omega), va_up_o _ _ (by omega)]
        exact h1 j (by omega)
      · rw [va_up_o _ _ (by omega), va_up_o _ _ (by omega), va_up_o _ _ (by omega)]
        exact h2 j (by omega)
      · rw [va_up_o _ _ (by omega), va_up_o _ _ (by omega), show 48 + 51 * (v.1 4).toNat + 48 = (48 + 51 * v.1 4 + 48).toNat by omega, va_up_s]
      · rw [va_up_o _ _ (by omega), show 48 + 51 * (v.1 4).toNat + 49 = (48 + 51 * v.1 4 + 48 + 1).toNat by omega, va_up_s]
      · rw [show 48 + 51 * (v.1 4).toNat + 50 = (48 + 51 * v.1 4 + 48 + 2).toNat by omega, va_up_s]
    | succ k ih =>
      intro i c i0 h1 h2 hk0
      refine zWP_run gX10_goes 60 [15] ?_
      refine zBrF (by simp only [rI]; omega) (by omega) ?_
      refine mVc_i (by omega) ?_
      refine mVc_i (by omega) ?_
      refine ih (i + 1) (va_up c (48 + 51 * v.1 4 + i).toNat (c i.toNat)) (by omega) (fun j hj => ?_) (fun j hj => ?_) (by omega)
      · by_cases e : j = i.toNat
        · rw [show 48 + 51 * (v.1 4).toNat + j = (48 + 51 * v.1 4 + i).toNat by omega, va_up_s, h2 _ (by omega), e]
        · rw [va_up_o _ _ (by omega)]
          exact h1 j (by omega)
      · rw [va_up_o _ _ (by omega)]
        exact h2 j hj
  refine zEv_run gX10_goes 60 [15] rfl ?_
  refine zCl_e (kth hk) (by decide) ?_
  exact lp 48 0 (K.2 0) (by omega) (fun j hj => by omega) (fun j hj => rfl) (by omega)
set_option maxHeartbeats 1000000 in
set_option maxRecDepth 100000 in
theorem kCast (hk : kVn (K.2 0) v (v.1 4)) {d q z : Int} (hd : rI d) (hq : rI q) (hz : rI z) : zEv X 10 mX10_cast [zR 29, zI d, zI q, zI z] (cX S ++ (cM K ++ t)) (kTp S K t (kcd [1, 2]) (pCast v d q z)) := by
  unfold pCast
  have b1 := hk.1.2.1
  have b2 := hk.1.2.2.1
  have b4 := hk.1.2.2.2.2.1
  have hd1 := hd.1
  have hd2 := hd.2
  have hq1 := hq.1
  have hq2 := hq.2
  have hz1 := hz.1
  have hz2 := hz.2
  by_cases c1 : 0 ≤ d ∧ d < v.1 1
  · rw [if_pos c1]
    by_cases c2 : 0 ≤ q ∧ q < v.1 2
    · rw [if_pos c2]
      by_cases c3 : ¬ vTot v.2.1 d = 0
      · rw [if_pos c3]
        by_cases c4 : v.1 4 < 60
        · rw [if_pos c4]
          refine zEv_run gX10_cast 120 [] rfl ?_
          have hb := vTot_b hk.1.2.2.2.2.2.1 d
          have hw := dW_b (dN z)
          have m1 := Int.emod_nonneg (dW (dN z)) (show vTot v.2.1 d ≠ 0 from c3)
          have m2 := Int.emod_lt_of_pos (dW (dN z)) (show 0 < vTot v.2.1 d by omega)
          have hb5 := vFb_b (v.2.1.1 d) 5 1 (dW (dN z) % vTot v.2.1 d)
          refine mVc_i (by first | omega | (simp only [rI]; omega) | (simp only [rL]; omega)) ?_
          refine zCl_e (kdie_t (K := K) hk (by simp only [rL]; omega) c1) (by decide) ?_
          refine zBrF (by first | (simp only [rI]; omega) | (simp only [rL]; omega)) (by omega) ?_
          refine mVc_i (by first | omega | (simp only [rI]; omega) | (simp only [rL]; omega)) ?_
          refine zCl_e (khan_t (K := K) hk (by simp only [rL]; omega) c2) (by decide) ?_
          refine zBrF (by first | (simp only [rI]; omega) | (simp only [rL]; omega)) (by omega) ?_
          refine zCl_e (kgo hk c1) (by decide) ?_
          refine zBb (fun c => ?_) (fun c => absurd c c3)
          refine zCl_e (kth hk) (by decide) ?_
          refine zBrF (by first | (simp only [rI]; omega) | (simp only [rL]; omega)) (by omega) ?_
          refine zBrT (by first | (simp only [rI]; omega) | (simp only [rL]; omega)) (by omega) ?_
          refine zCl_e (kto (K := kI (kI K 0 0) 11 z) hk c1) (by decide) ?_
          refine zCl_e (kdr (K := kI (kI K 0 0) 11 z) (z := z) rfl (by omega)) (by decide) ?_
          refine zCl_e (kfb (K := kI (kI (kI K 0 0) 11 z) 11 (dN z)) hk c1 ⟨m1, m2⟩) (by decide) ?_
          refine zCl_k (kgoes (K := kI (kI (kI K 0 0) 11 z) 11 (dN z)) hk c1 c2 (by omega) c4) (by decide) ?_
          intro C hC
          exact ⟨_, kA (kI (kI (kI K 0 0) 11 z) 11 (dN z)) 0 C, rfl, rfl, kF_t (kF_t (kF_t (kF_t (kF_r K) (kF_I _ _ (by omega))) (kF_I _ _ (by omega))) (kF_I _ _ (by omega))) (kF_A _ _ (by omega)), hC, rfl, rfl⟩
        · rw [if_neg c4]
          refine zEv_run gX10_cast 120 [] rfl ?_
          refine mVc_i (by first | omega | (simp only [rI]; omega) | (simp only [rL]; omega)) ?_
          refine zCl_e (kdie_t (K := K) hk (by simp only [rL]; omega) c1) (by decide) ?_
          refine zBrF (by first | (simp only [rI]; omega) | (simp only [rL]; omega)) (by omega) ?_
          refine mVc_i (by first | omega | (simp only [rI]; omega) | (simp only [rL]; omega)) ?_
          refine zCl_e (khan_t (K := K) hk (by simp only [rL]; omega) c2) (by decide) ?_
          refine zBrF (by first | (simp only [rI]; omega) | (simp only [rL]; omega)) (by omega) ?_
          refine zCl_e (kgo hk c1) (by decide) ?_
          refine zBb (fun c => ?_) (fun c => absurd c c3)
          refine zCl_e (kth hk) (by decide) ?_
          refine zBrT (by first | (simp only [rI]; omega) | (simp only [rL]; omega)) (by omega) ?_
          refine zBrF (by first | (simp only [rI]; omega) | (simp only [rL]; omega)) (by omega) ?_
          exact ⟨0, kI K 0 2, rfl, rfl, kF_t (kF_r K) (kF_I _ _ (by omega)), hk, rfl⟩
      · rw [if_neg c3]
        refine zEv_run gX10_cast 120 [] rfl ?_
        refine mVc_i (by first | omega | (simp only [rI]; omega) | (simp only [rL]; omega)) ?_
        refine zCl_e (kdie_t (K := K) hk (by simp only [rL]; omega) c1) (by decide) ?_
        refine zBrF (by first | (simp only [rI]; omega) | (simp only [rL]; omega)) (by omega) ?_
        refine mVc_i (by first | omega | (simp only [rI]; omega) | (simp only [rL]; omega)) ?_
        refine zCl_e (khan_t (K := K) hk (by simp only [rL]; omega) c2) (by decide) ?_
        refine zBrF (by first | (simp only [rI]; omega) | (simp only [rL]; omega)) (by omega) ?_
        refine zCl_e (kgo hk c1) (by decide) ?_
        refine zBb (fun c => absurd c c3) (fun c => ?_)
        refine zBrF (by first | (simp only [rI]; omega) | (simp only [rL]; omega)) (by omega) ?_
        exact ⟨0, kI K 0 2, rfl, rfl, kF_t (kF_r K) (kF_I _ _ (by omega)), hk, rfl⟩
    · rw [if_neg c2]
      refine zEv_run gX10_cast 120 [] rfl ?_
      refine mVc_i (by first | omega | (simp only [rI]; omega) | (simp only [rL]; omega)) ?_
      refine zCl_e (kdie_t (K := K) hk (by simp only [rL]; omega) c1) (by decide) ?_
      refine zBrF (by first | (simp only [rI]; omega) | (simp only [rL]; omega)) (by omega) ?_
      refine mVc_i (by first | omega | (simp only [rI]; omega) | (simp only [rL]; omega)) ?_
      refine zCl_e (khan_f (K := K) hk (by simp only [rL]; omega) c2) (by decide) ?_
      refine zBrT (by first | (simp only [rI]; omega) | (simp only [rL]; omega)) (by omega) ?_
      refine zBrF (by first | (simp only [rI]; omega) | (simp only [rL]; omega)) (by omega) ?_
      exact ⟨0, kI K 0 1, rfl, rfl, kF_t (kF_r K) (kF_I _ _ (by omega)), hk, rfl⟩
  · rw [if_neg c1]
    refine zEv_run gX10_cast 120 [] rfl ?_
    refine mVc_i (by first | omega | (simp only [rI]; omega) | (simp only [rL]; omega)) ?_
    refine zCl_e (kdie_f (K := K) hk (by simp only [rL]; omega) c1) (by decide) ?_
    refine zBrT (by first | (simp only [rI]; omega) | (simp only [rL]; omega)) (by omega) ?_
    refine zBrF (by first | (simp only [rI]; omega) | (simp only [rL]; omega)) (by omega) ?_
    exact ⟨0, kI K 0 1, rfl, rfl, kF_t (kF_r K) (kF_I _ _ (by omega)), hk, rfl⟩
set_option maxHeartbeats 1000000 in
set_option maxRecDepth 100000 in
theorem kShows (hk : kVn (K.2 0) v (v.1 4)) {d q f : Int} (hd : rI d) (hq : rI q) (hf : rI f) : zEv X 10 mX10_shows [zR 29, zI d, zI q, zI f] (cX S ++ (cM K ++ t)) (kTp S K t (kcd [1, 0, 2]) (pShows v d q f)) := by
  unfold pShows
  have b1 := hk.1.2.1
  have b2 := hk.1.2.2.1
  have b4 := hk.1.2.2.2.2.1
  have hd1 := hd.1
  have hd2 := hd.2
  have hq1 := hq.1
  have hq2 := hq.2
  have hf1 := hf.1
  have hf2 := hf.2
  by_cases c1 : 0 ≤ d ∧ d < v.1 1
  · rw [if_pos c1]
    by_cases c2 : 0 ≤ q ∧ q < v.1 2
    · rw [if_pos c2]
      by_cases c3 : 1 ≤ f ∧ f ≤ 6
      · rw [if_pos c3]
        by_cases c4 : vWhy v d q f = 0
        · rw [if_pos c4]
          refine zEv_run gX10_shows 120 [] rfl ?_
          have hy := vWhy_0 c4
          refine mVc_i (by first | omega | (simp only [rI]; omega) | (simp only [rL]; omega)) ?_
          refine zCl_e (kdie_t (K := K) hk (by simp only [rL]; omega) c1) (by decide) ?_
          refine zBrF (by first | (simp only [rI]; omega) | (simp only [rL]; omega)) (by omega) ?_
          refine mVc_i (by first | omega | (simp only [rI]; omega) | (simp only [rL]; omega)) ?_
          refine zCl_e (khan_t (K := K) hk (by simp only [rL]; omega) c2) (by decide) ?_
          refine zBrF (by first | (simp only [rI]; omega) | (simp only [rL]; omega)) (by omega) ?_
          refine mVc_i (by first | omega | (simp only [rI]; omega) | (simp only [rL]; omega)) ?_
          refine zCl_e (kfc_t (by simp only [rL]; omega) c3) (by decide) ?_
          refine zBrF (by first | (simp only [rI]; omega) | (simp only [rL]; omega)) (by omega) ?_
          refine zCl_e (kgo hk c1) (by decide) ?_
          refine zBb (fun c => ?_) (fun c => absurd c hy.2.2.1)
          have hw := hk.1.2.2.2.2.2.1.1 d f
          have hy3 := hy.2.2.2
          have hy2 := hy.2.1
          refine zCl_e (kw hk c1 c3) (by decide) ?_
          refine zBrF (by first | (simp only [rI]; omega) | (simp only [rL]; omega)) (by omega) ?_
          refine zCl_e (kth hk) (by decide) ?_
          refine zBrF (by first | (simp only [rI]; omega) | (simp only [rL]; omega)) (by omega) ?_
          refine zBrT (by first | (simp only [rI]; omega) | (simp only [rL]; omega)) (by omega) ?_
          refine zCl_k (kgoes (K := kI K 0 0) hk c1 c2 c3 hy.2.1) (by decide) ?_
          intro C hC
          have e1 : (vGo v d q f).1 1 = v.1 1 := vGo_1 v d q f (by decide)
          refine zCl_e (kto (K := kA (kI K 0 0) 0 C) hC (by rw [e1]; exact c1)) (by decide) ?_
          exact ⟨_, kA (kI K 0 0) 0 C, rfl, rfl, kF_t (kF_t (kF_r K) (kF_I _ _ (by omega))) (kF_A _ _ (by omega)), hC, rfl, rfl⟩
        · rw [if_neg c4]
          refine zEv_run gX10_shows 120 [] rfl ?_
          refine mVc_i (by first | omega | (simp only [rI]; omega) | (simp only [rL]; omega)) ?_
          refine zCl_e (kdie_t (K := K) hk (by simp only [rL]; omega) c1) (by decide) ?_
          refine zBrF (by first | (simp only [rI]; omega) | (simp only [rL]; omega)) (by omega) ?_
          refine mVc_i (by first | omega | (simp only [rI]; omega) | (simp only [rL]; omega)) ?_
          refine zCl_e (khan_t (K := K) hk (by simp only [rL]; omega) c2) (by decide) ?_
          refine zBrF (by first | (simp only [rI]; omega) | (simp only [rL]; omega)) (by omega) ?_
          refine mVc_i (by first | omega | (simp only [rI]; omega) | (simp only [rL]; omega)) ?_
          refine zCl_e (kfc_t (by simp only [rL]; omega) c3) (by decide) ?_
          refine zBrF (by first | (simp only [rI]; omega) | (simp only [rL]; omega)) (by omega) ?_
          have hw := hk.1.2.2.2.2.2.1.1 d f
          unfold vWhy at c4
          rw [if_neg (fun q => q c1), if_neg (fun q => q c2), if_neg (fun q => q c3)] at c4
          refine zCl_e (kgo hk c1) (by decide) ?_
          refine zBb (fun c => ?_) (fun c => ?_)
          · rw [if_neg c] at c4
            refine zCl_e (kw hk c1 c3) (by decide) ?_
            by_cases e : v.2.1.1 d f = 0
            · refine zBrT (by first | (simp only [rI]; omega) | (simp only [rL]; omega)) e ?_
              refine zBrF (by first | (simp only [rI]; omega) | (simp only [rL]; omega)) (by omega) ?_
              exact ⟨0, kI K 0 3, rfl, rfl, kF_t (kF_r K) (kF_I _ _ (by omega)), hk, rfl⟩
            · refine zBrF (by first | (simp only [rI]; omega) | (simp only [rL]; omega)) e ?_
              rw [if_neg e] at c4
              have c5 : ¬ v.1 4 < 60 := fun q => c4 (by rw [if_pos q])
              refine zCl_e (kth hk) (by decide) ?_
              refine zBrT (by first | (simp only [rI]; omega) | (simp only [rL]; omega)) (by omega) ?_
              refine zBrF (by first | (simp only [rI]; omega) | (simp only [rL]; omega)) (by omega) ?_
              exact ⟨0, kI K 0 3, rfl, rfl, kF_t (kF_r K) (kF_I _ _ (by omega)), hk, rfl⟩
          · refine zBrF (by first | (simp only [rI]; omega) | (simp only [rL]; omega)) (by omega) ?_
            exact ⟨0, kI K 0 3, rfl, rfl, kF_t (kF_r K) (kF_I _ _ (by omega)), hk, rfl⟩
      · rw [if_neg c3]
        refine zEv_run gX10_shows 120 [] rfl ?_
        refine mVc_i (by first | omega | (simp only [rI]; omega) | (simp only [rL]; omega)) ?_
        refine zCl_e (kdie_t (K := K) hk (by simp only [rL]; omega) c1) (by decide) ?_
        refine zBrF (by first | (simp only [rI]; omega) | (simp only [rL]; omega)) (by omega) ?_
        refine mVc_i (by first | omega | (simp only [rI]; omega) | (simp only [rL]; omega)) ?_
        refine zCl_e (khan_t (K := K) hk (by simp only [rL]; omega) c2) (by decide) ?_
        refine zBrF (by first | (simp only [rI]; omega) | (simp only [rL]; omega)) (by omega) ?_
        refine mVc_i (by first | omega | (simp only [rI]; omega) | (simp only [rL]; omega)) ?_
        refine zCl_e (kfc_f (by simp only [rL]; omega) c3) (by decide) ?_
        refine zBrT (by first | (simp only [rI]; omega) | (simp only [rL]; omega)) (by omega) ?_
        refine zBrF (by first | (simp only [rI]; omega) | (simp only [rL]; omega)) (by omega) ?_
        exact ⟨0, kI K 0 2, rfl, rfl, kF_t (kF_r K) (kF_I _ _ (by omega)), hk, rfl⟩
    · rw [if_neg c2]
      refine zEv_run gX10_shows 120 [] rfl ?_
      refine mVc_i (by first | omega | (simp only [rI]; omega) | (simp only [rL]; omega)) ?_
      refine zCl_e (kdie_t (K := K) hk (by simp only [rL]; omega) c1) (by decide) ?_
      refine zBrF (by first | (simp only [rI]; omega) | (simp only [rL]; omega)) (by omega) ?_
      refine mVc_i (by first | omega | (simp only [rI]; omega) | (simp only [rL]; omega)) ?_
      refine zCl_e (khan_f (K := K) hk (by simp only [rL]; omega) c2) (by decide) ?_
      refine zBrT (by first | (simp only [rI]; omega) | (simp only [rL]; omega)) (by omega) ?_
      refine zBrF (by first | (simp only [rI]; omega) | (simp only [rL]; omega)) (by omega) ?_
      exact ⟨0, kI K 0 1, rfl, rfl, kF_t (kF_r K) (kF_I _ _ (by omega)), hk, rfl⟩
  · rw [if_neg c1]
    refine zEv_run gX10_shows 120 [] rfl ?_
    refine mVc_i (by first | omega | (simp only [rI]; omega) | (simp only [rL]; omega)) ?_
    refine zCl_e (kdie_f (K := K) hk (by simp only [rL]; omega) c1) (by decide) ?_
    refine zBrT (by first | (simp only [rI]; omega) | (simp only [rL]; omega)) (by omega) ?_
    refine zBrF (by first | (simp only [rI]; omega) | (simp only [rL]; omega)) (by omega) ?_
    exact ⟨0, kI K 0 1, rfl, rfl, kF_t (kF_r K) (kF_I _ _ (by omega)), hk, rfl⟩
set_option maxHeartbeats 1000000 in
set_option maxRecDepth 100000 in
theorem kBack (hk : kVn (K.2 0) v (v.1 4)) {n : Int} (hn : rI n) : zEv X 10 mX10_back [zR 29, zI n] (cX S ++ (cM K ++ t)) (kTp S K t (kcd [0]) (pBack v n)) := by
  unfold pBack
  have b1 := hk.1.2.1
  have b2 := hk.1.2.2.1
  have b4 := hk.1.2.2.2.2.1
  have hn1 := hn.1
  have hn2 := hn.2
  by_cases c1 : 0 ≤ n ∧ n ≤ v.1 4
  · rw [if_pos c1]
    by_cases e : n = 0
    · refine zEv_run gX10_back 120 [49] rfl ?_
      refine mVc_i (by first | omega | (simp only [rI]; omega) | (simp only [rL]; omega)) ?_
      refine zCl_e (kth (K := kI K 0 0) hk) (by decide) ?_
      refine mVc_i (by first | omega | (simp only [rI]; omega) | (simp only [rL]; omega)) ?_
      refine zCl_e (kwi_t (by simp only [rL]; omega) (by simp only [rL]; omega) (by simp only [rL]; omega) (by omega)) (by decide) ?_
      refine zBrF (by first | (simp only [rI]; omega) | (simp only [rL]; omega)) (by omega) ?_
      refine zBrT (by first | (simp only [rI]; omega) | (simp only [rL]; omega)) (by omega) ?_
      refine zCl_e (kth (K := kI K 0 0) hk) (by decide) ?_
      refine ⟨_, kI K 0 0, rfl, rfl, kF_t (kF_r K) (kF_I _ _ (by omega)), ?_, (by show v.1 4 = v.1 4 - n; omega), rfl⟩
      rw [vUn, if_pos e]
      exact hk
    · have lp : ∀ (k : Nat) (i : Int) (c : Nat → Int), 0 ≤ i → (∀ j, j < i.toNat → c j = K.2 0 (48 + 51 * (v.1 4 - n).toNat + j)) → (∀ j, i.toNat ≤ j → c j = K.2 0 j) → i + k = 48 → zWP X mX10_back 10 (kTp S K t (kcd [0]) (.inl (v.1 4 - n), vUn v n)) 49 [some (zR 29), some (zI n), some (zI (48 + 51 * (v.1 4 - n))), some (zI i)] [] (cX S ++ (cM (kA (kI K 0 0) 0 c) ++ t)) 0 0 := by
        intro k
        induction k with
        | zero =>
          intro i c i0 h1 h2 hk0
          have hC := kV_un (c1 := c) hk (n := n) (by omega) (by omega) (fun j hj => h1 j (by omega)) (fun j hj => h2 j (by omega))
          refine zWP_run gX10_back 60 [49] ?_
          refine zBrT (by first | (simp only [rI]; omega) | (simp only [rL]; omega)) (by omega) ?_
          refine zCl_e (kth (K := kA (kI K 0 0) 0 c) hC) (by decide) ?_
          refine ⟨_, kA (kI K 0 0) 0 c, rfl, rfl, kF_t (kF_t (kF_r K) (kF_I _ _ (by omega))) (kF_A _ _ (by omega)), hC, ?_, rfl⟩
          rw [vUn, if_neg e]
          rfl
        | succ k ih =>
          intro i c i0 h1 h2 hk0
          refine zWP_run gX10_back 60 [49] ?_
          refine zBrF (by first | (simp only [rI]; omega) | (simp only [rL]; omega)) (by omega) ?_
          refine mVc_i (by omega) ?_
          refine mVc_i (by omega) ?_
          refine ih (i + 1) (va_up c i.toNat (c (48 + 51 * (v.1 4 - n) + i).toNat)) (by omega) (fun j hj => ?_) (fun j hj => ?_) (by omega)
          · by_cases e : j = i.toNat
            · rw [e, va_up_s, h2 _ (by omega), show (48 + 51 * (v.1 4 - n) + i).toNat = 48 + 51 * (v.1 4 - n).toNat + i.toNat by omega]
            · rw [va_up_o _ _ (by omega)]
              exact h1 j (by omega)
          · rw [va_up_o _ _ (by omega)]
            exact h2 j (by omega)
      refine zEv_run gX10_back 120 [49] rfl ?_
      refine mVc_i (by first | omega | (simp only [rI]; omega) | (simp only [rL]; omega)) ?_
      refine zCl_e (kth (K := kI K 0 0) hk) (by decide) ?_
      refine mVc_i (by first | omega | (simp only [rI]; omega) | (simp only [rL]; omega)) ?_
      refine zCl_e (kwi_t (by simp only [rL]; omega) (by simp only [rL]; omega) (by simp only [rL]; omega) (by omega)) (by decide) ?_
      refine zBrF (by first | (simp only [rI]; omega) | (simp only [rL]; omega)) (by omega) ?_
      refine zBrF (by first | (simp only [rI]; omega) | (simp only [rL]; omega)) (by omega) ?_
      refine zCl_e (kth (K := kI K 0 0) hk) (by decide) ?_
      exact lp 48 0 (K.2 0) (by omega) (fun j hj => by omega) (fun j hj => rfl) (by omega)
  · rw [if_neg c1]
    refine zEv_run gX10_back 120 [] rfl ?_
    refine mVc_i (by first | omega | (simp only [rI]; omega) | (simp only [rL]; omega)) ?_
    refine zCl_e (kth (K := kI K 0 0) hk) (by decide) ?_
    refine mVc_i (by first | omega | (simp only [rI]; omega) | (simp only [rL]; omega)) ?_
    refine zCl_e (kwi_f (by simp only [rL]; omega) (by simp only [rL]; omega) (by simp only [rL]; omega) (by omega)) (by decide) ?_
    refine zBrT (by first | (simp only [rI]; omega) | (simp only [rL]; omega)) (by omega) ?_
    refine zCl_e (kfa (K := kI K 0 0)) (by decide) ?_
    exact ⟨0, kI (kI K 0 0) 0 1, rfl, rfl, kF_t (kF_t (kF_r K) (kF_I _ _ (by omega))) (kF_I _ _ (by omega)), hk, rfl⟩
set_option maxHeartbeats 1000000 in
set_option maxRecDepth 100000 in
theorem kPast (hk : kVn (K.2 0) v (v.1 4)) {y w : Int} (hy : rI y) (hw : rI w) : zEv X 10 mX10_past [zR 29, zI y, zI w] (cX S ++ (cM K ++ t)) (kTp S K t (kcd [1, 0]) (pPast v y w)) := by
  unfold pPast
  have b1 := hk.1.2.1
  have b2 := hk.1.2.2.1
  have b4 := hk.1.2.2.2.2.1
  have hy1 := hy.1
  have hy2 := hy.2
  have hw1 := hw.1
  have hw2 := hw.2
  by_cases c1 : 0 ≤ y ∧ y < v.1 4
  · rw [if_pos c1]
    by_cases c2 : 0 ≤ w ∧ w ≤ 2
    · rw [if_pos c2]
      refine zEv_run gX10_past 120 [] rfl ?_
      refine mVc_i (by first | omega | (simp only [rI]; omega) | (simp only [rL]; omega)) ?_
      refine zCl_e (kth hk) (by decide) ?_
      refine mVc_i (by first | omega | (simp only [rI]; omega) | (simp only [rL]; omega)) ?_
      refine zCl_e (kwi_t (by simp only [rL]; omega) (by simp only [rL]; omega) (by simp only [rL]; omega) (by omega)) (by decide) ?_
      refine zBrF (by first | (simp only [rI]; omega) | (simp only [rL]; omega)) (by omega) ?_
      refine mVc_i (by first | omega | (simp only [rI]; omega) | (simp only [rL]; omega)) ?_
      refine zCl_e (kwi_t (by simp only [rL]; omega) (by simp only [rL]; omega) (by simp only [rL]; omega) (by omega)) (by decide) ?_
      refine zBrF (by first | (simp only [rI]; omega) | (simp only [rL]; omega)) (by omega) ?_
      refine zBrT (by first | (simp only [rI]; omega) | (simp only [rL]; omega)) (by omega) ?_
      by_cases e0 : w = 0
      · rw [if_pos e0]
        subst e0
        refine zCl_e (kp0 (K := kI K 0 0) hk c1) (by decide) ?_
        exact ⟨_, kI K 0 0, rfl, rfl, kF_t (kF_r K) (kF_I _ _ (by omega)), hk, rfl, rfl⟩
      · rw [if_neg e0]
        by_cases e1 : w = 1
        · rw [if_pos e1]
          subst e1
          refine zCl_e (kp1 (K := kI K 0 0) hk c1) (by decide) ?_
          exact ⟨_, kI K 0 0, rfl, rfl, kF_t (kF_r K) (kF_I _ _ (by omega)), hk, rfl, rfl⟩
        · rw [if_neg e1]
          have e2 : w = 2 := by omega
          subst e2
          refine zCl_e (kp2 (K := kI K 0 0) hk c1) (by decide) ?_
          exact ⟨_, kI K 0 0, rfl, rfl, kF_t (kF_r K) (kF_I _ _ (by omega)), hk, rfl, rfl⟩
    · rw [if_neg c2]
      refine zEv_run gX10_past 120 [] rfl ?_
      refine mVc_i (by first | omega | (simp only [rI]; omega) | (simp only [rL]; omega)) ?_
      refine zCl_e (kth hk) (by decide) ?_
      refine mVc_i (by first | omega | (simp only [rI]; omega) | (simp only [rL]; omega)) ?_
      refine zCl_e (kwi_t (by simp only [rL]; omega) (by simp only [rL]; omega) (by simp only [rL]; omega) (by omega)) (by decide) ?_
      refine zBrF (by first | (simp only [rI]; omega) | (simp only [rL]; omega)) (by omega) ?_
      refine mVc_i (by first | omega | (simp only [rI]; omega) | (simp only [rL]; omega)) ?_
      refine zCl_e (kwi_f (by simp only [rL]; omega) (by simp only [rL]; omega) (by simp only [rL]; omega) (by omega)) (by decide) ?_
      refine zBrT (by first | (simp only [rI]; omega) | (simp only [rL]; omega)) (by omega) ?_
      refine zBrF (by first | (simp only [rI]; omega) | (simp only [rL]; omega)) (by omega) ?_
      exact ⟨0, kI K 0 2, rfl, rfl, kF_t (kF_r K) (kF_I _ _ (by omega)), hk, rfl⟩
  · rw [if_neg c1]
    refine zEv_run gX10_past 120 [] rfl ?_
    refine mVc_i (by first | omega | (simp only [rI]; omega) | (simp only [rL]; omega)) ?_
    refine zCl_e (kth hk) (by decide) ?_
    refine mVc_i (by first | omega | (simp only [rI]; omega) | (simp only [rL]; omega)) ?_
    refine zCl_e (kwi_f (by simp only [rL]; omega) (by simp only [rL]; omega) (by simp only [rL]; omega) (by omega)) (by decide) ?_
    refine zBrT (by first | (simp only [rI]; omega) | (simp only [rL]; omega)) (by omega) ?_
    refine zBrF (by first | (simp only [rI]; omega) | (simp only [rL]; omega)) (by omega) ?_
    exact ⟨0, kI K 0 1, rfl, rfl, kF_t (kF_r K) (kF_I _ _ (by omega)), hk, rfl⟩
set_option maxHeartbeats 1000000 in
set_option maxRecDepth 100000 in
theorem kEvening (hk : kVn (K.2 0) v (v.1 4)) {s n : Int} (hs : rI s) (hn : rI n) : zEv X 10 mX10_evening [zR 29, zI s, zI n] (cX S ++ (cM K ++ t)) (kTp S K t (kcd [0, 2]) (pEvening v s n)) := by
  unfold pEvening
  have b1 := hk.1.2.1
  have b2 := hk.1.2.2.1
  have b4 := hk.1.2.2.2.2.1
  have hs1 := hs.1
  have hs2 := hs.2
  have hn1 := hn.1
  have hn2 := hn.2
  by_cases c1 : 1 ≤ n ∧ n ≤ 40
  · rw [if_pos c1]
    by_cases c2 : ¬ (v.1 1 = 0 ∨ v.1 2 = 0)
    · rw [if_pos c2]
      have lp : ∀ (k : Nat) (i cn : Int) (R : kK), 0 ≤ i → kF K R → R.1 0 = 0 → R.1 11 = (vNi v s i).1 → kV (R.2 0) (vNi v s i).2 → (vNi v s i).2.1 1 = v.1 1 → (vNi v s i).2.1 2 = v.1 2 → cn = (vNi v s i).2.1 4 - v.1 4 → i + k = n → zWP X mX10_evening 10 (kTp S K t (kcd [0, 2]) (.inl ((vNi v s n).2.1 4 - v.1 4), (vNi v s n).2)) 58 [some (zR 29), some (zI s), some (zI n), some (zI cn), some (zI i), none, none] [] (cX S ++ (cM R ++ t)) 0 0 := by
        intro k
        induction k with
        | zero =>
          intro i cn R i0 hg h0 h11 hr hd hh hcn hk0
          refine zWP_run gX10_evening 80 [58] ?_
          refine zBrT (by first | (simp only [rI]; omega) | (simp only [rL]; omega)) (by omega) ?_
          refine ⟨cn, R, rfl, rfl, hg, ?_, ?_, h0⟩
          · rw [← show i = n by omega]
            exact hr
          · rw [hcn, show i = n by omega]
        | succ k ih =>
          intro i cn R i0 hg h0 h11 hr hd hh hcn hk0
          have w1 := dW_b (dN (vNi v s i).1)
          have w2 := dW_b (dN (dN (vNi v s i).1))
          have m1 := Int.emod_nonneg (dW (dN (vNi v s i).1)) (show (vNi v s i).2.1 1 ≠ 0 by omega)
          have m2 := Int.emod_lt_of_pos (dW (dN (vNi v s i).1)) (show 0 < (vNi v s i).2.1 1 by omega)
          have m3 := Int.emod_nonneg (dW (dN (dN (vNi v s i).1))) (show (vNi v s i).2.1 2 ≠ 0 by omega)
          have m4 := Int.emod_lt_of_pos (dW (dN (dN (vNi v s i).1))) (show 0 < (vNi v s i).2.1 2 by omega)
          have hst := vNi_s v s i0
          have hb4 := hr.1.2.2.2.2.1
          have htb := vTot_b hr.1.2.2.2.2.2.1 (dW (dN (vNi v s i).1) % (vNi v s i).2.1 1)
          have g2 : kF K (kI (kI R 11 (dN (vNi v s i).1)) 11 (dN (dN (vNi v s i).1))) := kF_t hg (kF_t (kF_I _ _ (by omega)) (kF_I _ _ (by omega)))
          have g3 : kF K (kI (kI (kI R 11 (dN (vNi v s i).1)) 11 (dN (dN (vNi v s i).1))) 11 (dN (dN (dN (vNi v s i).1)))) := kF_t g2 (kF_I _ _ (by omega))
          refine zWP_run gX10_evening 120 [58] ?_
          refine zBrF (by first | (simp only [rI]; omega) | (simp only [rL]; omega)) (by omega) ?_
          refine zCl_e (kdi hr) (by decide) ?_
          refine zCl_e (kdr h11 (by omega)) (by decide) ?_
          refine zCl_e (kha (K := kI R 11 (dN (vNi v s i).1)) hr) (by decide) ?_
          refine zCl_e (kdr (K := kI R 11 (dN (vNi v s i).1)) (z := dN (vNi v s i).1) rfl (by omega)) (by decide) ?_
          refine zCl_e (kgo (K := kI (kI R 11 (dN (vNi v s i).1)) 11 (dN (dN (vNi v s i).1))) hr ⟨m1, m2⟩) (by decide) ?_
          refine zBb (fun c => ?_) (fun c => ?_)
          · refine zCl_e (kth (K := kI (kI R 11 (dN (vNi v s i).1)) 11 (dN (dN (vNi v s i).1))) hr) (by decide) ?_
            by_cases c5 : (vNi v s i).2.1 4 < 60
            · refine zBrF (by first | (simp only [rI]; omega) | (simp only [rL]; omega)) (by omega) ?_
              have hx : vNi v s (i + 1) = (dN (dN (dN (vNi v s i).1)), vGo (vNi v s i).2 (dW (dN (vNi v s i).1) % (vNi v s i).2.1 1) (dW (dN (dN (vNi v s i).1)) % (vNi v s i).2.1 2) (vFb ((vNi v s i).2.2.1.1 (dW (dN (vNi v s i).1) % (vNi v s i).2.1 1)) 5 1 (dW (dN (dN (dN (vNi v s i).1))) % vTot (vNi v s i).2.2.1 (dW (dN (vNi v s i).1) % (vNi v s i).2.1 1)))) := by
                rw [hst, vNt, if_neg (fun q => by rcases q with q | q; exact c q; exact q c5)]
              have hb := vFb_b ((vNi v s i).2.2.1.1 (dW (dN (vNi v s i).1) % (vNi v s i).2.1 1)) 5 1 (dW (dN (dN (dN (vNi v s i).1))) % vTot (vNi v s i).2.2.1 (dW (dN (vNi v s i).1) % (vNi v s i).2.1 1))
              have m5 := Int.emod_nonneg (dW (dN (dN (dN (vNi v s i).1)))) (show vTot (vNi v s i).2.2.1 (dW (dN (vNi v s i).1) % (vNi v s i).2.1 1) ≠ 0 from c)
              have m6 := Int.emod_lt_of_pos (dW (dN (dN (dN (vNi v s i).1)))) (show 0 < vTot (vNi v s i).2.2.1 (dW (dN (vNi v s i).1) % (vNi v s i).2.1 1) by omega)
              refine zCl_e (kto (K := kI (kI R 11 (dN (vNi v s i).1)) 11 (dN (dN (vNi v s i).1))) hr ⟨m1, m2⟩) (by decide) ?_
              refine zCl_e (kdr (K := kI (kI R 11 (dN (vNi v s i).1)) 11 (dN (dN (vNi v s i).1))) (z := dN (dN (vNi v s i).1)) rfl (by omega)) (by decide) ?_
              refine zCl_e (kfb (K := kI (kI (kI R 11 (dN (vNi v s i).1)) 11 (dN (dN (vNi v s i).1))) 11 (dN (dN (dN (vNi v s i).1)))) hr ⟨m1, m2⟩ ⟨m5, m6⟩) (by decide) ?_
              refine zCl_k (kgoes (K := kI (kI (kI R 11 (dN (vNi v s i).1)) 11 (dN (dN (vNi v s i).1))) 11 (dN (dN (dN (vNi v s i).1)))) hr ⟨m1, m2⟩ ⟨m3, m4⟩ (by omega) c5) (by decide) ?_
              intro C hC
              exact zWP_fg (ih (i + 1) (cn + 1) (kA (kI (kI (kI R 11 (dN (vNi v s i).1)) 11 (dN (dN (vNi v s i).1))) 11 (dN (dN (dN (vNi v s i).1)))) 0 C) (by omega) (kF_t g3 (kF_A _ _ (by omega))) h0 (by rw [hx]; rfl) (by rw [hx]; exact hC) (by rw [hx]; show (vGo _ _ _ _).1 1 = _; rw [vGo_1 _ _ _ _ (by decide)]; exact hd) (by rw [hx]; show (vGo _ _ _ _).1 2 = _; rw [vGo_1 _ _ _ _ (by decide)]; exact hh) (by rw [hx]; show _ = (vGo _ _ _ _).1 4 - _; rw [vGo_4]; omega) (by omega)) (by repeat (first | exact trivial | refine ⟨rfl, ?_⟩))
            · refine zBrT (by first | (simp only [rI]; omega) | (simp only [rL]; omega)) (by omega) ?_
              have hx : vNi v s (i + 1) = (dN (dN (vNi v s i).1), (vNi v s i).2) := by rw [hst, vNt, if_pos (Or.inr c5)]
              exact zWP_fg (ih (i + 1) cn (kI (kI R 11 (dN (vNi v s i).1)) 11 (dN (dN (vNi v s i).1))) (by omega) g2 h0 (by rw [hx]; rfl) (by rw [hx]; exact hr) (by rw [hx]; exact hd) (by rw [hx]; exact hh) (by rw [hx]; exact hcn) (by omega)) (by repeat (first | exact trivial | refine ⟨rfl, ?_⟩))
          · have hx : vNi v s (i + 1) = (dN (dN (vNi v s i).1), (vNi v s i).2) := by rw [hst, vNt, if_pos (Or.inl c)]
            exact zWP_fg (ih (i + 1) cn (kI (kI R 11 (dN (vNi v s i).1)) 11 (dN (dN (vNi v s i).1))) (by omega) g2 h0 (by rw [hx]; rfl) (by rw [hx]; exact hr) (by rw [hx]; exact hd) (by rw [hx]; exact hh) (by rw [hx]; exact hcn) (by omega)) (by repeat (first | exact trivial | refine ⟨rfl, ?_⟩))
      refine zEv_run gX10_evening 120 [58] rfl ?_
      refine mVc_i (by first | omega | (simp only [rI]; omega) | (simp only [rL]; omega)) ?_
      refine zCl_e (kwi_t (by simp only [rL]; omega) (by simp only [rL]; omega) (by simp only [rL]; omega) (by omega)) (by decide) ?_
      refine zBrF (by first | (simp only [rI]; omega) | (simp only [rL]; omega)) (by omega) ?_
      refine zCl_e (kdi hk) (by decide) ?_
      refine zBrF (by first | (simp only [rI]; omega) | (simp only [rL]; omega)) (by omega) ?_
      refine zCl_e (kha hk) (by decide) ?_
      refine zBrF (by first | (simp only [rI]; omega) | (simp only [rL]; omega)) (by omega) ?_
      refine zBrT (by first | (simp only [rI]; omega) | (simp only [rL]; omega)) (by omega) ?_
      exact lp n.toNat 0 0 (kI (kI K 0 0) 11 s) (by omega) (kF_t (kF_t (kF_r K) (kF_I _ _ (by omega))) (kF_I _ _ (by omega))) rfl rfl hk rfl rfl (by show 0 = v.1 4 - v.1 4; omega) (by omega)
    · rw [if_neg c2]
      refine zEv_run gX10_evening 120 [] rfl ?_
      refine mVc_i (by first | omega | (simp only [rI]; omega) | (simp only [rL]; omega)) ?_
      refine zCl_e (kwi_t (by simp only [rL]; omega) (by simp only [rL]; omega) (by simp only [rL]; omega) (by omega)) (by decide) ?_
      refine zBrF (by first | (simp only [rI]; omega) | (simp only [rL]; omega)) (by omega) ?_
      refine zCl_e (kdi hk) (by decide) ?_
      by_cases e : v.1 1 = 0
      · refine zBrT (by first | (simp only [rI]; omega) | (simp only [rL]; omega)) e ?_
        refine zBrF (by first | (simp only [rI]; omega) | (simp only [rL]; omega)) (by omega) ?_
        exact ⟨0, kI K 0 2, rfl, rfl, kF_t (kF_r K) (kF_I _ _ (by omega)), hk, rfl⟩
      · refine zBrF (by first | (simp only [rI]; omega) | (simp only [rL]; omega)) e ?_
        refine zCl_e (kha hk) (by decide) ?_
        refine zBrT (by first | (simp only [rI]; omega) | (simp only [rL]; omega)) (by omega) ?_
        refine zBrF (by first | (simp only [rI]; omega) | (simp only [rL]; omega)) (by omega) ?_
        exact ⟨0, kI K 0 2, rfl, rfl, kF_t (kF_r K) (kF_I _ _ (by omega)), hk, rfl⟩
  · rw [if_neg c1]
    refine zEv_run gX10_evening 120 [] rfl ?_
    refine mVc_i (by first | omega | (simp only [rI]; omega) | (simp only [rL]; omega)) ?_
    refine zCl_e (kwi_f (by simp only [rL]; omega) (by simp only [rL]; omega) (by simp only [rL]; omega) (by omega)) (by decide) ?_
    refine zBrT (by first | (simp only [rI]; omega) | (simp only [rL]; omega)) (by omega) ?_
    refine zBrF (by first | (simp only [rI]; omega) | (simp only [rL]; omega)) (by omega) ?_
    exact ⟨0, kI K 0 1, rfl, rfl, kF_t (kF_r K) (kF_I _ _ (by omega)), hk, rfl⟩
end Mdl1
