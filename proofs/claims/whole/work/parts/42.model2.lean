/-! the reference: ants, rain, fans, lots -/
theorem zSum_cg {f g : Int → Int} {n : Int} (h : ∀ i, 0 ≤ i → i < n → f i = g i) : zSum f n = zSum g n := by
  by_cases h0 : 0 ≤ n
  · exact Int.le_antisymm (zSum_mono h0 fun i a b => by rw [h i a b]; exact Int.le_refl _) (zSum_mono h0 fun i a b => by rw [h i a b]; exact Int.le_refl _)
  · have e : n.toNat = 0 := by omega
    simp only [zSum, e, vSum]
theorem zSum_le {f : Int → Int} (h : ∀ p, 0 ≤ f p) {a b : Int} (ha : 0 ≤ a) (hb : a ≤ b) : zSum f a ≤ zSum f b := by
  have hk : ∀ k : Nat, zSum f a ≤ zSum f (a + k) := by
    intro k
    induction k with
    | zero => simp only [Int.natCast_zero, Int.add_zero]; exact Int.le_refl _
    | succ k ih =>
      have e : a + ((k + 1 : Nat) : Int) = a + k + 1 := by omega
      have h1 := h (a + k)
      rw [e, zSum_s (by omega)]
      omega
  have := hk (b - a).toNat
  rw [show a + ((b - a).toNat : Int) = b by omega] at this
  exact this
/-- one more minute: the first face with something left loses 1 -/
theorem eat1 {W : Int → Int} (hW : ∀ p, 0 ≤ W p) {m p : Int} (hm : 0 ≤ m) (hp : 0 ≤ p) (h0 : ∀ j, 0 ≤ j → j < p → W j - min (W j) (max 0 (m - zSum W j)) ≤ 0) : zSum W p ≤ m := by
  have hk : ∀ k : Nat, (k : Int) ≤ p → zSum W k ≤ m := by
    intro k
    induction k with
    | zero => intro _; exact hm
    | succ k ih =>
      intro hk
      have a := ih (by omega)
      have b := h0 k (by omega) (by omega)
      have c := hW k
      have e : ((k + 1 : Nat) : Int) = (k : Int) + 1 := by omega
      rw [e, zSum_s (by omega)]
      omega
  have := hk p.toNat (by omega)
  rw [show ((p.toNat : Nat) : Int) = p by omega] at this
  exact this
theorem eat2 {W : Int → Int} (hW : ∀ p, 0 ≤ W p) {m p : Int} (hm : 0 ≤ m) (hp : 0 ≤ p) (h0 : ∀ j, 0 ≤ j → j < p → W j - min (W j) (max 0 (m - zSum W j)) ≤ 0) (h1 : 0 < W p - min (W p) (max 0 (m - zSum W p))) {j : Int} (j0 : 0 ≤ j) : W j - min (W j) (max 0 (m + 1 - zSum W j)) = if j = p then W j - min (W j) (max 0 (m - zSum W j)) - 1 else W j - min (W j) (max 0 (m - zSum W j)) := by
  have a := eat1 hW hm hp h0
  have c := hW j
  by_cases e : j = p
  · rw [if_pos e]
    subst e
    omega
  · rw [if_neg e]
    by_cases e2 : j < p
    · have b := zSum_le hW (a := j + 1) (b := p) (by omega) (by omega)
      rw [zSum_s j0] at b
      omega
    · have b := zSum_le hW (a := p + 1) (b := j) (by omega) (by omega)
      rw [zSum_s hp] at b
      omega
/-- the dice when ants have had τ d minutes at die d -/
def vTm (v : vV) (τ : Int → Int) : vV := (v.1, (fun d f => if 1 ≤ f ∧ f ≤ 6 then vEn v d f (τ d) else v.2.1.1 d f, v.2.1.2), v.2.2)
theorem vEn_b {v : vV} (h : vVb v) (d f m : Int) : 0 ≤ vEn v d f m ∧ vEn v d f m ≤ 20 := by
  unfold vEn
  split
  · exact h.2.2.2.2.2.1.1 d f
  · exact vEp_b h d m _
theorem vTm_b {v : vV} (h : vVb v) (τ : Int → Int) : vVb (vTm v τ) := by
  obtain ⟨b0, b1, b2, b3, b4, bs, bh⟩ := h
  refine ⟨b0, b1, b2, b3, b4, ⟨fun d f => ?_, bs.2⟩, bh⟩
  show 0 ≤ (if 1 ≤ f ∧ f ≤ 6 then vEn v d f (τ d) else v.2.1.1 d f) ∧ (if 1 ≤ f ∧ f ≤ 6 then vEn v d f (τ d) else v.2.1.1 d f) ≤ 20
  split
  · exact vEn_b ⟨b0, b1, b2, b3, b4, bs, bh⟩ d f _
  · exact bs.1 d f
theorem vEn_0 {v : vV} (h : vVb v) {d f : Int} (hf : 1 ≤ f ∧ f ≤ 6) : vEn v d f 0 = v.2.1.1 d f := by
  unfold vEn
  split
  · rfl
  · have h1 := vPs_b v f
    have h2 := vBf_b h d (p := vPs v f) h1.1 (by omega)
    have h3 := vWp_b h d (vPs v f)
    have h4 : vWp v d (vPs v f) = v.2.1.1 d f := by
      show v.2.1.1 d (vAf v (vPs v f)) = _
      rw [vAf_ps v hf.1 hf.2]
    simp only [vEp]
    omega
theorem vTm_0 {v : vV} (h : vVb v) {τ : Int → Int} (ht : ∀ d, τ d = 0) : vTm v τ = v := by
  have e : (fun d f => if 1 ≤ f ∧ f ≤ 6 then vEn v d f (τ d) else v.2.1.1 d f) = v.2.1.1 := by
    funext d f
    split
    · rename_i c
      rw [ht d, vEn_0 h c]
    · rfl
  simp only [vTm, e]
/-- the first face of the ants' row with something left -/
def vNf (w af : Int → Int) : Nat → Int → Int
  | 0, _ => -1
  | k + 1, p => if 0 < w p then af p else vNf w af k (p + 1)
theorem vNf_spec (w af : Int → Int) : ∀ (k : Nat) (p : Int), (vNf w af k p = -1 ∧ ∀ j, p ≤ j → j < p + k → w j ≤ 0) ∨ ∃ j, p ≤ j ∧ j < p + k ∧ vNf w af k p = af j ∧ 0 < w j ∧ ∀ i, p ≤ i → i < j → w i ≤ 0
  | 0, p => Or.inl ⟨rfl, fun j a b => by omega⟩
  | k + 1, p => by
    by_cases c : 0 < w p
    · exact Or.inr ⟨p, by omega, by omega, by rw [vNf, if_pos c], c, fun i a b => by omega⟩
    · have e : vNf w af (k + 1) p = vNf w af k (p + 1) := by rw [vNf, if_neg c]
      rcases vNf_spec w af k (p + 1) with ⟨h1, h2⟩ | ⟨j, h1, h2, h3, h4, h5⟩
      · refine Or.inl ⟨by rw [e, h1], fun j a b => ?_⟩
        by_cases q : j = p
        · rw [q]; omega
        · exact h2 j (by omega) (by omega)
      · refine Or.inr ⟨j, by omega, by omega, by rw [e, h3], h4, fun i a b => ?_⟩
        by_cases q : i = p
        · rw [q]; omega
        · exact h5 i (by omega) b
def vNx (u : vV) (d : Int) : Int := if u.2.1.2.1 d = 1 then -1 else vNf (vWp u d) (vAf u) 6 0
theorem vTm_w (v : vV) (τ : Int → Int) {d p : Int} (hp : 0 ≤ p ∧ p < 6) (hs : ¬ v.2.1.2.1 d = 1) : vWp (vTm v τ) d p = vEp v d (τ d) p := by
  have hb := vAf_b v p
  show (if 1 ≤ vAf v p ∧ vAf v p ≤ 6 then vEn v d (vAf v p) (τ d) else v.2.1.1 d (vAf v p)) = _
  rw [if_pos hb, vEn, if_neg hs, vPs_af v hp.1 hp.2]
def tau1 (τ : Int → Int) (d : Int) : Int → Int := fun d1 => if d1 = d then τ d + 1 else τ d1
theorem vTm_same {v : vV} {τ : Int → Int} {d : Int} (h : ∀ f, 1 ≤ f ∧ f ≤ 6 → vEn v d f (τ d + 1) = vEn v d f (τ d)) : vTm v (tau1 τ d) = vTm v τ := by
  have e : (fun d1 f => if 1 ≤ f ∧ f ≤ 6 then vEn v d1 f (tau1 τ d d1) else v.2.1.1 d1 f) = fun d1 f => if 1 ≤ f ∧ f ≤ 6 then vEn v d1 f (τ d1) else v.2.1.1 d1 f := by
    funext d1 f
    split
    · rename_i c
      simp only [tau1]
      split
      · rename_i q
        rw [q, h f c]
      · rfl
    · rfl
  simp only [vTm, e]
theorem vTm_bite {v : vV} (hb : vVb v) {τ : Int → Int} {d p : Int} (hs : ¬ v.2.1.2.1 d = 1) (ht : 0 ≤ τ d) (hp : 0 ≤ p ∧ p < 6) (h0 : ∀ j, 0 ≤ j → j < p → vWp (vTm v τ) d j ≤ 0) (h1 : 0 < vWp (vTm v τ) d p) : vW (vTm v τ) d (vAf v p) (vEp v d (τ d) p - 1) = vTm v (tau1 τ d) ∧ vBf v d p ≤ τ d ∧ τ d < vBf v d (p + 1) := by
  have g0 : ∀ j, 0 ≤ j → j < p → vWp v d j - min (vWp v d j) (max 0 (τ d - zSum (vWp v d) j)) ≤ 0 := by
    intro j a b
    have := h0 j a b
    rw [vTm_w v τ ⟨a, by omega⟩ hs] at this
    exact this
  have g1 : 0 < vWp v d p - min (vWp v d p) (max 0 (τ d - zSum (vWp v d) p)) := by
    rw [vTm_w v τ hp hs] at h1
    exact h1
  have hW : ∀ p, 0 ≤ vWp v d p := fun p => (vWp_b hb d p).1
  have a1 := eat1 hW ht hp.1 g0
  refine ⟨?_, a1, ?_⟩
  · have e : (fun d1 f1 => if d1 = d ∧ f1 = vAf v p then vEp v d (τ d) p - 1 else if 1 ≤ f1 ∧ f1 ≤ 6 then vEn v d1 f1 (τ d1) else v.2.1.1 d1 f1) = fun d1 f => if 1 ≤ f ∧ f ≤ 6 then vEn v d1 f (tau1 τ d d1) else v.2.1.1 d1 f := by
      funext d1 f1
      have hbf := vAf_b v p
      by_cases c : d1 = d ∧ f1 = vAf v p
      · rw [if_pos c, if_pos (by omega), c.1, c.2, vEn, if_neg hs, vPs_af v hp.1 hp.2]
        simp only [tau1, if_true]
        have := eat2 hW ht hp.1 g0 g1 (j := p) hp.1
        rw [if_pos rfl] at this
        exact this.symm
      · rw [if_neg c]
        by_cases c2 : 1 ≤ f1 ∧ f1 ≤ 6
        · rw [if_pos c2, if_pos c2]
          simp only [tau1]
          by_cases c3 : d1 = d
          · rw [if_pos c3, c3, vEn, if_neg hs, vEn, if_neg hs]
            have h9 := vPs_b v f1
            have := eat2 hW ht hp.1 g0 g1 (j := vPs v f1) h9.1
            rw [if_neg (fun q => c ⟨c3, by rw [← q, vAf_ps v c2.1 c2.2]⟩)] at this
            exact this.symm
          · rw [if_neg c3]
        · rw [if_neg c2, if_neg c2]
    simp only [vW, vTm, e]
  · rw [vBf_s v d hp.1]
    have : vBf v d p = zSum (vWp v d) p := rfl
    omega
theorem vTm_none {v : vV} (hb : vVb v) {τ : Int → Int} {d : Int} (hs : ¬ v.2.1.2.1 d = 1) (ht : 0 ≤ τ d) (h0 : ∀ j, 0 ≤ j → j < 6 → vWp (vTm v τ) d j ≤ 0) : vTm v (tau1 τ d) = vTm v τ ∧ vBf v d 6 ≤ τ d := by
  have hW : ∀ p, 0 ≤ vWp v d p := fun p => (vWp_b hb d p).1
  have g0 : ∀ j, 0 ≤ j → j < 6 → vWp v d j - min (vWp v d j) (max 0 (τ d - zSum (vWp v d) j)) ≤ 0 := by
    intro j a b
    have := h0 j a b
    rw [vTm_w v τ ⟨a, b⟩ hs] at this
    exact this
  have a1 := eat1 hW ht (p := 6) (by omega) g0
  refine ⟨vTm_same fun f hf => ?_, a1⟩
  have h9 := vPs_b v f
  have a2 := zSum_le hW (a := vPs v f + 1) (b := 6) (by omega) (by omega)
  rw [zSum_s h9.1] at a2
  have a3 := hW (vPs v f)
  rw [vEn, if_neg hs, vEn, if_neg hs, vEp, vEp]
  have : vBf v d (vPs v f) = zSum (vWp v d) (vPs v f) := rfl
  omega
theorem vTm_salt {v : vV} {τ : Int → Int} {d : Int} (hs : v.2.1.2.1 d = 1) : vTm v (tau1 τ d) = vTm v τ := vTm_same fun f hf => by rw [vEn, if_pos hs, vEn, if_pos hs]
/-- the class's way: one die after the other -/
theorem vAn_eq {v : vV} (hb : vVb v) (m : Int) {i : Int} (h0 : 0 ≤ i) : vAn v m i = (zSum (fun d => vAte v d m) i, vTm v (fun d => if 0 ≤ d ∧ d < i then m else 0)) := by
  unfold vAn
  refine zIt_i _ _ (fun i x => x = (zSum (fun d => vAte v d m) i, vTm v (fun d => if 0 ≤ d ∧ d < i then m else 0))) ?_ ?_ h0
  · have e : vTm v (fun d => if 0 ≤ d ∧ d < 0 then m else 0) = v := vTm_0 hb fun d => by rw [if_neg (by omega)]
    rw [e]
    rfl
  · intro i x i0 hx
    subst hx
    have hw : ∀ p, vWp (vTm v (fun d => if 0 ≤ d ∧ d < i then m else 0)) i p = vWp v i p := by
      intro p
      have hb2 := vAf_b v p
      show (if 1 ≤ vAf v p ∧ vAf v p ≤ 6 then vEn v i (vAf v p) (if 0 ≤ i ∧ i < i then m else 0) else v.2.1.1 i (vAf v p)) = _
      rw [if_pos hb2, if_neg (by omega), vEn_0 hb hb2]
      rfl
    have hwf : vWp (vTm v (fun d => if 0 ≤ d ∧ d < i then m else 0)) i = vWp v i := funext hw
    have hB : ∀ p, vBf (vTm v (fun d => if 0 ≤ d ∧ d < i then m else 0)) i p = vBf v i p := fun p => by rw [vBf, vBf, hwf]
    have hE : ∀ p, vEp (vTm v (fun d => if 0 ≤ d ∧ d < i then m else 0)) i m p = vEp v i m p := fun p => by rw [vEp, vEp, hw, hB]
    have e1 : vAte (vTm v (fun d => if 0 ≤ d ∧ d < i then m else 0)) i m = vAte v i m := by
      unfold vAte
      rw [hB]
      rfl
    have e2 : vEat (vTm v (fun d => if 0 ≤ d ∧ d < i then m else 0)) i m = vTm v (fun d => if 0 ≤ d ∧ d < i + 1 then m else 0) := by
      by_cases c : v.2.1.2.1 i = 1
      · rw [vEat, if_pos (show (vTm v (fun d => if 0 ≤ d ∧ d < i then m else 0)).2.1.2.1 i = 1 from c)]
        have e : (fun d f => if 1 ≤ f ∧ f ≤ 6 then vEn v d f (if 0 ≤ d ∧ d < i then m else 0) else v.2.1.1 d f) = fun d f => if 1 ≤ f ∧ f ≤ 6 then vEn v d f (if 0 ≤ d ∧ d < i + 1 then m else 0) else v.2.1.1 d f := by
          funext d f
          split
          · by_cases q : d = i
            · subst q
              rw [vEn, if_pos c, vEn, if_pos c]
            · by_cases q2 : 0 ≤ d ∧ d < i
              · rw [if_pos q2, if_pos (by omega)]
              · rw [if_neg q2, if_neg (by omega)]
          · rfl
        simp only [vTm, e]
      · rw [vEat, if_neg (show ¬ (vTm v (fun d => if 0 ≤ d ∧ d < i then m else 0)).2.1.2.1 i = 1 from c)]
        have e : (fun d1 f1 => if d1 = i ∧ (1 ≤ f1 ∧ f1 ≤ 6) ∧ vPs v f1 < 6 then vEp (vTm v (fun d => if 0 ≤ d ∧ d < i then m else 0)) i m (vPs v f1) else if 1 ≤ f1 ∧ f1 ≤ 6 then vEn v d1 f1 (if 0 ≤ d1 ∧ d1 < i then m else 0) else v.2.1.1 d1 f1) = fun d f => if 1 ≤ f ∧ f ≤ 6 then vEn v d f (if 0 ≤ d ∧ d < i + 1 then m else 0) else v.2.1.1 d f := by
          funext d f
          have h9 := vPs_b v f
          by_cases q : d = i ∧ (1 ≤ f ∧ f ≤ 6) ∧ vPs v f < 6
          · rw [if_pos q, if_pos q.2.1, hE, q.1, vEn, if_neg c, if_pos (by omega)]
          · rw [if_neg q]
            by_cases q1 : 1 ≤ f ∧ f ≤ 6
            · rw [if_pos q1, if_pos q1]
              have q3 : ¬ d = i := fun z => q ⟨z, q1, h9.2⟩
              by_cases q2 : 0 ≤ d ∧ d < i
              · rw [if_pos q2, if_pos (by omega)]
              · rw [if_neg q2, if_neg (by omega)]
            · rw [if_neg q1, if_neg q1]
        show ((vTm v (fun d => if 0 ≤ d ∧ d < i then m else 0)).1, (fun d1 f1 => if d1 = i ∧ (1 ≤ f1 ∧ f1 ≤ 6) ∧ vPs v f1 < 6 then vEp (vTm v (fun d => if 0 ≤ d ∧ d < i then m else 0)) i m (vPs v f1) else if 1 ≤ f1 ∧ f1 ≤ 6 then vEn v d1 f1 (if 0 ≤ d1 ∧ d1 < i then m else 0) else v.2.1.1 d1 f1, _), _) = _
        rw [e]
        rfl
    rw [e1, e2, zSum_s i0]
theorem zSum_up {f g : Int → Int} {j n : Int} (h : ∀ i, i ≠ j → f i = g i) (h0 : 0 ≤ j) (h1 : j < n) : zSum f n = zSum g n + (f j - g j) := by
  have hk : ∀ k : Nat, vSum f k = vSum g k + (if j < k then f j - g j else 0) := by
    intro k
    induction k with
    | zero => rw [if_neg (by omega)]; rfl
    | succ k ih =>
      simp only [vSum]
      rw [ih]
      by_cases e : (k : Int) = j
      · rw [if_neg (by omega), if_pos (by omega), e]
        omega
      · rw [h _ e]
        by_cases e2 : j < (k : Int)
        · rw [if_pos e2, if_pos (by omega)]
          omega
        · rw [if_neg e2, if_neg (by omega)]
          omega
  have := hk n.toNat
  rw [if_pos (by omega)] at this
  exact this
theorem vAte_1 {v : vV} (d m : Int) : vAte v d (m + 1) - vAte v d m = if v.2.1.2.1 d = 1 then 0 else if m < vBf v d 6 then 1 else 0 := by
  unfold vAte
  by_cases c : v.2.1.2.1 d = 1
  · simp only [if_pos c]; omega
  · simp only [if_neg c]
    split <;> omega
section Mdl2
variable {X : mX} {S : sS} {K : kK} {t : zH} {v : vV}
set_option maxHeartbeats 1000000 in
set_option maxRecDepth 100000 in
theorem ken {nn : Int} {u : vV} (hk : kVn (K.2 0) u nn) {d : Int} (hd : 0 ≤ d ∧ d < u.1 1) : zEv X 2 mX10_eatenNext [zR 29, zI d] (cX S ++ (cM K ++ t)) (zIs (.inl (some (zI (vNx u d)))) (cX S ++ (cM K ++ t))) := by
  have b3 := hk.1.2.2.2.1
  have e3 : K.2 0 3 = u.1 3 := hk.2.1.2.2.2.1
  unfold vNx
  by_cases cs : u.2.1.2.1 d = 1
  · rw [if_pos cs]
    refine zEv_run gX10_eatenNext 60 [12] rfl ?_
    refine zCl_e (ksa hk hd) (by decide) ?_
    refine zBb (P := u.2.1.2.1 d = 1) (fun c => absurd cs c) (fun c => ?_)
    exact ⟨rfl, rfl⟩
  · rw [if_neg cs]
    have lp : ∀ (k : Nat) (p : Int), 0 ≤ p → p + k = 6 → zWP X mX10_eatenNext 2 (zIs (.inl (some (zI (vNf (vWp u d) (vAf u) k p)))) (cX S ++ (cM K ++ t))) 12 [some (zR 29), some (zI d), some (zI p), none] [] (cX S ++ (cM K ++ t)) 0 0 := by
      intro k
      induction k with
      | zero =>
        intro p p0 hp
        refine zWP_run gX10_eatenNext 60 [12] ?_
        refine zBrT (by first | (simp only [rI]; omega) | (simp only [rL]; omega)) (by omega) ?_
        exact ⟨rfl, rfl⟩
      | succ k ih =>
        intro p p0 hp
        have hw := hk.1.2.2.2.2.2.1.1 d (vAf u p)
        have hb := vAf_b u p
        have ef : (K.2 0 3 - 1 + p) % 6 + 1 = vAf u p := by rw [e3]; rfl
        refine zWP_run gX10_eatenNext 60 [12] ?_
        refine zBrF (by first | (simp only [rI]; omega) | (simp only [rL]; omega)) (by omega) ?_
        refine mVc_i (by omega) ?_
        refine mVc_i (by show 0 ≤ K.2 0 3 - 1 + p ∧ rI (K.2 0 3 - 1 + p) ∧ (0:Int) < 6 ∧ rI 6; simp only [rI]; omega) ?_
        refine zCl_e (kw (f := (K.2 0 3 - 1 + p) % 6 + 1) hk hd (by rw [ef]; exact hb)) (by decide) ?_
        rw [ef]
        rw [vNf]
        refine zBr (by simp only [rI]; omega) (fun c => ?_) (fun c => ?_)
        · rw [if_neg (show ¬ 0 < vWp u d p from fun z => by have z2 : 0 < u.2.1.1 d (vAf u p) := z; omega)]
          exact zWP_fg (ih (p + 1) (by omega) (by omega)) (by repeat (first | exact trivial | refine ⟨rfl, ?_⟩))
        · rw [if_pos (show 0 < vWp u d p from by show 0 < u.2.1.1 d (vAf u p); omega)]
          refine ⟨?_, rfl⟩
          show (Sum.inl (some (zI ((K.2 0 3 - 1 + p) % 6 + 1))) : zO) = _
          rw [ef]
    refine zEv_run gX10_eatenNext 60 [12] rfl ?_
    refine zCl_e (ksa hk hd) (by decide) ?_
    refine zBb (P := u.2.1.2.1 d = 1) (fun c => ?_) (fun c => absurd c cs)
    exact lp 6 0 (by omega) (by omega)
/-- a bite: what a call of eats leaves -/
def kBt (S : sS) (K : kK) (t : zH) (v : vV) (τ : Int → Int) (d nn : Int) : zO → zH → Prop := fun o9 h9 => o9 = .inl (some (zI (vAte v d (τ d + 1) - vAte v d (τ d)))) ∧ ∃ c : Nat → Int, kVn c (vTm v (tau1 τ d)) nn ∧ (∀ j, ¬ ((5 + 7 * d).toNat ≤ j ∧ j < (5 + 7 * d).toNat + 6) → c j = K.2 0 j) ∧ h9 = cX S ++ (cM (kA K 0 c) ++ t)
theorem kA_same (K : kK) (r : Nat) : kA K r (K.2 r) = K := by
  show (K.1, va_up K.2 r (K.2 r)) = K
  have : va_up K.2 r (K.2 r) = K.2 := by
    funext i
    simp only [va_up]
    split
    · rename_i c; rw [c]
    · rfl
  rw [this]
set_option maxHeartbeats 1000000 in
set_option maxRecDepth 100000 in
theorem kea {nn : Int} {τ : Int → Int} (hb : vVb v) (hk : kVn (K.2 0) (vTm v τ) nn) {d : Int} (hd : 0 ≤ d ∧ d < v.1 1) (ht : 0 ≤ τ d) : zEv X 3 mX10_eats [zR 29, zI d] (cX S ++ (cM K ++ t)) (kBt S K t v τ d nn) := by
  have b1 := hb.2.1
  have hsame : vTm v (tau1 τ d) = vTm v τ → ∃ c : Nat → Int, kVn c (vTm v (tau1 τ d)) nn ∧ (∀ j, ¬ ((5 + 7 * d).toNat ≤ j ∧ j < (5 + 7 * d).toNat + 6) → c j = K.2 0 j) ∧ cX S ++ (cM K ++ t) = cX S ++ (cM (kA K 0 c) ++ t) := fun e => ⟨K.2 0, by rw [e]; exact hk, fun _ _ => rfl, by rw [kA_same]⟩
  by_cases cs : v.2.1.2.1 d = 1
  · refine zEv_run gX10_eats 60 [] rfl ?_
    refine zCl_e (ken hk hd) (by decide) ?_
    have e : vNx (vTm v τ) d = -1 := by rw [vNx, if_pos (show (vTm v τ).2.1.2.1 d = 1 from cs)]
    rw [e]
    refine zBrT (by first | (simp only [rI]; omega) | (simp only [rL]; omega)) (by omega) ?_
    refine ⟨?_, hsame (vTm_salt cs)⟩
    rw [vAte_1, if_pos cs]
  · rcases vNf_spec (vWp (vTm v τ) d) (vAf (vTm v τ)) 6 0 with ⟨h1, h2⟩ | ⟨p, h1, h2, h3, h4, h5⟩
    · have e : vNx (vTm v τ) d = -1 := by rw [vNx, if_neg (show ¬ (vTm v τ).2.1.2.1 d = 1 from cs), h1]
      have hx := vTm_none hb cs ht (fun j a b => h2 j a (by omega))
      refine zEv_run gX10_eats 60 [] rfl ?_
      refine zCl_e (ken hk hd) (by decide) ?_
      rw [e]
      refine zBrT (by first | (simp only [rI]; omega) | (simp only [rL]; omega)) (by omega) ?_
      refine ⟨?_, hsame hx.1⟩
      rw [vAte_1, if_neg cs, if_neg (by omega)]
    · have hp : 0 ≤ p ∧ p < 6 := by omega
      have hx := vTm_bite hb cs ht hp (fun j a b => h5 j a b) h4
      have hf := vAf_b v p
      have e : vNx (vTm v τ) d = vAf v p := by rw [vNx, if_neg (show ¬ (vTm v τ).2.1.2.1 d = 1 from cs), h3]; rfl
      have e2 := hk.2.2.1.1 d (vAf v p) hd.1 (by omega) hf.1 hf.2
      rw [Nat.zero_add] at e2
      have e3 : (vTm v τ).2.1.1 d (vAf v p) = vEp v d (τ d) p := vTm_w v τ hp cs
      rw [e3] at e2
      have e4 := vEp_b hb d (τ d) p
      have h46 : 0 < vEp v d (τ d) p := by rw [← vTm_w v τ hp cs]; exact h4
      have hlast : vBf v d (p + 1) ≤ vBf v d 6 := zSum_le (fun p => (vWp_b hb d p).1) (by omega) (by omega)
      refine zEv_run gX10_eats 60 [] rfl ?_
      refine zCl_e (ken hk hd) (by decide) ?_
      rw [e]
      refine zBrF (by first | (simp only [rI]; omega) | (simp only [rL]; omega)) (by omega) ?_
      refine mVc_i (by omega) ?_
      refine mVc_i (by omega) ?_
      refine ⟨?_, va_up (K.2 0) (5 + 7 * d + vAf v p - 1).toNat (K.2 0 (5 + 7 * d + vAf v p - 1).toNat - 1), ?_, fun j hj => va_up_o _ _ (by omega), rfl⟩
      · rw [vAte_1, if_neg cs, if_pos (by omega)]
      · rw [← hx.1, e2]
        exact kV_w hk hd.1 (by omega) hf.1 hf.2 (by omega)
end Mdl2
