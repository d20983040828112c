/-! the reference: its cells, and what they hold of a table -/
/-- the reference's numbers and rows -/
abbrev kK : Type := (Nat → Int) × (Nat → Nat → Int)
def cM (K : kK) : zH :=
  [.inr (10, [zR 30, zR 31, zR 32, zR 33, zR 34, zI (K.1 0), zR 35, zI (K.1 1), zI (K.1 2), zI (K.1 3), zI (K.1 4), zI (K.1 5), zI (K.1 6), zI (K.1 7), zI (K.1 8), zI (K.1 9), zI (K.1 10), zI (K.1 11), zR 36, zR 37, zR 38, zR 39, zR 40, zR 41, zR 42, zR 43, zR 44]),
   .inl (0, 3108, .inl (K.2 0)),
   .inl (0, 48, .inl (K.2 1)),
   .inl (0, 3108, .inl (K.2 2)),
   .inl (0, 9324, .inl (K.2 3)),
   .inl (3, 3, .inl (K.2 4)),
   .inl (0, 600, .inl (K.2 5)),
   .inl (0, 6, .inl (K.2 6)),
   .inl (1, 31, .inl (K.2 7)),
   .inl (1, 64, .inl (K.2 8)),
   .inl (1, 11, .inl (K.2 9)),
   .inl (1, 11, .inl (K.2 10)),
   .inl (0, 4, .inl (K.2 11)),
   .inl (0, 4, .inl (K.2 12)),
   .inl (0, 4, .inl (K.2 13)),
   .inl (1, 120, .inl (K.2 14))]
def kA (K : kK) (r : Nat) (f : Nat → Int) : kK := (K.1, va_up K.2 r f)
def kI (K : kK) (i : Nat) (z : Int) : kK := (va_up K.1 i z, K.2)
def kRow (c : Nat → Int) (a : Nat) (n : Int) (s : vS) : Prop := (∀ d f : Int, 0 ≤ d → d < 5 → 1 ≤ f → f ≤ 6 → c (a + (5 + 7 * d + f - 1).toNat) = s.1 d f) ∧ (∀ d : Int, 0 ≤ d → d < 5 → c (a + (5 + 7 * d + 6).toNat) = s.2.1 d) ∧ (∀ q : Int, 0 ≤ q → q < 4 → c (a + (40 + q).toNat) = s.2.2.1 q) ∧ ∀ q : Int, 0 ≤ q → q < n → c (a + (44 + q).toNat) = s.2.2.2 q
def kNum (c : Nat → Int) (a : Nat) (v : vV) (n : Int) : Prop := c a = v.1 0 ∧ c (a + 1) = v.1 1 ∧ c (a + 2) = v.1 2 ∧ c (a + 3) = v.1 3 ∧ c (a + 4) = n
def kPs (c : Nat → Int) (v : vV) : Prop := ∀ k : Int, 0 ≤ k → k < v.1 4 → kNum c (48 + 51 * k.toNat) v k ∧ kRow c (48 + 51 * k.toNat) (v.1 2) (v.2.2.2.2.2 k) ∧ c (48 + 51 * k.toNat + 48) = v.2.2.1 k ∧ c (48 + 51 * k.toNat + 49) = v.2.2.2.1 k ∧ c (48 + 51 * k.toNat + 50) = v.2.2.2.2.1 k
/-- the row c holds v, but that n stands for the number of throws -/
def kVn (c : Nat → Int) (v : vV) (n : Int) : Prop := vVb v ∧ kNum c 0 v n ∧ kRow c 0 (v.1 2) v.2.1 ∧ kPs c v
abbrev kV (c : Nat → Int) (v : vV) : Prop := kVn c v (v.1 4)
theorem kRow_cg {c c2 : Nat → Int} {a a2 : Nat} {n : Int} {s : vS} (hn : n ≤ 4) (h : ∀ i, i < 48 → c2 (a2 + i) = c (a + i)) (hr : kRow c a n s) : kRow c2 a2 n s := by
  refine ⟨fun d f d0 d1 f0 f1 => ?_, fun d d0 d1 => ?_, fun q q0 q1 => ?_, fun q q0 q1 => ?_⟩
  · rw [h _ (by omega)]; exact hr.1 d f d0 d1 f0 f1
  · rw [h _ (by omega)]; exact hr.2.1 d d0 d1
  · rw [h _ (by omega)]; exact hr.2.2.1 q q0 q1
  · rw [h _ (by omega)]; exact hr.2.2.2 q q0 q1
theorem kNum_cg {c c2 : Nat → Int} {a a2 : Nat} {v : vV} {n : Int} (h : ∀ i, i < 48 → c2 (a2 + i) = c (a + i)) (hr : kNum c a v n) : kNum c2 a2 v n := by
  refine ⟨?_, ?_, ?_, ?_, ?_⟩
  · have := h 0 (by omega); rw [Nat.add_zero, Nat.add_zero] at this; rw [this]; exact hr.1
  · rw [h 1 (by omega)]; exact hr.2.1
  · rw [h 2 (by omega)]; exact hr.2.2.1
  · rw [h 3 (by omega)]; exact hr.2.2.2.1
  · rw [h 4 (by omega)]; exact hr.2.2.2.2
theorem kPs_cg {c c2 : Nat → Int} {v : vV} (h2 : v.1 2 ≤ 4) (h : ∀ i, 48 ≤ i → i < 48 + 51 * (v.1 4).toNat → c2 i = c i) (hp : kPs c v) : kPs c2 v := by
  intro k k0 k1
  have hk := hp k k0 k1
  refine ⟨kNum_cg (fun i hi => h _ (by omega) (by omega)) hk.1, kRow_cg h2 (fun i hi => h _ (by omega) (by omega)) hk.2.1, ?_, ?_, ?_⟩
  · rw [h _ (by omega) (by omega)]; exact hk.2.2.1
  · rw [h _ (by omega) (by omega)]; exact hk.2.2.2.1
  · rw [h _ (by omega) (by omega)]; exact hk.2.2.2.2
theorem kV_cg {c c2 : Nat → Int} {v : vV} (h : ∀ i, i < 3108 → c2 i = c i) (hp : kV c v) : kV c2 v := by
  have b2 := hp.1.2.2.1
  have b4 := hp.1.2.2.2.2.1
  exact ⟨hp.1, kNum_cg (fun i hi => h _ (by omega)) hp.2.1, kRow_cg (by omega) (fun i hi => h _ (by omega)) hp.2.2.1, kPs_cg (by omega) (fun i h0 h1 => h i (by omega)) hp.2.2.2⟩
theorem kV_w {c : Nat → Int} {v : vV} {n : Int} (hv : kVn c v n) {d f z : Int} (h0 : 0 ≤ d) (h1 : d < 5) (h2 : 1 ≤ f) (h3 : f ≤ 6) (hz : 0 ≤ z ∧ z ≤ 20) : kVn (va_up c (5 + 7 * d + f - 1).toNat z) (vW v d f z) n := by
  have b2 := hv.1.2.2.1
  refine ⟨vW_b hv.1 d f hz, ?_, ⟨fun d1 f1 g0 g1 g2 g3 => ?_, fun d1 g0 g1 => ?_, fun k k0 k1 => ?_, fun k k0 k1 => ?_⟩, ?_⟩
  · refine ⟨?_, ?_, ?_, ?_, ?_⟩
    · rw [va_up_o _ _ (by omega)]; exact hv.2.1.1
    · rw [va_up_o _ _ (by omega)]; exact hv.2.1.2.1
    · rw [va_up_o _ _ (by omega)]; exact hv.2.1.2.2.1
    · rw [va_up_o _ _ (by omega)]; exact hv.2.1.2.2.2.1
    · rw [va_up_o _ _ (by omega)]; exact hv.2.1.2.2.2.2
  · show va_up c (5 + 7 * d + f - 1).toNat z (0 + (5 + 7 * d1 + f1 - 1).toNat) = if d1 = d ∧ f1 = f then z else v.2.1.1 d1 f1
    split
    · rename_i c
      rw [c.1, c.2, Nat.zero_add, va_up_s]
    · rename_i c
      rw [va_up_o _ _ (by omega)]
      exact hv.2.2.1.1 d1 f1 g0 g1 g2 g3
  · show va_up c (5 + 7 * d + f - 1).toNat z (0 + (5 + 7 * d1 + 6).toNat) = _
    rw [va_up_o _ _ (by omega)]
    exact hv.2.2.1.2.1 d1 g0 g1
  · show va_up c (5 + 7 * d + f - 1).toNat z (0 + (40 + k).toNat) = _
    rw [va_up_o _ _ (by omega)]
    exact hv.2.2.1.2.2.1 k k0 k1
  · show va_up c (5 + 7 * d + f - 1).toNat z (0 + (44 + k).toNat) = _
    rw [va_up_o _ _ (by omega)]
    exact hv.2.2.1.2.2.2 k k0 k1
  · exact kPs_cg (v := v) (by omega) (fun i h0 h1 => va_up_o _ _ (by omega)) hv.2.2.2
theorem kV_s {c : Nat → Int} {v : vV} {n : Int} (hv : kVn c v n) {d : Int} (h0 : 0 ≤ d) (h1 : d < 5) : kVn (va_up c (5 + 7 * d + 6).toNat 1) (vSl v d) n := by
  have b2 := hv.1.2.2.1
  refine ⟨vSl_b hv.1 d, ?_, ⟨fun d1 f1 g0 g1 g2 g3 => ?_, fun d1 g0 g1 => ?_, fun k k0 k1 => ?_, fun k k0 k1 => ?_⟩, ?_⟩
  · refine ⟨?_, ?_, ?_, ?_, ?_⟩
    · rw [va_up_o _ _ (by omega)]; exact hv.2.1.1
    · rw [va_up_o _ _ (by omega)]; exact hv.2.1.2.1
    · rw [va_up_o _ _ (by omega)]; exact hv.2.1.2.2.1
    · rw [va_up_o _ _ (by omega)]; exact hv.2.1.2.2.2.1
    · rw [va_up_o _ _ (by omega)]; exact hv.2.1.2.2.2.2
  · show va_up c (5 + 7 * d + 6).toNat 1 (0 + (5 + 7 * d1 + f1 - 1).toNat) = _
    rw [va_up_o _ _ (by omega)]
    exact hv.2.2.1.1 d1 f1 g0 g1 g2 g3
  · show va_up c (5 + 7 * d + 6).toNat 1 (0 + (5 + 7 * d1 + 6).toNat) = if d1 = d then 1 else v.2.1.2.1 d1
    split
    · rename_i c
      rw [c, Nat.zero_add, va_up_s]
    · rename_i c
      rw [va_up_o _ _ (by omega)]
      exact hv.2.2.1.2.1 d1 g0 g1
  · show va_up c (5 + 7 * d + 6).toNat 1 (0 + (40 + k).toNat) = _
    rw [va_up_o _ _ (by omega)]
    exact hv.2.2.1.2.2.1 k k0 k1
  · show va_up c (5 + 7 * d + 6).toNat 1 (0 + (44 + k).toNat) = _
    rw [va_up_o _ _ (by omega)]
    exact hv.2.2.1.2.2.2 k k0 k1
  · exact kPs_cg (v := v) (by omega) (fun i h0 h1 => va_up_o _ _ (by omega)) hv.2.2.2
theorem kV_h {c : Nat → Int} {v : vV} {n : Int} (hv : kVn c v n) {q z : Int} (h0 : 0 ≤ q) (h1 : q < 4) (hz : 0 ≤ z ∧ z ≤ 9) : kVn (va_up c (40 + q).toNat z) (vHt v q z) n := by
  have b2 := hv.1.2.2.1
  refine ⟨vHt_b hv.1 q hz, ?_, ⟨fun d1 f1 g0 g1 g2 g3 => ?_, fun d1 g0 g1 => ?_, fun k k0 k1 => ?_, fun k k0 k1 => ?_⟩, ?_⟩
  · refine ⟨?_, ?_, ?_, ?_, ?_⟩
    · rw [va_up_o _ _ (by omega)]; exact hv.2.1.1
    · rw [va_up_o _ _ (by omega)]; exact hv.2.1.2.1
    · rw [va_up_o _ _ (by omega)]; exact hv.2.1.2.2.1
    · rw [va_up_o _ _ (by omega)]; exact hv.2.1.2.2.2.1
    · rw [va_up_o _ _ (by omega)]; exact hv.2.1.2.2.2.2
  · show va_up c (40 + q).toNat z (0 + (5 + 7 * d1 + f1 - 1).toNat) = _
    rw [va_up_o _ _ (by omega)]
    exact hv.2.2.1.1 d1 f1 g0 g1 g2 g3
  · show va_up c (40 + q).toNat z (0 + (5 + 7 * d1 + 6).toNat) = _
    rw [va_up_o _ _ (by omega)]
    exact hv.2.2.1.2.1 d1 g0 g1
  · show va_up c (40 + q).toNat z (0 + (40 + k).toNat) = if k = q then z else v.2.1.2.2.1 k
    split
    · rename_i c
      rw [c, Nat.zero_add, va_up_s]
    · rename_i c
      rw [va_up_o _ _ (by omega)]
      exact hv.2.2.1.2.2.1 k k0 k1
  · show va_up c (40 + q).toNat z (0 + (44 + k).toNat) = _
    rw [va_up_o _ _ (by omega)]
    exact hv.2.2.1.2.2.2 k k0 k1
  · exact kPs_cg (v := v) (by omega) (fun i h0 h1 => va_up_o _ _ (by omega)) hv.2.2.2
theorem vLt_b {v : vV} (h : vVb v) (q : Int) {z : Int} (hz : -1 ≤ z ∧ z ≤ 4) : vVb (vLt v q z) := by
  obtain ⟨b0, b1, b2, b3, b4, bs, bh⟩ := h
  refine ⟨b0, b1, b2, b3, b4, ⟨bs.1, bs.2.1, bs.2.2.1, fun k => ?_⟩, bh⟩
  show -1 ≤ (if k = q then z else v.2.1.2.2.2 k) ∧ (if k = q then z else v.2.1.2.2.2 k) ≤ 4
  split
  · exact hz
  · exact bs.2.2.2 k
theorem kV_l {c : Nat → Int} {v : vV} {n : Int} (hv : kVn c v n) {q z : Int} (h0 : 0 ≤ q) (h1 : q < 4) (hz : -1 ≤ z ∧ z ≤ 4) : kVn (va_up c (44 + q).toNat z) (vLt v q z) n := by
  have b2 := hv.1.2.2.1
  refine ⟨vLt_b hv.1 q hz, ?_, ⟨fun d1 f1 g0 g1 g2 g3 => ?_, fun d1 g0 g1 => ?_, fun k k0 k1 => ?_, fun k k0 k1 => ?_⟩, ?_⟩
  · refine ⟨?_, ?_, ?_, ?_, ?_⟩
    · rw [va_up_o _ _ (by omega)]; exact hv.2.1.1
    · rw [va_up_o _ _ (by omega)]; exact hv.2.1.2.1
    · rw [va_up_o _ _ (by omega)]; exact hv.2.1.2.2.1
    · rw [va_up_o _ _ (by omega)]; exact hv.2.1.2.2.2.1
    · rw [va_up_o _ _ (by omega)]; exact hv.2.1.2.2.2.2
  · show va_up c (44 + q).toNat z (0 + (5 + 7 * d1 + f1 - 1).toNat) = _
    rw [va_up_o _ _ (by omega)]
    exact hv.2.2.1.1 d1 f1 g0 g1 g2 g3
  · show va_up c (44 + q).toNat z (0 + (5 + 7 * d1 + 6).toNat) = _
    rw [va_up_o _ _ (by omega)]
    exact hv.2.2.1.2.1 d1 g0 g1
  · show va_up c (44 + q).toNat z (0 + (40 + k).toNat) = _
    rw [va_up_o _ _ (by omega)]
    exact hv.2.2.1.2.2.1 k k0 k1
  · show va_up c (44 + q).toNat z (0 + (44 + k).toNat) = if k = q then z else v.2.1.2.2.2 k
    split
    · rename_i c
      rw [c, Nat.zero_add, va_up_s]
    · rename_i c
      rw [va_up_o _ _ (by omega)]
      exact hv.2.2.1.2.2.2 k k0 k1
  · exact kPs_cg (v := v) (by omega) (fun i h0 h1 => va_up_o _ _ (by omega)) hv.2.2.2
theorem kV_4 {c : Nat → Int} {v : vV} {n : Int} (hv : kVn c v n) (m : Int) : kVn (va_up c 4 m) v m := by
  have b2 := hv.1.2.2.1
  refine ⟨hv.1, ⟨?_, ?_, ?_, ?_, ?_⟩, ⟨fun d1 f1 g0 g1 g2 g3 => ?_, fun d1 g0 g1 => ?_, fun k k0 k1 => ?_, fun k k0 k1 => ?_⟩, kPs_cg (v := v) (by omega) (fun i h0 h1 => va_up_o _ _ (by omega)) hv.2.2.2⟩
  · rw [va_up_o _ _ (by omega)]; exact hv.2.1.1
  · rw [va_up_o _ _ (by omega)]; exact hv.2.1.2.1
  · rw [va_up_o _ _ (by omega)]; exact hv.2.1.2.2.1
  · rw [va_up_o _ _ (by omega)]; exact hv.2.1.2.2.2.1
  · exact va_up_s _ _ _
  · rw [va_up_o _ _ (by omega)]; exact hv.2.2.1.1 d1 f1 g0 g1 g2 g3
  · rw [va_up_o _ _ (by omega)]; exact hv.2.2.1.2.1 d1 g0 g1
  · rw [va_up_o _ _ (by omega)]; exact hv.2.2.1.2.2.1 k k0 k1
  · rw [va_up_o _ _ (by omega)]; exact hv.2.2.1.2.2.2 k k0 k1
/-- a throw written behind the others -/
theorem kV_push {c c1 : Nat → Int} {v : vV} {d q f : Int} (hv : kV c v) (hd : 0 ≤ d ∧ d < v.1 1) (hq : 0 ≤ q ∧ q < v.1 2) (hf : 1 ≤ f ∧ f ≤ 6) (hr : v.1 4 < 60) (h1 : ∀ i, i < 48 → c1 (48 + 51 * (v.1 4).toNat + i) = c i) (h2 : ∀ i, i < 48 + 51 * (v.1 4).toNat → c1 i = c i) (h3 : c1 (48 + 51 * (v.1 4).toNat + 48) = d ∧ c1 (48 + 51 * (v.1 4).toNat + 49) = q ∧ c1 (48 + 51 * (v.1 4).toNat + 50) = f) : kVn c1 (vPush v d q f) (v.1 4) := by
  have b2 := hv.1.2.2.1
  have b4 := hv.1.2.2.2.2.1
  refine ⟨vPush_b hv.1 hd hq hf hr, kNum_cg (v := v) (fun i hi => h2 _ (by omega)) hv.2.1, kRow_cg (s := v.2.1) (by show v.1 2 ≤ 4; omega) (fun i hi => h2 _ (by omega)) hv.2.2.1, fun k k0 k1 => ?_⟩
  have k2 : k < v.1 4 + 1 := k1
  show kNum c1 (48 + 51 * k.toNat) v k ∧ kRow c1 (48 + 51 * k.toNat) (v.1 2) (if k = v.1 4 then v.2.1 else v.2.2.2.2.2 k) ∧ c1 (48 + 51 * k.toNat + 48) = (if k = v.1 4 then d else v.2.2.1 k) ∧ c1 (48 + 51 * k.toNat + 49) = (if k = v.1 4 then q else v.2.2.2.1 k) ∧ c1 (48 + 51 * k.toNat + 50) = (if k = v.1 4 then f else v.2.2.2.2.1 k)
  by_cases e : k = v.1 4
  · simp only [e, if_true]
    exact ⟨kNum_cg (fun i hi => by rw [h1 i hi, Nat.zero_add]) hv.2.1, kRow_cg (by omega) (fun i hi => by rw [h1 i hi, Nat.zero_add]) hv.2.2.1, h3⟩
  · simp only [e, if_false]
    have hk := hv.2.2.2 k k0 (by omega)
    refine ⟨kNum_cg (fun i hi => h2 _ (by omega)) hk.1, kRow_cg (by omega) (fun i hi => h2 _ (by omega)) hk.2.1, ?_, ?_, ?_⟩
    · rw [h2 _ (by omega)]; exact hk.2.2.1
    · rw [h2 _ (by omega)]; exact hk.2.2.2.1
    · rw [h2 _ (by omega)]; exact hk.2.2.2.2
theorem kV_un {c c1 : Nat → Int} {v : vV} {n : Int} (hv : kV c v) (h0 : 0 < n) (h1 : n ≤ v.1 4) (h2 : ∀ i, i < 48 → c1 i = c (48 + 51 * (v.1 4 - n).toNat + i)) (h3 : ∀ i, 48 ≤ i → c1 i = c i) : kV c1 (vUn v n) := by
  have hb := vUn_b hv.1 (by omega) h1
  rw [vUn, if_neg (by omega)] at hb ⊢
  have b2 := hv.1.2.2.1
  have b4 := hv.1.2.2.2.2.1
  have hk := hv.2.2.2 (v.1 4 - n) (by omega) (by omega)
  refine ⟨hb, ?_, kRow_cg (c := c) (a := 48 + 51 * (v.1 4 - n).toNat) (by show v.1 2 ≤ 4; omega) (fun i hi => by rw [Nat.zero_add]; exact h2 i hi) hk.2.1, fun k k0 k1 => ?_⟩
  · exact kNum_cg (c := c) (a := 48 + 51 * (v.1 4 - n).toNat) (v := v) (n := v.1 4 - n) (fun i hi => by rw [Nat.zero_add]; exact h2 i hi) hk.1
  · have k2 : k < v.1 4 - n := k1
    exact kPs_cg (c := c) (v := v) (by omega) (fun i i0 i1 => h3 i i0) hv.2.2.2 k k0 (by omega)
/-- what calls of a table leave as it was: the tape's length, faults; images, tape, trays -/
def kF (K R : kK) : Prop := (∀ i, (i = 1 ∨ i = 9 ∨ i = 10) → R.1 i = K.1 i) ∧ (∀ r, (r = 3 ∨ r = 4 ∨ r = 5 ∨ r = 12 ∨ r = 13 ∨ r = 14) → R.2 r = K.2 r)
theorem kF_r (K : kK) : kF K K := ⟨fun _ _ => rfl, fun _ _ => rfl⟩
theorem kF_t {K R Q : kK} (h : kF K R) (k : kF R Q) : kF K Q := ⟨fun i hi => by rw [k.1 i hi, h.1 i hi], fun i hi => by rw [k.2 i hi, h.2 i hi]⟩
theorem kF_A (K : kK) {r : Nat} (f : Nat → Int) (h : r < 3 ∨ (5 < r ∧ r < 12)) : kF K (kA K r f) := ⟨fun _ _ => rfl, fun i hi => va_up_o _ _ (by omega)⟩
theorem kF_I (K : kK) {r : Nat} (z : Int) (h : r = 0 ∨ (1 < r ∧ r < 9) ∨ 10 < r) : kF K (kI K r z) := ⟨fun i hi => va_up_o _ _ (by omega), fun _ _ => rfl⟩
theorem kA_A (K : kK) (r : Nat) (f g : Nat → Int) : kA (kA K r f) r g = kA K r g := by
  show (K.1, va_up (va_up K.2 r f) r g) = (K.1, va_up K.2 r g)
  congr 1
  funext i
  simp only [va_up]
  split <;> rfl
section Mdl
variable {X : mX} {S : sS} {K : kK} {t : zH} {v : vV}
set_option maxHeartbeats 1000000 in
set_option maxRecDepth 100000 in
theorem kwi_t {x a b : Int} (hx : rL x) (ha : rL a) (hb : rL b) (c : a ≤ x ∧ x ≤ b) {h : zH} : zEv X 1 mX10_within [zJ x, zJ a, zJ b] (h) (zIs (.inl (some (zI 1))) h) := by
  refine zEv_run gX10_within 60 [] rfl ?_
  refine zBrF ⟨hx, ha⟩ (by omega) ?_
  refine zBrF ⟨hx, hb⟩ (by omega) ?_
  exact mVc_i (Or.inr rfl) ⟨rfl, rfl⟩
set_option maxHeartbeats 1000000 in
set_option maxRecDepth 100000 in
theorem kwi_f {x a b : Int} (hx : rL x) (ha : rL a) (hb : rL b) (c : ¬ (a ≤ x ∧ x ≤ b)) {h : zH} : zEv X 1 mX10_within [zJ x, zJ a, zJ b] (h) (zIs (.inl (some (zI 0))) h) := by
  refine zEv_run gX10_within 60 [] rfl ?_
  by_cases e : x < a
  · refine zBrT ⟨hx, ha⟩ e ?_
    exact mVc_i (Or.inl rfl) ⟨rfl, rfl⟩
  · refine zBrF ⟨hx, ha⟩ e ?_
    refine zBrT ⟨hx, hb⟩ (by omega) ?_
    exact mVc_i (Or.inl rfl) ⟨rfl, rfl⟩
set_option maxHeartbeats 1000000 in
set_option maxRecDepth 100000 in
theorem kdi (hk : kVn (K.2 0) v (v.1 4)) : zEv X 1 mX10_dice [zR 29] (cX S ++ (cM K ++ t)) (zIs (.inl (some (zI (v.1 1)))) (cX S ++ (cM K ++ t))) := by
  have e := hk.2.1.2.1
  refine zEv_run gX10_dice 60 [] rfl ?_
  refine mVc_i (by omega) ?_
  refine ⟨?_, rfl⟩
  rw [← e]
  rfl
set_option maxHeartbeats 1000000 in
set_option maxRecDepth 100000 in
theorem kha (hk : kVn (K.2 0) v (v.1 4)) : zEv X 1 mX10_hands [zR 29] (cX S ++ (cM K ++ t)) (zIs (.inl (some (zI (v.1 2)))) (cX S ++ (cM K ++ t))) := by
  have e := hk.2.1.2.2.1
  refine zEv_run gX10_hands 60 [] rfl ?_
  refine mVc_i (by omega) ?_
  refine ⟨?_, rfl⟩
  rw [← e]
  rfl
set_option maxHeartbeats 1000000 in
set_option maxRecDepth 100000 in
theorem kth (hk : kVn (K.2 0) v (v.1 4)) : zEv X 1 mX10_throwsNow [zR 29] (cX S ++ (cM K ++ t)) (zIs (.inl (some (zI (v.1 4)))) (cX S ++ (cM K ++ t))) := by
  have e := hk.2.1.2.2.2.2
  refine zEv_run gX10_throwsNow 60 [] rfl ?_
  refine mVc_i (by omega) ?_
  refine ⟨?_, rfl⟩
  rw [← e]
  rfl
set_option maxHeartbeats 1000000 in
set_option maxRecDepth 100000 in
theorem kthr  : zEv X 1 mX10_thrown [zR 29] (cX S ++ (cM K ++ t)) (zIs (.inl (some (zI (K.1 0)))) (cX S ++ (cM K ++ t))) := by
  refine zEv_run gX10_thrown 60 [] rfl ?_
  exact ⟨rfl, rfl⟩
set_option maxHeartbeats 1000000 in
set_option maxRecDepth 100000 in
theorem kfa {n : Int} : zEv X 1 mX10_fails [zR 29, zI n] (cX S ++ (cM K ++ t)) (zIs (.inl (some (zI (0)))) (cX S ++ (cM (kI K 0 n) ++ t))) := by
  refine zEv_run gX10_fails 60 [] rfl ?_
  exact ⟨rfl, rfl⟩
set_option maxHeartbeats 1000000 in
set_option maxRecDepth 100000 in
theorem kdie_t (hk : kVn (K.2 0) v (v.1 4)) {x : Int} (hx : rL x) (c : 0 ≤ x ∧ x < v.1 1) : zEv X 2 mX10_isDie [zR 29, zJ x] (cX S ++ (cM K ++ t)) (zIs (.inl (some (zI (1)))) (cX S ++ (cM K ++ t))) := by
  have b1 := hk.1.2.1
  have b2 := hk.1.2.2.1
  refine zEv_run gX10_isDie 60 [] rfl ?_
  refine zCl_e (kdi hk) (by decide) ?_
  refine mVc_i (by simp only [rI]; omega) ?_
  refine zCl_e (kwi_t hx (by simp only [rL]; omega) (by simp only [rL]; omega) (by omega)) (by decide) ?_
  exact mVc_i (by omega) ⟨rfl, rfl⟩
set_option maxHeartbeats 1000000 in
set_option maxRecDepth 100000 in
theorem kdie_f (hk : kVn (K.2 0) v (v.1 4)) {x : Int} (hx : rL x) (c : ¬ (0 ≤ x ∧ x < v.1 1)) : zEv X 2 mX10_isDie [zR 29, zJ x] (cX S ++ (cM K ++ t)) (zIs (.inl (some (zI (0)))) (cX S ++ (cM K ++ t))) := by
  have b1 := hk.1.2.1
  have b2 := hk.1.2.2.1
  refine zEv_run gX10_isDie 60 [] rfl ?_
  refine zCl_e (kdi hk) (by decide) ?_
  refine mVc_i (by simp only [rI]; omega) ?_
  refine zCl_e (kwi_f hx (by simp only [rL]; omega) (by simp only [rL]; omega) (by omega)) (by decide) ?_
  exact mVc_i (by omega) ⟨rfl, rfl⟩
set_option maxHeartbeats 1000000 in
set_option maxRecDepth 100000 in
theorem khan_t (hk : kVn (K.2 0) v (v.1 4)) {x : Int} (hx : rL x) (c : 0 ≤ x ∧ x < v.1 2) : zEv X 2 mX10_isHand [zR 29, zJ x] (cX S ++ (cM K ++ t)) (zIs (.inl (some (zI (1)))) (cX S ++ (cM K ++ t))) := by
  have b1 := hk.1.2.1
  have b2 := hk.1.2.2.1
  refine zEv_run gX10_isHand 60 [] rfl ?_
  refine zCl_e (kha hk) (by decide) ?_
  refine mVc_i (by simp only [rI]; omega) ?_
  refine zCl_e (kwi_t hx (by simp only [rL]; omega) (by simp only [rL]; omega) (by omega)) (by decide) ?_
  exact mVc_i (by omega) ⟨rfl, rfl⟩
set_option maxHeartbeats 1000000 in
set_option maxRecDepth 100000 in
theorem khan_f (hk : kVn (K.2 0) v (v.1 4)) {x : Int} (hx : rL x) (c : ¬ (0 ≤ x ∧ x < v.1 2)) : zEv X 2 mX10_isHand [zR 29, zJ x] (cX S ++ (cM K ++ t)) (zIs (.inl (some (zI (0)))) (cX S ++ (cM K ++ t))) := by
  have b1 := hk.1.2.1
  have b2 := hk.1.2.2.1
  refine zEv_run gX10_isHand 60 [] rfl ?_
  refine zCl_e (kha hk) (by decide) ?_
  refine mVc_i (by simp only [rI]; omega) ?_
  refine zCl_e (kwi_f hx (by simp only [rL]; omega) (by simp only [rL]; omega) (by omega)) (by decide) ?_
  exact mVc_i (by omega) ⟨rfl, rfl⟩
set_option maxHeartbeats 1000000 in
set_option maxRecDepth 100000 in
theorem kfc_t {x : Int} (hx : rL x) (c : 1 ≤ x ∧ x ≤ 6) {h : zH} : zEv X 2 mX10_isFace [zJ x] (h) (zIs (.inl (some (zI 1))) h) := by
  refine zEv_run gX10_isFace 60 [] rfl ?_
  refine zCl_e (kwi_t hx (by simp only [rL]; omega) (by simp only [rL]; omega) (by omega)) (by decide) ?_
  exact mVc_i (by omega) ⟨rfl, rfl⟩
set_option maxHeartbeats 1000000 in
set_option maxRecDepth 100000 in
theorem kfc_f {x : Int} (hx : rL x) (c : ¬ (1 ≤ x ∧ x ≤ 6)) {h : zH} : zEv X 2 mX10_isFace [zJ x] (h) (zIs (.inl (some (zI 0))) h) := by
  refine zEv_run gX10_isFace 60 [] rfl ?_
  refine zCl_e (kwi_f hx (by simp only [rL]; omega) (by simp only [rL]; omega) (by omega)) (by decide) ?_
  exact mVc_i (by omega) ⟨rfl, rfl⟩
set_option maxHeartbeats 1000000 in
set_option maxRecDepth 100000 in
theorem kw {nn : Int} (hk : kVn (K.2 0) v nn) {d f : Int} (hd : 0 ≤ d ∧ d < v.1 1) (hf : 1 ≤ f ∧ f ≤ 6) : zEv X 1 mX10_weight [zR 29, zI d, zI f] (cX S ++ (cM K ++ t)) (zIs (.inl (some (zI (v.2.1.1 d f)))) (cX S ++ (cM K ++ t))) := by
  have b1 := hk.1.2.1
  refine zEv_run gX10_weight 60 [] rfl ?_
  refine mVc_i (by omega) ?_
  refine ⟨?_, rfl⟩
  rw [← hk.2.2.1.1 d f hd.1 (by omega) hf.1 hf.2, Nat.zero_add]
set_option maxHeartbeats 1000000 in
set_option maxRecDepth 100000 in
theorem ksa {nn : Int} (hk : kVn (K.2 0) v nn) {d : Int} (hd : 0 ≤ d ∧ d < v.1 1) : zEv X 1 mX10_isSalt [zR 29, zI d] (cX S ++ (cM K ++ t)) (zIs (.inl (some (zI (if v.2.1.2.1 d = 1 then 1 else 0)))) (cX S ++ (cM K ++ t))) := by
  have b1 := hk.1.2.1
  have hs := hk.1.2.2.2.2.2.1.2.1 d
  have e : K.2 0 (5 + 7 * d + 6).toNat = v.2.1.2.1 d := by rw [← hk.2.2.1.2.1 d hd.1 (by omega), Nat.zero_add]
  refine zEv_run gX10_isSalt 60 [] rfl ?_
  refine mVc_i (by omega) ?_
  refine zBr ⟨?_, by simp only [rI]; omega⟩ (fun c => ?_) (fun c => ?_)
  · show rI (K.2 0 (5 + 7 * d + 6).toNat)
    simp only [rI]
    omega
  · have c2 : K.2 0 (5 + 7 * d + 6).toNat = 1 := c
    rw [if_pos (by omega)]
    exact mVc_i (Or.inr rfl) ⟨rfl, rfl⟩
  · have c2 : ¬ K.2 0 (5 + 7 * d + 6).toNat = 1 := c
    rw [if_neg (by omega)]
    exact mVc_i (Or.inl rfl) ⟨rfl, rfl⟩
set_option maxHeartbeats 1000000 in
set_option maxRecDepth 100000 in
theorem kto {nn : Int} (hk : kVn (K.2 0) v nn) {d : Int} (hd : 0 ≤ d ∧ d < v.1 1) : zEv X 2 mX10_total [zR 29, zI d] (cX S ++ (cM K ++ t)) (zIs (.inl (some (zI (vTot v.2.1 d)))) (cX S ++ (cM K ++ t))) := by
  refine zEv_run gX10_total 200 [] rfl ?_
  repeat (first
    | refine zBrT (by simp only [rI]; omega) (by omega) ?_
    | refine zBrF (by simp only [rI]; omega) (by omega) ?_
    | refine zCl_e (kw hk hd (by omega)) (by decide) ?_)
  refine ⟨?_, rfl⟩
  simp only [vTot, Int.zero_add]
  rfl
set_option maxHeartbeats 1000000 in
set_option maxRecDepth 100000 in
theorem kgo {nn : Int} (hk : kVn (K.2 0) v nn) {d : Int} (hd : 0 ≤ d ∧ d < v.1 1) : zEv X 3 mX10_isGone [zR 29, zI d] (cX S ++ (cM K ++ t)) (zIs (.inl (some (zI (if vTot v.2.1 d = 0 then 1 else 0)))) (cX S ++ (cM K ++ t))) := by
  have hb := vTot_b hk.1.2.2.2.2.2.1 d
  refine zEv_run gX10_isGone 60 [] rfl ?_
  refine zCl_e (kto hk hd) (by decide) ?_
  refine zBr (by simp only [rI]; omega) (fun c => ?_) (fun c => ?_)
  · refine mVc_i (Or.inr rfl) ⟨?_, rfl⟩
    rw [if_pos c]
  · refine mVc_i (Or.inl rfl) ⟨?_, rfl⟩
    rw [if_neg c]
set_option maxHeartbeats 1000000 in
set_option maxRecDepth 100000 in
theorem kp0 (hk : kVn (K.2 0) v (v.1 4)) {k : Int} (h0 : 0 ≤ k ∧ k < v.1 4) : zEv X 1 mX10_pastOf [zR 29, zI k, zI 0] (cX S ++ (cM K ++ t)) (zIs (.inl (some (zI (v.2.2.1 k)))) (cX S ++ (cM K ++ t))) := by
  have b4 := hk.1.2.2.2.2.1
  have e := (hk.2.2.2 k h0.1 h0.2).2.2.1
  refine zEv_run gX10_pastOf 60 [] rfl ?_
  refine mVc_i (by omega) ?_
  refine ⟨?_, rfl⟩
  rw [← e, show (48 + 51 * k + 48 + 0).toNat = 48 + 51 * k.toNat + 48 by omega]
set_option maxHeartbeats 1000000 in
set_option maxRecDepth 100000 in
theorem kp1 (hk : kVn (K.2 0) v (v.1 4)) {k : Int} (h0 : 0 ≤ k ∧ k < v.1 4) : zEv X 1 mX10_pastOf [zR 29, zI k, zI 1] (cX S ++ (cM K ++ t)) (zIs (.inl (some (zI (v.2.2.2.1 k)))) (cX S ++ (cM K ++ t))) := by
  have b4 := hk.1.2.2.2.2.1
  have e := (hk.2.2.2 k h0.1 h0.2).2.2.2.1
  refine zEv_run gX10_pastOf 60 [] rfl ?_
  refine mVc_i (by omega) ?_
  refine ⟨?_, rfl⟩
  rw [← e, show (48 + 51 * k + 48 + 1).toNat = 48 + 51 * k.toNat + 49 by omega]
set_option maxHeartbeats 1000000 in
set_option maxRecDepth 100000 in
theorem kp2 (hk : kVn (K.2 0) v (v.1 4)) {k : Int} (h0 : 0 ≤ k ∧ k < v.1 4) : zEv X 1 mX10_pastOf [zR 29, zI k, zI 2] (cX S ++ (cM K ++ t)) (zIs (.inl (some (zI (v.2.2.2.2.1 k)))) (cX S ++ (cM K ++ t))) := by
  have b4 := hk.1.2.2.2.2.1
  have e := (hk.2.2.2 k h0.1 h0.2).2.2.2.2
  refine zEv_run gX10_pastOf 60 [] rfl ?_
  refine mVc_i (by omega) ?_
  refine ⟨?_, rfl⟩
  rw [← e, show (48 + 51 * k + 48 + 2).toNat = 48 + 51 * k.toNat + 50 by omega]
end Mdl
