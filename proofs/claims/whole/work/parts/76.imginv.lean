/-! images from round to round -/
theorem iX_j {S : sS} {K : kK} {W : List jJ} (h : iX S K W) {i p : Nat} (hp : S.2.2 i = some p) : ∃ j J u, i < 3 ∧ p = 46 + 4 * j ∧ j < W.length ∧ W[j]? = some J ∧ vX (jS J) u ∧ K.2 4 i = 1 ∧ kV (fun z => K.2 3 (3108 * i + z)) u := by
  have hi : i < 3 := by
    apply Decidable.byContradiction
    intro c
    have := h.1 i (by omega)
    rw [hp] at this
    cases this
  rcases h.2.1 i hi with ⟨e, -⟩ | ⟨j, J, u, e1, e2, e3, e4, e5⟩
  · rw [hp] at e
    cases e
  · rw [hp] at e1
    cases e1
    refine ⟨j, J, u, hi, rfl, ?_, e2, e3, e4, e5⟩
    exact (List.getElem?_eq_some_iff.mp e2).1
theorem iX_im {S R : sS} {K Q : kK} {W W1 : List jJ} {v : vV} {i j : Nat} {J1 : jJ} (hi : i < 3) (h : iX S K W) (hv : kV (K.2 0) v) (hR : R.2.2 = va_up S.2.2 i (some (46 + 4 * j))) (hj : W1[j]? = some J1) (hJ : vX (jS J1) v) (hW : ∀ a, ¬ a = j → a < W.length → W1[a]? = W[a]?) (hfr : ∀ a, ¬ a = i → S.2.2 a ≠ some (46 + 4 * j)) (hlen : W1.length = iNo (R.2.2 0) + iNo (R.2.2 1) + iNo (R.2.2 2)) (h4 : ∀ a, Q.2 4 a = if a = i then 1 else K.2 4 a) (h3 : ∀ z, Q.2 3 z = if 3108 * i ≤ z ∧ z < 3108 * i + 3108 then K.2 0 (z - 3108 * i) else K.2 3 z) : iX R Q W1 := by
  have ro : ∀ a, ¬ a = i → R.2.2 a = S.2.2 a := fun a ha => by rw [hR, va_up_o _ _ ha]
  have rs : R.2.2 i = some (46 + 4 * j) := by rw [hR, va_up_s]
  refine ⟨fun a ha => ?_, fun a ha => ?_, fun a c p ea ec => ?_, hlen⟩
  · rw [ro a (by omega)]
    exact h.1 a ha
  · by_cases e : a = i
    · subst e
      refine Or.inr ⟨j, J1, v, rs, hj, hJ, by rw [h4, if_pos rfl], kV_cg (fun z hz => ?_) hv⟩
      rw [h3, if_pos (by omega), show 3108 * a + z - 3108 * a = z by omega]
    · rcases h.2.1 a ha with ⟨e1, e2⟩ | ⟨j1, J, u, e1, e2, e3, e4, e5⟩
      · exact Or.inl ⟨by rw [ro a e]; exact e1, by rw [h4, if_neg e]; exact e2⟩
      · have hne : ¬ j1 = j := by
          intro q
          rw [q] at e1
          exact hfr a e e1
        have hl := (List.getElem?_eq_some_iff.mp e2).1
        refine Or.inr ⟨j1, J, u, by rw [ro a e]; exact e1, by rw [hW j1 hne hl]; exact e2, e3, by rw [h4, if_neg e]; exact e4, kV_cg (fun z hz => ?_) e5⟩
        rw [h3, if_neg (by omega)]
  · by_cases e1 : a = i
    · by_cases e2 : c = i
      · omega
      · rw [e1, rs] at ea
        cases ea
        rw [ro c e2] at ec
        exact absurd ec (hfr c e2)
    · by_cases e2 : c = i
      · rw [e2, rs] at ec
        cases ec
        rw [ro a e1] at ea
        exact absurd ea (hfr a e1)
      · rw [ro a e1] at ea
        rw [ro c e2] at ec
        exact h.2.2.1 a c p ea ec
theorem iNo_up {q : Nat → Option Nat} {i : Nat} {p : Nat} (hi : i < 3) : iNo (va_up q i (some p) 0) + iNo (va_up q i (some p) 1) + iNo (va_up q i (some p) 2) = iNo (q 0) + iNo (q 1) + iNo (q 2) + 1 - iNo (q i) := by
  have b : ∀ o : Option Nat, iNo o ≤ 1 := fun o => by cases o <;> simp [iNo]
  have b0 := b (q 0)
  have b1 := b (q 1)
  have b2 := b (q 2)
  have e : i = 0 ∨ i = 1 ∨ i = 2 := by omega
  rcases e with rfl | rfl | rfl
  · rw [va_up_s, va_up_o _ _ (by omega), va_up_o _ _ (by omega)]
    show 1 + iNo (q 1) + iNo (q 2) = _
    omega
  · rw [va_up_s, va_up_o _ _ (by omega), va_up_o _ _ (by omega)]
    show iNo (q 0) + 1 + iNo (q 2) = _
    omega
  · rw [va_up_s, va_up_o _ _ (by omega), va_up_o _ _ (by omega)]
    show iNo (q 0) + iNo (q 1) + 1 = _
    omega
