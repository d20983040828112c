/-! the law's other helpers -/
section Lw2
variable {X : mX} {S : sS} {K : kK} {W : zH} {f : Nat → Int} {v : vV} {T : tT} {t H2 : zH}
def w01 (y : Int) : Int := if wI y = 0 then 0 else 1
set_option maxHeartbeats 1000000 in
set_option maxRecDepth 100000 in
theorem lSalts (hv : vX S v) {d : Int} (hd : rI d) : zEv X 13 mL_salts [zR 0, zI d, zR 45] (cX S ++ (cM K ++ (oC f :: W))) (lTp S K W (kcd [1]) w01 (pSalts v d)) := by
  refine zEv_run gL_salts 60 [] rfl ?_
  refine zCl_i (zEv_n (cSalts hv hd)) (by decide) ?_
  rintro o9 h9 ⟨o0, ⟨rfl, R, rfl, sg, hv1⟩, rfl⟩
  have hE := pSalts_e v d
  generalize pSalts v d = r at hv1 hE ⊢
  obtain ⟨y | e, v1⟩ := r
  · refine zBr (wI_r y) (fun c => ?_) (fun c => ?_)
    · refine mVc_i (by omega) ?_
      exact ⟨R, va_up f 0 0, rfl, sg, hv1, rfl, by show (0 : Int) = w01 y; unfold w01; rw [if_pos c]⟩
    · refine mVc_i (by omega) ?_
      exact ⟨R, va_up f 0 1, rfl, sg, hv1, rfl, by show (1 : Int) = w01 y; unfold w01; rw [if_neg c]⟩
  · have he := hE e rfl
    simp only [List.mem_cons, List.not_mem_nil, or_false] at he
    rcases he with rfl
    exact ⟨R, f, rfl, sg, hv1, rfl⟩
def lTb (S : sS) (K : kK) (W : zH) (r : (Int ⊕ Nat) × vV × Option (Int × Int)) : zO → zH → Prop := fun o9 h9 => ∃ (R : sS) (f : Nat → Int), h9 = cX R ++ (cM K ++ (oC f :: W)) ∧ sW S R ∧ R.2.1 0 = S.2.1 0 ∧ vX R r.2.1 ∧ ((r.2.2 = none ∧ R = S) ∨ ∃ z, r.2.2 = some z ∧ R.1 0 = 0 ∧ R.1 5 = z.1 ∧ R.1 6 = z.2) ∧ (match r.1 with
  | .inl y => o9 = .inl (some (zI 0)) ∧ f 0 = wI y
  | .inr e => o9 = .inl (some (zI (kcd [0] e))))
theorem pTable_e (v : vV) (B : Int → Int) (l n : Int) : eOk (pTable v B l n) [0] := by
  unfold pTable
  repeat' (first | exact eOk_l | exact eOk_r (by decide) | refine eOk_i ?_ ?_)
set_option maxHeartbeats 1000000 in
set_option maxRecDepth 100000 in
theorem lTable (hv : vX S v) (hB : ∀ k, -128 ≤ S.2.1 0 k ∧ S.2.1 0 k ≤ 127) (hl : 0 ≤ S.1 0 ∧ S.1 0 ≤ 600) {n : Int} (hn : rI n) : zEv X 13 mL_table [zR 0, zI n, zR 45] (cX S ++ (cM K ++ (oC f :: W))) (lTb S K W (pTable v (fun a => S.2.1 0 a.toNat) (S.1 0) n)) := by
  refine zEv_run gL_table 60 [] rfl ?_
  refine zCl_i (zEv_n (cTable hv hB hl hn)) (by decide) ?_
  rintro o9 h9 ⟨o0, ⟨rfl, R, rfl, sg, hb0, hv1, hz⟩, rfl⟩
  have hE := pTable_e v (fun a => S.2.1 0 a.toNat) (S.1 0) n
  generalize pTable v (fun a => S.2.1 0 a.toNat) (S.1 0) n = r at hv1 hE hz ⊢
  obtain ⟨y | e, v1⟩ := r
  · refine mVc_i (wI_r y) ?_
    refine mVc_i (by omega) ?_
    exact ⟨R, va_up f 0 (wI y), rfl, sg, hb0, hv1, hz, rfl, rfl⟩
  · have he := hE e rfl
    simp only [List.mem_cons, List.not_mem_nil, or_false] at he
    rcases he with rfl
    exact ⟨R, f, rfl, sg, hb0, hv1, hz, rfl⟩
def lTt (S : sS) (K : kK) (W : zH) (cd : Nat → Int) (wr : Int → Int) (r : (Int ⊕ Nat) × tT) : zO → zH → Prop := fun o9 h9 => ∃ (R : sS) (f : Nat → Int), h9 = cX R ++ (cM K ++ (oC f :: W)) ∧ sH S R ∧ tX R r.2 ∧ (match r.1 with
  | .inl y => o9 = .inl (some (zI 0)) ∧ f 0 = wr y
  | .inr e => o9 = .inl (some (zI (cd e))))
def lTv (S : sS) (t : zH) (cd : Nat → Int) (n : Nat) (T : tT) : zO → zH → Prop := fun o9 h9 => o9 = .inl (some (zI (if n = 9 then 0 else cd n))) ∧ ∃ R : sS, h9 = cX R ++ t ∧ sH S R ∧ tX R T
theorem pWrite_e (T : tT) (x p z : Int) : eOk (pWrite T x p z) [1, 2, 3] := by
  unfold pWrite
  repeat' (first | exact eOk_l | exact eOk_r (by decide) | refine eOk_i ?_ ?_)
theorem pPour_e (v : vV) (T : tT) (x : Int) : eOk (pPour v T x) [1, 2] := by
  unfold pPour
  repeat' (first | exact eOk_l | exact eOk_r (by decide) | refine eOk_i ?_ ?_)
theorem tOk_i {P : Prop} [Decidable P] {a b : Nat × tT} {s : List Nat} (ha : a.1 ∈ s) (hb : b.1 ∈ s) : (if P then a else b).1 ∈ s := by
  split
  · exact ha
  · exact hb
theorem tOk_l {n : Nat} {T : tT} {s : List Nat} (h : n ∈ s) : (n, T).1 ∈ s := h
theorem pTray_e (T : tT) (x so mn : Int) : (pTray T x so mn).1 ∈ [9, 1, 0] := by
  unfold pTray
  repeat' (first | exact tOk_l (by decide) | refine tOk_i ?_ ?_)
set_option maxHeartbeats 1000000 in
set_option maxRecDepth 100000 in
theorem lWrite (hT : tX S T) {x p z : Int} (hx : rI x) (hp : rI p) (hz : rL z) : zEv X 13 mL_write [zR 0, zI x, zI p, zJ z, zR 45] (cX S ++ (cM K ++ (oC f :: W))) (lTt S K W (kcd [1, 2, 3]) wJ (pWrite T x p z)) := by
  refine zEv_run gL_write 60 [] rfl ?_
  refine zCl_i (zEv_n (cWrite hT hx hp hz)) (by decide) ?_
  rintro o9 h9 ⟨o0, ⟨rfl, R, rfl, sg, hv1⟩, rfl⟩
  have hE := pWrite_e T x p z
  generalize pWrite T x p z = r at hv1 hE ⊢
  obtain ⟨y | e, v1⟩ := r
  · refine mVc_i (by omega) ?_
    exact ⟨R, va_up f 0 (wJ y), rfl, sg, hv1, rfl, rfl⟩
  · have he := hE e rfl
    simp only [List.mem_cons, List.not_mem_nil, or_false] at he
    rcases he with rfl | rfl | rfl
    · exact ⟨R, f, rfl, sg, hv1, rfl⟩
    · exact ⟨R, f, rfl, sg, hv1, rfl⟩
    · exact ⟨R, f, rfl, sg, hv1, rfl⟩
set_option maxHeartbeats 1000000 in
set_option maxRecDepth 100000 in
theorem lPour (hv : vX S v) (hT : tX S T) {x : Int} (hx : rI x) : zEv X 13 mL_pour [zR 0, zI x, zR 45] (cX S ++ (cM K ++ (oC f :: W))) (lTt S K W (kcd [1, 2]) wI (pPour v T x)) := by
  refine zEv_run gL_pour 60 [] rfl ?_
  refine zCl_i (zEv_n (cPour hv hT hx)) (by decide) ?_
  rintro o9 h9 ⟨o0, ⟨rfl, R, rfl, sg, hv1⟩, rfl⟩
  have hE := pPour_e v T x
  generalize pPour v T x = r at hv1 hE ⊢
  obtain ⟨y | e, v1⟩ := r
  · refine mVc_i (wI_r y) ?_
    refine mVc_i (by omega) ?_
    exact ⟨R, va_up f 0 (wI y), rfl, sg, hv1, rfl, rfl⟩
  · have he := hE e rfl
    simp only [List.mem_cons, List.not_mem_nil, or_false] at he
    rcases he with rfl | rfl
    · exact ⟨R, f, rfl, sg, hv1, rfl⟩
    · exact ⟨R, f, rfl, sg, hv1, rfl⟩
set_option maxHeartbeats 1000000 in
set_option maxRecDepth 100000 in
theorem lTray (hT : tX S T) {x so mn : Int} (hx : rI x) (hso : rI so) (hmn : rI mn) : zEv X 13 mL_tray [zR 0, zI x, zI so, zI mn] (cX S ++ t) (lTv S t (kcd [1, 0]) (pTray T x so mn).1 (pTray T x so mn).2) := by
  refine zEv_run gL_tray 60 [] rfl ?_
  refine zCl_i (cTray hT hx hso hmn) (by decide) ?_
  rintro o9 h9 ⟨rfl, R, rfl, sg, hv1⟩
  have hE := pTray_e T x so mn
  generalize pTray T x so mn = r at hv1 hE ⊢
  obtain ⟨n, v1⟩ := r
  simp only [List.mem_cons, List.not_mem_nil, or_false] at hE
  rcases hE with rfl | rfl | rfl
  · exact ⟨rfl, R, rfl, sg, hv1⟩
  · exact ⟨rfl, R, rfl, sg, hv1⟩
  · exact ⟨rfl, R, rfl, sg, hv1⟩
set_option maxHeartbeats 1000000 in
set_option maxRecDepth 100000 in
theorem limage0 {i : Int} (hE : zEv X 12 mX9_image [zR 0, zI i] (cX S ++ t) (zIs (.inl none) H2)) : zEv X 13 mL_image [zR 0, zI i] (cX S ++ t) (zIs (.inl (some (zI 0))) H2) := by
  refine zEv_run gL_image 60 [] rfl ?_
  refine zCl_e hE (by decide) ?_
  exact ⟨rfl, rfl⟩
set_option maxHeartbeats 1000000 in
set_option maxRecDepth 100000 in
theorem limage1 {i : Int} (hE : zEv X 12 mX9_image [zR 0, zI i] (cX S ++ t) (zIs (.inr 1) H2)) : zEv X 13 mL_image [zR 0, zI i] (cX S ++ t) (zIs (.inl (some (zI 1))) H2) := by
  refine zEv_run gL_image 60 [] rfl ?_
  refine zCl_e hE (by decide) ?_
  exact ⟨rfl, rfl⟩
set_option maxHeartbeats 1000000 in
set_option maxRecDepth 100000 in
theorem lrestore0 {i : Int} (hE : zEv X 12 mX9_restore [zR 0, zI i] (cX S ++ t) (zIs (.inl none) H2)) : zEv X 13 mL_restore [zR 0, zI i] (cX S ++ t) (zIs (.inl (some (zI 0))) H2) := by
  refine zEv_run gL_restore 60 [] rfl ?_
  refine zCl_e hE (by decide) ?_
  exact ⟨rfl, rfl⟩
set_option maxHeartbeats 1000000 in
set_option maxRecDepth 100000 in
theorem lrestore1 {i : Int} (hE : zEv X 12 mX9_restore [zR 0, zI i] (cX S ++ t) (zIs (.inr 1) H2)) : zEv X 13 mL_restore [zR 0, zI i] (cX S ++ t) (zIs (.inl (some (zI 1))) H2) := by
  refine zEv_run gL_restore 60 [] rfl ?_
  refine zCl_e hE (by decide) ?_
  exact ⟨rfl, rfl⟩
set_option maxHeartbeats 1000000 in
set_option maxRecDepth 100000 in
theorem lrestore2 {i : Int} (hE : zEv X 12 mX9_restore [zR 0, zI i] (cX S ++ t) (zIs (.inr 2) H2)) : zEv X 13 mL_restore [zR 0, zI i] (cX S ++ t) (zIs (.inl (some (zI 2))) H2) := by
  refine zEv_run gL_restore 60 [] rfl ?_
  refine zCl_e hE (by decide) ?_
  exact ⟨rfl, rfl⟩
end Lw2
