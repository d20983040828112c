/-! the computation over whole numbers -/
abbrev zK : Type := Nat → List (Option zV) → List zV → zH → Nat → Nat → Prop
def zCs (st : List zV) : Nat := match st with
  | [] => 0
  | .inr (.inl _) :: r => 2 + zCs r
  | _ :: r => 1 + zCs r
def zWfV (h : zH) (v : zV) : Bool := match v with
  | .inr (.inr (some k)) => Nat.ble mSB k || (h[k]?).isSome
  | _ => true
def zWfS (h : zH) (L : List (Option zV)) (st : List zV) : Bool := L.all (fun o => match o with
  | some v => zWfV h v
  | none => true) && st.all (zWfV h)
/-- a store into the locals, the new row written out -/
def zS1 : List (Option zV) → Nat → zV → (List (Option zV) → Prop) → Prop
  | [], _, _, k => k []
  | _ :: r, 0, v, k => k (some v :: r)
  | a :: r, j + 1, v, k => match j, a with
    | 0, some (.inr (.inl _)) => zS1 r j v (fun r1 => k (none :: r1))
    | _, _ => zS1 r j v (fun r1 => k (a :: r1))
def zS2 : List (Option zV) → Nat → zV → (List (Option zV) → Prop) → Prop
  | [], _, _, k => k []
  | _ :: r, 0, v, k => match r with
    | [] => k [some v]
    | _ :: q => k (some v :: none :: q)
  | a :: r, j + 1, v, k => match j, a with
    | 0, some (.inr (.inl _)) => zS2 r j v (fun r1 => k (none :: r1))
    | _, _ => zS2 r j v (fun r1 => k (a :: r1))
def zCl (X : mX) (d : Nat) (M2 : mM) (as : List zV) (h : zH) (K : zO → zH → Prop) : Prop := ∃ (d2 : Nat) (Q2 : zO → zH → Prop), d2 < d ∧ zEv X d2 M2 as h Q2 ∧ ∀ (o : zO) (h1 : zH), Q2 o h1 → K o h1
def zSwIn (x lo : Int) : List Nat → (Nat → Prop) → Prop
  | [], _ => True
  | t :: r, k => (x = lo → k t) ∧ zSwIn x (lo + 1) r k
def zSwL (x : Int) : List (Int × Int) → List Nat → Prop → (Nat → Prop) → Prop
  | p :: ps, t :: ts, kd, k => mBr (x = p.1) (k t) (zSwL x ps ts kd k)
  | _, _, kd, _ => kd
def zPop : Nat → List zV → List zV → (List zV → List zV → Prop) → Prop
  | 0, st, acc, k => k acc st
  | n + 1, v :: st, acc, k => zPop n st (v :: acc) k
  | _ + 1, [], _, _ => False
def zFit (ty : FieldType) (v : zV) : Bool := match ty, v with
  | .int, .inl _ => true
  | .boolean, .inl z => decide (z = 0 ∨ z = 1)
  | .object _, .inr (.inr _) => true
  | .array _, .inr (.inr _) => true
  | _, _ => false
def zDf (ci N : Nat) : List zV := (List.range N).map (fun j => match mTy ci j with
  | .object _ => .inr (.inr none)
  | .array _ => .inr (.inr none)
  | .long => .inr (.inl 0)
  | _ => .inl 0)
def zKl (k : Nat) : List (Nat × Int) := match k with
  | 9 => [(471, 6), (295, -1)]
  | 2 => [(84, 500)]
  | 10 => [(181, 10), (195, 2), (163, 6), (222, 40), (300, 3), (227, 100), (249, 99), (260, 20), (276, 30), (292, 8), (298, 9), (332, 5)]
  | 11 => [(343, 4294967295)]
  | _ => []
def zXc (M : mM) (Q : zO → zH → Prop) (tb : mTb) (pc kd E : Nat) (h1 : zH) : Prop := match kd with
  | 0 => match M.2.2.2.2.1 with
    | [] => Q (.inr E) h1
    | _ :: _ => bif Nat.blt E 4 then (match mHd pc E M.2.2.2.2.1 with
      | some hp => match mLk tb hp with
        | some (.astore j, n1, _) => match mLk tb n1 with
          | some (.iconst v, n2, _) => match mLk tb n2 with
            | some (.ireturn, _, _) => bif Nat.blt j M.2.2.1 then (match M.2.2.2.1 with
              | some .int => Q (.inl (some (.inl v))) h1
              | _ => False) else False
            | _ => False
          | _ => False
        | some (.astore_n j, n1, _) => match mLk tb n1 with
          | some (.iconst v, n2, _) => match mLk tb n2 with
            | some (.ireturn, _, _) => bif Nat.blt j.val M.2.2.1 then (match M.2.2.2.1 with
              | some .int => Q (.inl (some (.inl v))) h1
              | _ => False) else False
            | _ => False
          | _ => False
        | _ => False
      | none => False) else False
  | 2 => match M.2.2.2.2.1 with
    | [] => Q (.inr E) h1
    | _ :: _ => False
  | _ => False
def zInv (X : mX) (M : mM) (d : Nat) (Q : zO → zH → Prop) (tb : mTb) (K : zK) (pc nx : Nat) (L : List (Option zV)) (h : zH) (bc bs : Nat) (kd : Nat) (M2 : mM) (as rest : List zV) : Prop :=
  bif Nat.ble (zCs rest) 8 && Nat.ble M2.2.2.2.2.2.2.1 bc && Nat.ble M2.2.2.2.2.2.2.2 bs && zWfS h L rest then
    zCl X d M2 as h (fun o h1 => match o with
      | .inl (some v) => K nx L (v :: rest) h1 (bc - M2.2.2.2.2.2.2.1) (bs - M2.2.2.2.2.2.2.2)
      | .inl none => K nx L rest h1 (bc - M2.2.2.2.2.2.2.1) (bs - M2.2.2.2.2.2.2.2)
      | .inr E => zXc M Q tb pc kd E h1)
  else False
def zOp (X : mX) (M : mM) (d : Nat) (Q : zO → zH → Prop) (tb : mTb) (K : zK) (i : Instr) (nx : Nat) (tg : List Nat) (pc : Nat) (L : List (Option zV)) (st : List zV) (h : zH) (bc bs : Nat) : Prop :=
  match i with
  | .aload_n j => match L[j.val]? with
    | some (some (.inr (.inr x))) => K nx L (.inr (.inr x) :: st) h bc bs
    | _ => False
  | .aload j => match L[j]? with
    | some (some (.inr (.inr x))) => K nx L (.inr (.inr x) :: st) h bc bs
    | _ => False
  | .iload_n j => match L[j.val]? with
    | some (some (.inl x)) => K nx L (.inl x :: st) h bc bs
    | _ => False
  | .iload j => match L[j]? with
    | some (some (.inl x)) => K nx L (.inl x :: st) h bc bs
    | _ => False
  | .lload_n j => match L[j.val]? with
    | some (some (.inr (.inl x))) => K nx L (.inr (.inl x) :: st) h bc bs
    | _ => False
  | .lload j => match L[j]? with
    | some (some (.inr (.inl x))) => K nx L (.inr (.inl x) :: st) h bc bs
    | _ => False
  | .istore_n j => match st with
    | .inl x :: r => bif Nat.blt j.val M.2.2.1 then zS1 L (j.val) (.inl x) (fun L1 => K nx L1 r h bc bs) else False
    | _ => False
  | .istore j => match st with
    | .inl x :: r => bif Nat.blt j M.2.2.1 then zS1 L (j) (.inl x) (fun L1 => K nx L1 r h bc bs) else False
    | _ => False
  | .lstore_n j => match st with
    | .inr (.inl x) :: r => bif Nat.blt (j.val + 1) M.2.2.1 then zS2 L (j.val) (.inr (.inl x)) (fun L1 => K nx L1 r h bc bs) else False
    | _ => False
  | .lstore j => match st with
    | .inr (.inl x) :: r => bif Nat.blt (j + 1) M.2.2.1 then zS2 L (j) (.inr (.inl x)) (fun L1 => K nx L1 r h bc bs) else False
    | _ => False
  | .astore_n j => match st with
    | .inr (.inr (some x)) :: r => bif Nat.blt j.val M.2.2.1 then zS1 L (j.val) (.inr (.inr (some x))) (fun L1 => K nx L1 r h bc bs) else False
    | _ => False
  | .astore j => match st with
    | .inr (.inr (some x)) :: r => bif Nat.blt j M.2.2.1 then zS1 L (j) (.inr (.inr (some x))) (fun L1 => K nx L1 r h bc bs) else False
    | _ => False
  | .iinc j n => match L[j]? with
    | some (some (.inl x)) => bif Nat.blt j M.2.2.1 then zS1 L j (.inl (x + n)) (fun L1 => K nx L1 st h bc bs) else False
    | _ => False
  | .iconst n => K nx L (.inl n :: st) h bc bs
  | .bipush n => match n with
    | .ofNat k => bif Nat.blt k 128 then K nx L (.inl n :: st) h bc bs else False
    | .negSucc k => bif Nat.blt k 128 then K nx L (.inl n :: st) h bc bs else False
  | .sipush n => match n with
    | .ofNat k => bif Nat.blt k 32768 then K nx L (.inl n :: st) h bc bs else False
    | .negSucc k => bif Nat.blt k 32768 then K nx L (.inl n :: st) h bc bs else False
  | .lconst n => match n.val with
    | 0 => K nx L (.inr (.inl 0) :: st) h bc bs
    | _ => K nx L (.inr (.inl 1) :: st) h bc bs
  | .ldc i => match mLk (mKi M.2.2.2.2.2.1) i with
    | some v => K nx L (.inl v.toInt :: st) h bc bs
    | none => match mLk (mSt M.2.2.2.2.2.1) i with
      | some (_, n) => K nx L (.inr (.inr (some (mSB + n))) :: st) h bc bs
      | none => False
  | .ldc_w i => match mLk (mKi M.2.2.2.2.2.1) i with
    | some v => K nx L (.inl v.toInt :: st) h bc bs
    | none => False
  | .ldc2_w i => match mLk (zKl M.2.2.2.2.2.1) i with
    | some v => K nx L (.inr (.inl v) :: st) h bc bs
    | none => False
  | .iadd => match st with
    | .inl y :: .inl x :: r => K nx L (.inl (x + y) :: r) h bc bs
    | _ => False
  | .isub => match st with
    | .inl y :: .inl x :: r => K nx L (.inl (x - y) :: r) h bc bs
    | _ => False
  | .imul => match st with
    | .inl y :: .inl x :: r => K nx L (.inl (x * y) :: r) h bc bs
    | _ => False
  | .iand => match st with
    | .inl y :: .inl x :: r => K nx L (.inl ((Int32.ofInt x &&& Int32.ofInt y).toInt) :: r) h bc bs
    | _ => False
  | .ior => match st with
    | .inl y :: .inl x :: r => K nx L (.inl ((Int32.ofInt x ||| Int32.ofInt y).toInt) :: r) h bc bs
    | _ => False
  | .ixor => match st with
    | .inl y :: .inl x :: r => K nx L (.inl ((Int32.ofInt x ^^^ Int32.ofInt y).toInt) :: r) h bc bs
    | _ => False
  | .ishl => match st with
    | .inl y :: .inl x :: r => K nx L (.inl ((Int32.ofInt x <<< (Int32.ofInt y &&& 31)).toInt) :: r) h bc bs
    | _ => False
  | .ishr => match st with
    | .inl y :: .inl x :: r => K nx L (.inl ((Int32.ofInt x >>> (Int32.ofInt y &&& 31)).toInt) :: r) h bc bs
    | _ => False
  | .iushr => match st with
    | .inl y :: .inl x :: r => K nx L (.inl (((Int32.ofInt x).toUInt32 >>> ((Int32.ofInt y).toUInt32 &&& Int32.toUInt32 31)).toInt32.toInt) :: r) h bc bs
    | _ => False
  | .idiv => match st with
    | .inl y :: .inl x :: r => mVc (0 ≤ x ∧ rI x ∧ 0 < y ∧ rI y) (K nx L (.inl (x / y) :: r) h bc bs)
    | _ => False
  | .irem => match st with
    | .inl y :: .inl x :: r => mVc (0 ≤ x ∧ rI x ∧ 0 < y ∧ rI y) (K nx L (.inl (x % y) :: r) h bc bs)
    | _ => False
  | .ineg => match st with
    | .inl x :: r => K nx L (.inl (-x) :: r) h bc bs
    | _ => False
  | .ladd => match st with
    | .inr (.inl y) :: .inr (.inl x) :: r => K nx L (.inr (.inl (x + y)) :: r) h bc bs
    | _ => False
  | .lsub => match st with
    | .inr (.inl y) :: .inr (.inl x) :: r => K nx L (.inr (.inl (x - y)) :: r) h bc bs
    | _ => False
  | .lmul => match st with
    | .inr (.inl y) :: .inr (.inl x) :: r => K nx L (.inr (.inl (x * y)) :: r) h bc bs
    | _ => False
  | .land => match st with
    | .inr (.inl y) :: .inr (.inl x) :: r => K nx L (.inr (.inl ((Int64.ofInt x &&& Int64.ofInt y).toInt)) :: r) h bc bs
    | _ => False
  | .lor => match st with
    | .inr (.inl y) :: .inr (.inl x) :: r => K nx L (.inr (.inl ((Int64.ofInt x ||| Int64.ofInt y).toInt)) :: r) h bc bs
    | _ => False
  | .ldiv => match st with
    | .inr (.inl y) :: .inr (.inl x) :: r => mVc (0 ≤ x ∧ rL x ∧ 0 < y ∧ rL y) (K nx L (.inr (.inl (x / y)) :: r) h bc bs)
    | _ => False
  | .lrem => match st with
    | .inr (.inl y) :: .inr (.inl x) :: r => mVc (0 ≤ x ∧ rL x ∧ 0 < y ∧ rL y) (K nx L (.inr (.inl (x % y)) :: r) h bc bs)
    | _ => False
  | .lshl => match st with
    | .inl y :: .inr (.inl x) :: r => K nx L (.inr (.inl (Int64.ofInt x <<< ((Int32.ofInt y).toInt64 &&& 63)).toInt) :: r) h bc bs
    | _ => False
  | .lshr => match st with
    | .inl y :: .inr (.inl x) :: r => K nx L (.inr (.inl (Int64.ofInt x >>> ((Int32.ofInt y).toInt64 &&& 63)).toInt) :: r) h bc bs
    | _ => False
  | .lcmp => match st, mLk tb nx with
    | .inr (.inl y) :: .inr (.inl x) :: r, some (.ifCond c _, nx2, [t]) => mVc (rL x ∧ rL y) (match c with
      | .eq => mBr (x = y) (K t L r h bc bs) (K nx2 L r h bc bs)
      | .ne => mBr (x = y) (K nx2 L r h bc bs) (K t L r h bc bs)
      | .lt => mBr (x < y) (K t L r h bc bs) (K nx2 L r h bc bs)
      | .ge => mBr (y ≤ x) (K t L r h bc bs) (K nx2 L r h bc bs)
      | .gt => mBr (y < x) (K t L r h bc bs) (K nx2 L r h bc bs)
      | .le => mBr (x ≤ y) (K t L r h bc bs) (K nx2 L r h bc bs))
    | _, _ => False
  | .i2l => match st with
    | .inl x :: r => mVc (rI x) (K nx L (.inr (.inl x) :: r) h bc bs)
    | _ => False
  | .l2i => match st with
    | .inr (.inl x) :: r => K nx L (.inl x :: r) h bc bs
    | _ => False
  | .i2b => match st with
    | .inl x :: r => K nx L (.inl (x.bmod 256) :: r) h bc bs
    | _ => False
  | .i2s => match st with
    | .inl x :: r => K nx L (.inl (x.bmod 65536) :: r) h bc bs
    | _ => False
  | .dup => match st with
    | .inl x :: r => K nx L (.inl x :: .inl x :: r) h bc bs
    | .inr (.inr x) :: r => K nx L (.inr (.inr x) :: .inr (.inr x) :: r) h bc bs
    | _ => False
  | .pop => match st with
    | .inl _ :: r => K nx L (r) h bc bs
    | .inr (.inr _) :: r => K nx L (r) h bc bs
    | _ => False
  | .dup2 => match st with
    | .inl x :: .inr (.inr y) :: r => K nx L (.inl x :: .inr (.inr y) :: .inl x :: .inr (.inr y) :: r) h bc bs
    | .inl x :: .inl y :: r => K nx L (.inl x :: .inl y :: .inl x :: .inl y :: r) h bc bs
    | .inr (.inl x) :: r => K nx L (.inr (.inl x) :: .inr (.inl x) :: r) h bc bs
    | _ => False
  | .pop2 => match st with
    | .inr (.inl _) :: r => K nx L (r) h bc bs
    | _ => False
  | .ifCond c _ => match st, tg with
    | .inl x :: r, [t] => mVc (rI x) (match c with
      | .eq => mBr (x = 0) (K t L r h bc bs) (K nx L r h bc bs)
      | .ne => mBr (x = 0) (K nx L r h bc bs) (K t L r h bc bs)
      | .lt => mBr (x < 0) (K t L r h bc bs) (K nx L r h bc bs)
      | .ge => mBr (0 ≤ x) (K t L r h bc bs) (K nx L r h bc bs)
      | .gt => mBr (0 < x) (K t L r h bc bs) (K nx L r h bc bs)
      | .le => mBr (x ≤ 0) (K t L r h bc bs) (K nx L r h bc bs))
    | _, _ => False
  | .if_icmp c _ => match st, tg with
    | .inl y :: .inl x :: r, [t] => mVc (rI x ∧ rI y) (match c with
      | .eq => mBr (x = y) (K t L r h bc bs) (K nx L r h bc bs)
      | .ne => mBr (x = y) (K nx L r h bc bs) (K t L r h bc bs)
      | .lt => mBr (x < y) (K t L r h bc bs) (K nx L r h bc bs)
      | .ge => mBr (y ≤ x) (K t L r h bc bs) (K nx L r h bc bs)
      | .gt => mBr (y < x) (K t L r h bc bs) (K nx L r h bc bs)
      | .le => mBr (x ≤ y) (K t L r h bc bs) (K nx L r h bc bs))
    | _, _ => False
  | .goto _ => match tg with
    | [t] => K t L st h bc bs
    | _ => False
  | .ifnonnull _ => match st, tg with
    | .inr (.inr (some _)) :: r, [t] => K t L r h bc bs
    | .inr (.inr none) :: r, [_] => K nx L r h bc bs
    | _, _ => False
  | .tableswitch _ lo hi _ => match st, tg with
    | .inl x :: r, t :: ts => mVc (rI x) (((x < lo ∨ hi < x) → K t L r h bc bs) ∧ zSwIn x lo ts (fun t => K t L r h bc bs))
    | _, _ => False
  | .lookupswitch _ ps => match st, tg with
    | .inl x :: r, t :: ts => mVc (rI x) (zSwL x ps.toList ts (K t L r h bc bs) (fun t => K t L r h bc bs))
    | _, _ => False
  | .getfield i => match st with
    | .inr (.inr (some k)) :: r => match mLk (mFt M.2.2.2.2.2.1) i with
      | some (ci, j, _) => match h[k]? with
        | some (.inr (ci2, fs)) => bif Nat.beq ci ci2 then (match fs[j]? with
          | some v => K nx L (v :: r) h bc bs
          | none => False) else False
        | _ => False
      | none => False
    | _ => False
  | .putfield i => match st with
    | v :: .inr (.inr (some k)) :: r => match mLk (mFt M.2.2.2.2.2.1) i with
      | some (ci, j, nest) => match h[k]? with
        | some (.inr (ci2, fs)) => bif Nat.beq ci ci2 && Nat.blt j fs.length && zFit (mTy ci j) v && mFin M ci j nest then K nx L r (h.set k (.inr (ci, fs.set j v))) bc bs else False
        | _ => False
      | none => False
    | _ => False
  | .iaload => match st with
    | .inl i :: .inr (.inr (some k)) :: r => bif Nat.blt k mSB then (match h[k]? with
      | some (.inl (0, n, .inl f)) => bif Nat.ble n 100000 then mVc (0 ≤ i ∧ i < n) (K nx L (.inl (f i.toNat) :: r) h bc bs) else False
      | _ => False) else (bif Nat.beq k (mSB + 500) then mVc (0 ≤ i ∧ i < X.2.2.2.2.2.1 ∧ X.2.2.2.2.2.1 ≤ 100000) (K nx L (.inl (X.2.2.2.2.2.2 i.toNat).toInt :: r) h bc bs) else False)
    | _ => False
  | .laload => match st with
    | .inl i :: .inr (.inr (some k)) :: r => match h[k]? with
      | some (.inl (1, n, .inl f)) => bif Nat.ble n 100000 then mVc (0 ≤ i ∧ i < n) (K nx L (.inr (.inl (f i.toNat)) :: r) h bc bs) else False
      | _ => False
    | _ => False
  | .baload => match st with
    | .inl i :: .inr (.inr (some k)) :: r => match h[k]? with
      | some (.inl (2, n, .inl f)) => bif Nat.ble n 100000 then mVc (0 ≤ i ∧ i < n) (K nx L (.inl (f i.toNat) :: r) h bc bs) else False
      | some (.inl (3, n, .inl f)) => bif Nat.ble n 100000 then mVc (0 ≤ i ∧ i < n) (K nx L (.inl (f i.toNat) :: r) h bc bs) else False
      | _ => False
    | _ => False
  | .aaload => match st with
    | .inl i :: .inr (.inr (some k)) :: r => match h[k]? with
      | some (.inl (4, n, .inr f)) => bif Nat.ble n 100000 then mVc (0 ≤ i ∧ i < n) (K nx L (.inr (.inr (f i.toNat)) :: r) h bc bs) else False
      | some (.inl (5, n, .inr f)) => bif Nat.ble n 100000 then mVc (0 ≤ i ∧ i < n) (K nx L (.inr (.inr (f i.toNat)) :: r) h bc bs) else False
      | _ => False
    | _ => False
  | .arraylength => match st with
    | .inr (.inr (some k)) :: r => bif Nat.blt k mSB then (match h[k]? with
      | some (.inl (t, n, _)) => bif Nat.blt t 6 then K nx L (.inl (n : Int) :: r) h bc bs else False
      | _ => False) else (bif Nat.beq k (mSB + 500) then K nx L (.inl (X.2.2.2.2.2.1 : Int) :: r) h bc bs else False)
    | _ => False
  | .iastore => match st with
    | .inl x :: .inl i :: .inr (.inr (some k)) :: r => match h[k]? with
      | some (.inl (0, n, .inl f)) => bif Nat.ble n 100000 then mVc (0 ≤ i ∧ i < n) (K nx L r (h.set k (.inl (0, n, .inl (va_up f i.toNat x)))) bc bs) else False
      | _ => False
    | _ => False
  | .lastore => match st with
    | .inr (.inl x) :: .inl i :: .inr (.inr (some k)) :: r => match h[k]? with
      | some (.inl (1, n, .inl f)) => bif Nat.ble n 100000 then mVc (0 ≤ i ∧ i < n) (K nx L r (h.set k (.inl (1, n, .inl (va_up f i.toNat x)))) bc bs) else False
      | _ => False
    | _ => False
  | .bastore => match st with
    | .inl x :: .inl i :: .inr (.inr (some k)) :: r => match h[k]? with
      | some (.inl (2, n, .inl f)) => bif Nat.ble n 100000 then mVc (0 ≤ i ∧ i < n) (K nx L r (h.set k (.inl (2, n, .inl (va_up f i.toNat (x.bmod 256))))) bc bs) else False
      | some (.inl (3, n, .inl f)) => bif Nat.ble n 100000 then mVc (0 ≤ i ∧ i < n ∧ (x = 0 ∨ x = 1)) (K nx L r (h.set k (.inl (3, n, .inl (va_up f i.toNat x)))) bc bs) else False
      | _ => False
    | _ => False
  | .ireturn => match st, M.2.2.2.1 with
    | [.inl x], some .int => Q (.inl (some (.inl x))) h
    | [.inl x], some .boolean => mVc (x = 0 ∨ x = 1) (Q (.inl (some (.inl x))) h)
    | _, _ => False
  | .lreturn => match st, M.2.2.2.1 with
    | [.inr (.inl x)], some .long => Q (.inl (some (.inr (.inl x)))) h
    | _, _ => False
  | .areturn => match st, M.2.2.2.1 with
    | [.inr (.inr (some x))], some (.object _) => Q (.inl (some (.inr (.inr (some x))))) h
    | _, _ => False
  | .return_ => match st, M.2.2.2.1 with
    | [], none => Q (.inl none) h
    | _, _ => False
  | .new i => match mLk (mXt M.2.2.2.2.2.1) i with
    | some (n, ic) => match mLk tb (pc + 3), mLk tb (pc + 4) with
      | some (.dup, _, _), some (.ldc is, n1, _) => match mLk tb n1, mLk (mSt 9) is with
        | some (.invokespecial ic2, n2, _), some _ => match mLk tb n2 with
          | some (.athrow, _, _) => bif Nat.beq ic ic2 && Nat.beq M.2.2.2.2.2.1 9 && Nat.ble 1 bc && Nat.ble 6 bs && Nat.ble (zCs st) 8 && M.2.2.2.2.1.isEmpty then Q (.inr n) h else False
          | _ => False
        | _, _ => False
      | some (.dup, _, _), some (.ldc_w is, n1, _) => match mLk tb n1, mLk (mSt 9) is with
        | some (.invokespecial ic2, n2, _), some _ => match mLk tb n2 with
          | some (.athrow, _, _) => bif Nat.beq ic ic2 && Nat.beq M.2.2.2.2.2.1 9 && Nat.ble 1 bc && Nat.ble 6 bs && Nat.ble (zCs st) 8 && M.2.2.2.2.1.isEmpty then Q (.inr n) h else False
          | _ => False
        | _, _ => False
      | _, _ => False
    | none => match mLk (mCt M.2.2.2.2.2.1) i with
      | some ci => match vwCl[ci]? with
        | some r => bif Nat.ble 1 bc && Nat.ble r.2.2 bs then mVc (mStab (h.map zC) (zL L) (st.map zT) ∧ h.length < mSB) (K nx L (.inr (.inr (some h.length)) :: st) (h ++ [.inr (ci, zDf ci r.2.2)]) (bc - 1) (bs - r.2.2)) else False
        | none => False
      | none => False
  | .newarray a => match st, mAt a with
    | .inl n :: r, some (t, _) => bif Nat.ble 1 bc then mVc (0 ≤ n ∧ n ≤ 100000 ∧ n.toNat ≤ bs ∧ mStab (h.map zC) (zL L) (r.map zT) ∧ h.length < mSB) (K nx L (.inr (.inr (some h.length)) :: r) (h ++ [.inl (t, n.toNat, .inl (fun _ => 0))]) (bc - 1) (bs - n.toNat)) else False
    | _, _ => False
  | .anewarray i => match st, mLk (mCt M.2.2.2.2.2.1) i with
    | .inl n :: r, some 7 => bif Nat.ble 1 bc then mVc (0 ≤ n ∧ n ≤ 100000 ∧ n.toNat ≤ bs ∧ mStab (h.map zC) (zL L) (r.map zT) ∧ h.length < mSB) (K nx L (.inr (.inr (some h.length)) :: r) (h ++ [.inl (4, n.toNat, .inr (fun _ => none))]) (bc - 1) (bs - n.toNat)) else False
    | .inl n :: r, some 2 => bif Nat.ble 1 bc then mVc (0 ≤ n ∧ n ≤ 100000 ∧ n.toNat ≤ bs ∧ mStab (h.map zC) (zL L) (r.map zT) ∧ h.length < mSB) (K nx L (.inr (.inr (some h.length)) :: r) (h ++ [.inl (5, n.toNat, .inr (fun _ => none))]) (bc - 1) (bs - n.toNat)) else False
    | _, _ => False
  | .aastore => match st with
    | .inr (.inr (some kv)) :: .inl i :: .inr (.inr (some k)) :: r => match h[k]?, h[kv]? with
      | some (.inl (4, n, .inr f)), some (.inr (7, _)) => bif Nat.ble n 100000 then mVc (0 ≤ i ∧ i < n) (K nx L r (h.set k (.inl (4, n, .inr (va_up f i.toNat (some kv))))) bc bs) else False
      | some (.inl (5, n, .inr f)), some (.inr (2, _)) => bif Nat.ble n 100000 then mVc (0 ≤ i ∧ i < n) (K nx L r (h.set k (.inl (5, n, .inr (va_up f i.toNat (some kv))))) bc bs) else False
      | _, _ => False
    | _ => False
  | .invokevirtual i => match mLk (mMt M.2.2.2.2.2.1) i with
    | some (kd, n, M2) => zPop n st [] (fun as r => match r with
      | .inr (.inr (some k)) :: rest => match h[k]? with
        | some (.inr (ci, _)) => bif Nat.beq ci M2.2.2.2.2.2.1 then (match kd with
          | 0 => zInv X M d Q tb K pc nx L h bc bs 0 M2 (.inr (.inr (some k)) :: as) rest
          | 1 => zInv X M d Q tb K pc nx L h bc bs 1 M2 (.inr (.inr (some k)) :: as) rest
          | _ => False) else False
        | _ => False
      | _ => False)
    | none => False
  | .invokestatic i => match mLk (mMt M.2.2.2.2.2.1) i with
    | some (kd, n, M2) => match kd with
      | 2 => zPop n st [] (fun as rest => zInv X M d Q tb K pc nx L h bc bs 2 M2 as rest)
      | 3 => zPop n st [] (fun as rest => zInv X M d Q tb K pc nx L h bc bs 3 M2 as rest)
      | 8 => zPop n st [] (fun as rest => zInv X M d Q tb K pc nx L h bc bs 8 M2 as rest)
      | 7 => match st with
        | .inl n :: .inl dp :: .inr (.inr (some k1)) :: .inl sp :: .inr (.inr (some k0)) :: r => match h[k0]?, h[k1]? with
          | some (.inl (0, m0, .inl f)), some (.inl (0, m1, .inl g)) => bif Nat.ble (zCs r) 8 && Nat.ble m0 100000 && Nat.ble m1 100000 then mVc (0 ≤ sp ∧ 0 ≤ dp ∧ 0 ≤ n ∧ sp + n ≤ m0 ∧ dp + n ≤ m1) (K nx L r (h.set k1 (.inl (0, m1, .inl (va_cpy f g sp.toNat dp.toNat n.toNat)))) bc bs) else False
          | _, _ => False
        | _ => False
      | 10 => match st with
        | .inl y :: .inl x :: r => bif Nat.ble (zCs r) 8 then mVc (rI x ∧ rI y) (K nx L (.inl (min x y) :: r) h bc bs) else False
        | _ => False
      | 11 => match st with
        | .inl y :: .inl x :: r => bif Nat.ble (zCs r) 8 then mVc (rI x ∧ rI y) (K nx L (.inl (max x y) :: r) h bc bs) else False
        | _ => False
      | 12 => match st with
        | .inl x :: r => bif Nat.ble (zCs r) 8 then mVc (rI x) (K nx L (.inl (max x (-x)) :: r) h bc bs) else False
        | _ => False
      | 13 => match st with
        | .inr (.inl y) :: .inr (.inl x) :: r => bif Nat.ble (zCs r) 8 then mVc (rL x ∧ rL y) (K nx L (.inr (.inl (max x y)) :: r) h bc bs) else False
        | _ => False
      | _ => False
    | none => False
  | .invokespecial i => match mLk (mMt M.2.2.2.2.2.1) i with
    | some (kd, n, M2) => match kd with
      | 4 => zPop n st [] (fun as r => match r with
        | .inr (.inr (some k)) :: rest => zInv X M d Q tb K pc nx L h bc bs 4 M2 (.inr (.inr (some k)) :: as) rest
        | _ => False)
      | 5 => zPop n st [] (fun as r => match r with
        | .inr (.inr (some k)) :: rest => zInv X M d Q tb K pc nx L h bc bs 5 M2 (.inr (.inr (some k)) :: as) rest
        | _ => False)
      | 6 => match st with
        | .inr (.inr (some _)) :: r => bif Nat.ble (zCs r) 8 then K nx L r h bc bs else False
        | _ => False
      | _ => False
    | none => False
  | _ => False
def zRun (X : mX) (M : mM) (d : Nat) (Q : zO → zH → Prop) (tb : mTb) (cuts : List Nat) : Nat → zK
  | 0, pc, L, st, h, bc, bs => zWP X M d Q pc L st h bc bs
  | f + 1, pc, L, st, h, bc, bs => match mLk tb pc with
    | some (i, nx, tg) => zOp X M d Q tb (fun pc L st h bc bs => bif cuts.elem pc then zWP X M d Q pc L st h bc bs else zRun X M d Q tb cuts f pc L st h bc bs) i nx tg pc L st h bc bs
    | none => False
