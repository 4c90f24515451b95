/-! doubles up to which NaN: cn -/
def cn (x : UInt64) : UInt64 := if isNaN64 x = true then 0x7ff8000000000000 else x
theorem fp_nan {x : UInt64} : isNaN64 x = true ↔ FP.Core.val64 x = .nan := by
  rw [← FP.Core.dIsNaN_iff, FP.Core.isNaN_bits, isNaN64_iff]
  have h : x.toNat &&& 0x7fffffffffffffff = x.toNat % 2 ^ 63 := Nat.and_two_pow_sub_one_eq_mod x.toNat 63
  rw [h]
theorem fp_nan0 : isNaN64 0x7ff8000000000000 = true := by decide +kernel
theorem cn_nan {x : UInt64} (h : isNaN64 x = true) : cn x = 0x7ff8000000000000 := if_pos h
theorem cn_num {x : UInt64} (h : ¬ isNaN64 x = true) : cn x = x := if_neg h
theorem cn_isn (x : UInt64) : isNaN64 (cn x) = isNaN64 x := by
  by_cases h : isNaN64 x = true
  · rw [cn_nan h, h]; exact fp_nan0
  · rw [cn_num h]
theorem cn_cn (x : UInt64) : cn (cn x) = cn x := by
  by_cases h : isNaN64 x = true
  · rw [cn_nan (x := cn x) (by rw [cn_isn]; exact h), cn_nan h]
  · rw [cn_num (x := cn x) (by rw [cn_isn]; exact h)]
theorem cn_val (x : UInt64) : FP.Core.val64 (cn x) = FP.Core.val64 x := by
  by_cases h : isNaN64 x = true
  · rw [fp_nan.mp h, cn_nan h]; exact fp_nan.mp fp_nan0
  · rw [cn_num h]
theorem cn_al {r v : UInt64} (h : alike64 r v = true) : cn r = cn v := by
  unfold alike64 at h
  rw [Bool.or_eq_true, Bool.and_eq_true, decide_eq_true_eq] at h
  rcases h with rfl | ⟨h1, h2⟩
  · rfl
  · rw [cn_nan h1, cn_nan h2]
theorem cn_eq_num {x y : UInt64} (h : cn x = cn y) (hx : ¬ isNaN64 x = true) : x = y := by
  have hy : ¬ isNaN64 y = true := by rw [← cn_isn, ← h, cn_isn]; exact hx
  rw [cn_num hx, cn_num hy] at h
  exact h
/-- the four operations, and the comparison, on doubles up to NaN -/
def Ad (x y : UInt64) : UInt64 := cn (FP.dadd x y)
def Sb (x y : UInt64) : UInt64 := cn (FP.dsub x y)
def Mu (x y : UInt64) : UInt64 := cn (FP.dmul x y)
def Dv (x y : UInt64) : UInt64 := cn (FP.ddiv x y)
theorem fp_add {a b c d : UInt64} (h : FP.Core.val64 a = FP.Core.val64 c) (g : FP.Core.val64 b = FP.Core.val64 d) : FP.dadd a b = FP.dadd c d := by
  show FP.Core.of64 (FP.Core.round FP.Core.b64 (FP.Core.exactSum (FP.Core.val64 a) (FP.Core.val64 b))) = FP.Core.of64 (FP.Core.round FP.Core.b64 (FP.Core.exactSum (FP.Core.val64 c) (FP.Core.val64 d)))
  rw [h, g]
theorem fp_sub {a b c d : UInt64} (h : FP.Core.val64 a = FP.Core.val64 c) (g : FP.Core.val64 b = FP.Core.val64 d) : FP.dsub a b = FP.dsub c d := by
  show FP.Core.of64 (FP.Core.round FP.Core.b64 (FP.Core.exactSum (FP.Core.val64 a) (FP.Core.negate (FP.Core.val64 b)))) = FP.Core.of64 (FP.Core.round FP.Core.b64 (FP.Core.exactSum (FP.Core.val64 c) (FP.Core.negate (FP.Core.val64 d))))
  rw [h, g]
theorem fp_mul {a b c d : UInt64} (h : FP.Core.val64 a = FP.Core.val64 c) (g : FP.Core.val64 b = FP.Core.val64 d) : FP.dmul a b = FP.dmul c d := by
  show FP.Core.of64 (FP.Core.round FP.Core.b64 (FP.Core.exactProduct (FP.Core.val64 a) (FP.Core.val64 b))) = FP.Core.of64 (FP.Core.round FP.Core.b64 (FP.Core.exactProduct (FP.Core.val64 c) (FP.Core.val64 d)))
  rw [h, g]
theorem fp_div {a b c d : UInt64} (h : FP.Core.val64 a = FP.Core.val64 c) (g : FP.Core.val64 b = FP.Core.val64 d) : FP.ddiv a b = FP.ddiv c d := by
  show FP.Core.of64 (FP.Core.quotient FP.Core.b64 (FP.Core.val64 a) (FP.Core.val64 b)) = FP.Core.of64 (FP.Core.quotient FP.Core.b64 (FP.Core.val64 c) (FP.Core.val64 d))
  rw [h, g]
theorem fp_cmp {a b c d : UInt64} (h : FP.Core.val64 a = FP.Core.val64 c) (g : FP.Core.val64 b = FP.Core.val64 d) : FP.dcmp a b = FP.dcmp c d := by
  show FP.Core.order (FP.Core.val64 a) (FP.Core.val64 b) = FP.Core.order (FP.Core.val64 c) (FP.Core.val64 d)
  rw [h, g]
theorem cn_v {x X : UInt64} (h : cn x = X) : FP.Core.val64 x = FP.Core.val64 X := by rw [← h, cn_val]
theorem cn_add {r x y X Y : UInt64} (h : alike64 r (FP.dadd x y) = true) (hx : cn x = X) (hy : cn y = Y) : cn r = Ad X Y := by
  rw [cn_al h, Ad, fp_add (cn_v hx) (cn_v hy)]
theorem cn_sub {r x y X Y : UInt64} (h : alike64 r (FP.dsub x y) = true) (hx : cn x = X) (hy : cn y = Y) : cn r = Sb X Y := by
  rw [cn_al h, Sb, fp_sub (cn_v hx) (cn_v hy)]
theorem cn_mul {r x y X Y : UInt64} (h : alike64 r (FP.dmul x y) = true) (hx : cn x = X) (hy : cn y = Y) : cn r = Mu X Y := by
  rw [cn_al h, Mu, fp_mul (cn_v hx) (cn_v hy)]
theorem cn_div {r x y X Y : UInt64} (h : alike64 r (FP.ddiv x y) = true) (hx : cn x = X) (hy : cn y = Y) : cn r = Dv X Y := by
  rw [cn_al h, Dv, fp_div (cn_v hx) (cn_v hy)]
theorem cn_cmp {x y X Y : UInt64} (hx : cn x = X) (hy : cn y = Y) : FP.dcmp x y = FP.dcmp X Y := fp_cmp (cn_v hx) (cn_v hy)
/-- an int as a double is no NaN -/
theorem cn_i2d (a : Int32) : cn (FP.i2d a) = FP.i2d a := by
  apply cn_num
  intro h
  have h1 := fp_nan.mp h
  have h2 : FP.dcmp (FP.i2d a) (FP.i2d a) = some (compare a.toInt a.toInt) := FP.Core.dcmp_int (FP.Core.i2d_int a) (FP.Core.i2d_int a)
  have h3 : FP.dcmp (FP.i2d a) (FP.i2d a) = none := (FP.Core.dcmp_none _ _).mpr (Or.inl h1)
  rw [h3] at h2
  cases h2
