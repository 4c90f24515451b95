/-! the chart, side by side: the class keeps the last results as bits and counts those that are set, the reference looks back -/
def bv (f : Nat → Bool) : Nat → Nat | 0 => 0 | j + 1 => bv f j + (if f j = true then 2 ^ j else 0)
def ct (f : Nat → Bool) : Nat → Nat | 0 => 0 | j + 1 => if f j = true then ct f j + 1 else ct f j
theorem bv_lt (f : Nat → Bool) : ∀ n, bv f n < 2 ^ n
  | 0 => Nat.one_pos
  | n + 1 => by
    have := bv_lt f n
    have e : (2 : Nat) ^ (n + 1) = 2 ^ n + 2 ^ n := by rw [Nat.pow_succ]; omega
    show bv f n + _ < _
    split <;> omega
theorem bv_4 (f : Nat → Bool) : ∀ n, bv f (4 + n) = bv f 4 + 16 * bv (fun j => f (4 + j)) n
  | 0 => rfl
  | n + 1 => by
    show bv f (4 + n) + (if f (4 + n) = true then 2 ^ (4 + n) else 0) = bv f 4 + 16 * (bv (fun j => f (4 + j)) n + (if f (4 + n) = true then 2 ^ n else 0))
    rw [bv_4 f n]
    have e : (2 : Nat) ^ (4 + n) = 16 * 2 ^ n := by rw [Nat.pow_add]
    split <;> omega
theorem ct_4 (f : Nat → Bool) : ∀ n, ct f (4 + n) = ct f 4 + ct (fun j => f (4 + j)) n
  | 0 => rfl
  | n + 1 => by
    show (if f (4 + n) = true then ct f (4 + n) + 1 else ct f (4 + n)) = ct f 4 + (if f (4 + n) = true then ct (fun j => f (4 + j)) n + 1 else ct (fun j => f (4 + j)) n)
    rw [ct_4 f n]
    split <;> omega
def g1 (m x : Nat) : Nat := x - (x / 2 &&& m)
def g2 (m y : Nat) : Nat := (y &&& m) + (y / 4 &&& m)
def pcT (r : Nat) : Nat := g2 3 (g1 5 r)
theorem pcT_bv (f : Nat → Bool) : pcT (bv f 4) = ct f 4 := by
  unfold bv bv bv bv bv ct ct ct ct ct
  cases f 0 <;> cases f 1 <;> cases f 2 <;> cases f 3 <;> decide
theorem and16 (x m : Nat) : x &&& m = (x % 16 &&& m % 16) + 16 * (x / 16 &&& m / 16) := by
  have h1 : (x &&& m) % 2 ^ 4 = (x % 2 ^ 4) &&& (m % 2 ^ 4) := Nat.and_mod_two_pow
  have h2 : (x &&& m) / 2 ^ 4 = (x / 2 ^ 4) &&& (m / 2 ^ 4) := Nat.and_div_two_pow
  have h3 := Nat.div_add_mod (x &&& m) (2 ^ 4)
  rw [h1, h2] at h3
  rw [show (2 : Nat) ^ 4 = 16 from rfl] at h3
  omega
theorem m5 : ∀ q, q < 2 → ∀ r, r < 16 → ((8 * q + r / 2) % 16 &&& 5) = (r / 2 &&& 5) := by decide +kernel
theorem m3 : ∀ q, q < 4 → ∀ r, r < 16 → ((4 * q + r / 4) % 16 &&& 3) = (r / 4 &&& 3) := by decide +kernel
theorem r5 : ∀ r, r < 16 → (r / 2 &&& 5) ≤ r ∧ g1 5 r < 16 := by decide +kernel
theorem g1_s {m q r : Nat} (hr : r < 16) (hm : m % 16 = 5) : g1 m (r + 16 * q) = g1 5 r + 16 * g1 (m / 16) q := by
  unfold g1
  rw [and16 ((r + 16 * q) / 2) m, hm]
  have e1 : (r + 16 * q) / 2 % 16 = (8 * (q % 2) + r / 2) % 16 := by omega
  have e2 : (r + 16 * q) / 2 / 16 = q / 2 := by omega
  rw [e1, e2, m5 (q % 2) (by omega) r hr]
  have h1 := (r5 r hr).1
  have h2 : (q / 2 &&& m / 16) ≤ q := Nat.le_trans Nat.and_le_left (by omega)
  omega
theorem g2_s {m q r : Nat} (hr : r < 16) (hm : m % 16 = 3) : g2 m (r + 16 * q) = g2 3 r + 16 * g2 (m / 16) q := by
  unfold g2
  rw [and16 (r + 16 * q) m, and16 ((r + 16 * q) / 4) m, hm]
  have e0 : (r + 16 * q) % 16 = r := by omega
  have e00 : (r + 16 * q) / 16 = q := by omega
  have e1 : (r + 16 * q) / 4 % 16 = (4 * (q % 4) + r / 4) % 16 := by omega
  have e2 : (r + 16 * q) / 4 / 16 = q / 4 := by omega
  rw [e0, e00, e1, e2, m3 (q % 4) (by omega) r hr]
  omega
theorem g12_s {m n q r : Nat} (hr : r < 16) (hm : m % 16 = 5) (hn : n % 16 = 3) : g2 n (g1 m (r + 16 * q)) = pcT r + 16 * g2 (n / 16) (g1 (m / 16) q) := by
  rw [g1_s hr hm, g2_s (r5 r hr).2 hn]
  rfl
def g3 (z : Nat) : Nat := z + z / 16 &&& 252645135
def gF (z : Nat) : Nat := (g3 z + g3 z / 256) + (g3 z + g3 z / 256) / 65536 &&& 63
theorem gF_v : ∀ a, a < 5 → ∀ b, b < 5 → ∀ c, c < 5 → ∀ d, d < 5 → ∀ e, e < 5 → gF (a + 16 * (b + 16 * (c + 16 * (d + 16 * e)))) = a + (b + (c + (d + e))) := by decide +kernel
theorem ct_le (f : Nat → Bool) : ∀ n, ct f n ≤ n
  | 0 => Nat.le_refl _
  | n + 1 => by
    have := ct_le f n
    show (if f n = true then ct f n + 1 else ct f n) ≤ n + 1
    split <;> omega
theorem b16 (f : Nat → Bool) : bv f 4 < 16 := bv_lt f 4
theorem gF_bv (f : Nat → Bool) : gF (g2 858993459 (g1 1431655765 (bv f 20))) = ct f 20 := by
  have e : bv f 20 = bv f 4 + 16 * (bv (fun j => f (4 + j)) 4 + 16 * (bv (fun j => f (4 + (4 + j))) 4 + 16 * (bv (fun j => f (4 + (4 + (4 + j)))) 4 + 16 * (bv (fun j => f (4 + (4 + (4 + (4 + j))))) 4 + 16 * 0)))) := by
    rw [show (20 : Nat) = 4 + 16 from rfl, bv_4, show (16 : Nat) = 4 + 12 from rfl, bv_4 _ 12, show (12 : Nat) = 4 + 8 from rfl, bv_4 _ 8, show (8 : Nat) = 4 + 4 from rfl, bv_4 _ 4]
    rfl
  have c : ct f 20 = ct f 4 + (ct (fun j => f (4 + j)) 4 + (ct (fun j => f (4 + (4 + j))) 4 + (ct (fun j => f (4 + (4 + (4 + j)))) 4 + ct (fun j => f (4 + (4 + (4 + (4 + j))))) 4))) := by
    rw [show (20 : Nat) = 4 + 16 from rfl, ct_4, show (16 : Nat) = 4 + 12 from rfl, ct_4 _ 12, show (12 : Nat) = 4 + 8 from rfl, ct_4 _ 8, show (8 : Nat) = 4 + 4 from rfl, ct_4 _ 4]
  rw [e, c, g12_s (b16 _) (by decide) (by decide), g12_s (b16 _) (by decide) (by decide), g12_s (b16 _) (by decide) (by decide), g12_s (b16 _) (by decide) (by decide), g12_s (b16 _) (by decide) (by decide)]
  rw [pcT_bv, pcT_bv, pcT_bv, pcT_bv, pcT_bv]
  have hz : g2 (858993459 / 16 / 16 / 16 / 16 / 16) (g1 (1431655765 / 16 / 16 / 16 / 16 / 16) 0) = 0 := by decide
  rw [hz, Nat.mul_zero, Nat.add_zero]
  have h := fun g : Nat → Bool => Nat.lt_succ_of_le (ct_le g 4)
  exact gF_v _ (h _) _ (h _) _ (h _) _ (h _) _ (h _)
/-! the ints behind -/
theorem xI_and (a b : Nat) : nI a &&& nI b = nI (a &&& b) := Int32.toBitVec_inj.mp (by
  rw [Int32.toBitVec_and]
  show BitVec.ofNat 32 a &&& BitVec.ofNat 32 b = BitVec.ofNat 32 (a &&& b)
  apply BitVec.eq_of_toNat_eq
  simp only [BitVec.toNat_and, BitVec.toNat_ofNat, Nat.and_mod_two_pow])
theorem xI_or (a b : Nat) : nI a ||| nI b = nI (a ||| b) := Int32.toBitVec_inj.mp (by
  rw [Int32.toBitVec_or]
  show BitVec.ofNat 32 a ||| BitVec.ofNat 32 b = BitVec.ofNat 32 (a ||| b)
  apply BitVec.eq_of_toNat_eq
  simp only [BitVec.toNat_or, BitVec.toNat_ofNat, Nat.or_mod_two_pow])
theorem xI_u : ∀ j, j < 32 → (UInt32.ofNat j &&& Int32.toUInt32 31).toNat % 32 = j := by decide +kernel
theorem bcU_n {x j : Nat} (hx : x < 2 ^ 31) (hj : j < 32) : bcU (nI x) (nI j) = nI (x / 2 ^ j) := by
  unfold bcU
  apply Int32.toBitVec_inj.mp
  apply BitVec.eq_of_toNat_eq
  show ((nI x).toUInt32 >>> ((nI j).toUInt32 &&& Int32.toUInt32 31)).toBitVec.toNat = (BitVec.ofNat 32 (x / 2 ^ j)).toNat
  have e : ((nI x).toUInt32).toNat = x := by
    show (BitVec.ofNat 32 x).toNat = x
    rw [BitVec.toNat_ofNat, Nat.mod_eq_of_lt (by omega)]
  have e2 : ((nI j).toUInt32 &&& Int32.toUInt32 31).toNat % 32 = j := xI_u j hj
  have h := UInt32.toNat_shiftRight (nI x).toUInt32 ((nI j).toUInt32 &&& Int32.toUInt32 31)
  rw [e, e2, Nat.shiftRight_eq_div_pow] at h
  have hle : x / 2 ^ j ≤ x := Nat.div_le_self _ _
  rw [BitVec.toNat_ofNat, Nat.mod_eq_of_lt (by omega)]
  exact h
theorem bcF_n {x : Nat} (hx : x < 2 ^ 20) : bcF (nI x) = nI (gF (g2 858993459 (g1 1431655765 x))) := by
  have u : ∀ {y j : Nat}, y < 2 ^ 31 → j < 32 → bcU (nI y) (nI j) = nI (y / 2 ^ j) := fun h1 h2 => bcU_n h1 h2
  have h1 : (x / 2 &&& 1431655765) ≤ x := Nat.le_trans Nat.and_le_left (Nat.div_le_self _ _)
  have e1 : bc1 (nI x) = nI (g1 1431655765 x) := by
    show nI x - (bcU (nI x) (nI 1) &&& nI 1431655765) = _
    rw [u (by omega) (by decide), xI_and, Nat.pow_one, pk_sub h1]
    rfl
  have hy : g1 1431655765 x < 2 ^ 20 := by unfold g1; omega
  have e2 : bc2 (nI (g1 1431655765 x)) = nI (g2 858993459 (g1 1431655765 x)) := by
    generalize g1 1431655765 x = y at hy ⊢
    show (nI y &&& nI 858993459) + (bcU (nI y) (nI 2) &&& nI 858993459) = _
    rw [u (by omega) (by decide), xI_and, xI_and, nI_add]
    rfl
  have hz : g2 858993459 (g1 1431655765 x) < 2 ^ 21 := by
    generalize g1 1431655765 x = y at hy ⊢
    unfold g2
    have a1 : (y &&& 858993459) ≤ y := Nat.and_le_left
    have a2 : (y / 4 &&& 858993459) ≤ y / 4 := Nat.and_le_left
    omega
  unfold bcF
  rw [e1, e2]
  generalize g2 858993459 (g1 1431655765 x) = z at hz ⊢
  have e3 : bc3 (nI z) = nI (g3 z) := by
    show (nI z + bcU (nI z) (nI 4)) &&& nI 252645135 = _
    rw [u (by omega) (by decide), nI_add, xI_and]
    rfl
  have hw : g3 z < 2 ^ 22 := by
    unfold g3
    have a1 : (z + z / 16 &&& 252645135) ≤ z + z / 16 := Nat.and_le_left
    omega
  rw [e3]
  have e4 : bc4 (nI (g3 z)) = nI (g3 z + g3 z / 256) := by
    show nI (g3 z) + bcU (nI (g3 z)) (nI 8) = _
    rw [u (by omega) (by decide), nI_add]
  have e5 : bc5 (nI (g3 z + g3 z / 256)) = nI ((g3 z + g3 z / 256) + (g3 z + g3 z / 256) / 65536) := by
    show nI _ + bcU (nI _) (nI 16) = _
    rw [u (by omega) (by decide), nI_add]
  rw [e4, e5]
  show nI _ &&& nI 63 = _
  rw [xI_and]
  rfl
theorem bv_cut (f : Nat → Bool) (z : Nat) : ∀ k, bv (fun j => f j && decide (j < z)) (z + k) = bv f z
  | 0 => by
    have : ∀ n, n ≤ z → bv (fun j => f j && decide (j < z)) n = bv f n := by
      intro n
      induction n with
      | zero => intro _; rfl
      | succ n ih =>
        intro h
        show bv _ n + (if (f n && decide (n < z)) = true then 2 ^ n else 0) = bv f n + (if f n = true then 2 ^ n else 0)
        rw [ih (by omega), show decide (n < z) = true from decide_eq_true (by omega), Bool.and_true]
    exact this z (Nat.le_refl _)
  | k + 1 => by
    show bv _ (z + k) + (if (f (z + k) && decide (z + k < z)) = true then 2 ^ (z + k) else 0) = _
    rw [bv_cut f z k, show decide (z + k < z) = false from decide_eq_false (by omega), Bool.and_false, if_neg Bool.false_ne_true, Nat.add_zero]
theorem ct_cut (f : Nat → Bool) (z : Nat) : ∀ k, ct (fun j => f j && decide (j < z)) (z + k) = ct f z
  | 0 => by
    have : ∀ n, n ≤ z → ct (fun j => f j && decide (j < z)) n = ct f n := by
      intro n
      induction n with
      | zero => intro _; rfl
      | succ n ih =>
        intro h
        show (if (f n && decide (n < z)) = true then ct _ n + 1 else ct _ n) = (if f n = true then ct f n + 1 else ct f n)
        rw [ih (by omega), show decide (n < z) = true from decide_eq_true (by omega), Bool.and_true]
    exact this z (Nat.le_refl _)
  | k + 1 => by
    show (if (f (z + k) && decide (z + k < z)) = true then ct _ (z + k) + 1 else ct _ (z + k)) = _
    rw [ct_cut f z k, show decide (z + k < z) = false from decide_eq_false (by omega), Bool.and_false, if_neg Bool.false_ne_true]
/-- how many of the last z results are set -/
theorem bcF_bv (f : Nat → Bool) {z : Nat} (hz : z ≤ 20) : bcF (nI (bv f z)) = nI (ct f z) := by
  have h1 := bv_cut f z (20 - z)
  have h2 := ct_cut f z (20 - z)
  rw [show z + (20 - z) = 20 by omega] at h1 h2
  rw [← h1, ← h2, bcF_n (bv_lt _ 20), gF_bv]
