/-! odds: greatest common divisors, side by side -/
theorem nI_up {x : Int32} {m : Nat} (h0 : ¬ x < 0) (h1 : ¬ nI m < x) (hm : m < 2 ^ 31) : ∃ k, k ≤ m ∧ x = nI k := by
  have e0 : 0 ≤ x.toInt := by
    have := h0
    rw [Int32.lt_iff_toInt_lt] at this
    simpa using this
  have e1 : x.toInt ≤ m := by
    have := h1
    rw [Int32.lt_iff_toInt_lt, nI_toInt hm] at this
    omega
  refine ⟨x.toInt.toNat, by omega, Int32.toInt_inj.mp ?_⟩
  rw [nI_toInt (by omega)]
  omega
def cN (N : Nat) : Nat → Nat | 0 => 1 | k + 1 => cN N k * (N - k) / (k + 1)
def sN (N a h : Nat) : Nat → Nat | 0 => 0 | k + 1 => sN N a h k + cN N k * a ^ k * h ^ (N - k)
theorem cN_lt : ∀ N, N < 13 → ∀ k, k < 14 → cN N k < 1024 := by decide +kernel
theorem powL_n (b : Nat) : ∀ n, powL (lN b) n = lN (b ^ n)
  | 0 => rfl
  | n + 1 => by
    show powL (lN b) n * lN b = _
    rw [powL_n b n, lN_mul]
    rfl
theorem wfC_n {N : Nat} (hN : N < 13) : ∀ k, k < 14 → wfC N k = lN (cN N k)
  | 0, _ => rfl
  | k + 1, hk => by
    have hb := cN_lt N hN k (by omega)
    show wfC N k * (nI (N - k)).toInt64 / (nI (k + 1)).toInt64 = _
    rw [wfC_n hN k (by omega), nI_l (by omega), nI_l (by omega), lN_mul, pk_lDiv (Nat.lt_of_le_of_lt (Nat.mul_le_mul (Nat.le_of_lt hb) (show N - k ≤ 13 by omega)) (by decide)) (by omega) (by omega)]
    rfl
theorem wfS_n {N a h : Nat} (hN : N < 13) : ∀ k, k < 14 → wfS N (lN a) (lN h) k = lN (sN N a h k)
  | 0, _ => rfl
  | k + 1, hk => by
    show wfS N (lN a) (lN h) k + wfC N k * powL (lN a) k * powL (lN h) (N - k) = _
    rw [wfS_n hN k (by omega), wfC_n hN k (by omega), powL_n, powL_n, lN_mul, lN_mul, lN_add]
    rfl
theorem sN_le {N a h : Nat} (hN : N < 13) (ha : a ≤ 16) (hh : h ≤ 16) : ∀ k, k ≤ N + 1 → sN N a h k ≤ k * 2 ^ 58
  | 0, _ => Nat.zero_le _
  | k + 1, hk => by
    have ih := sN_le hN ha hh k (by omega)
    have hc := cN_lt N hN k (by omega)
    have h1 : a ^ k ≤ 16 ^ k := Nat.pow_le_pow_left ha k
    have h2 : h ^ (N - k) ≤ 16 ^ (N - k) := Nat.pow_le_pow_left hh _
    have h3 : a ^ k * h ^ (N - k) ≤ 16 ^ N := by
      refine Nat.le_trans (Nat.mul_le_mul h1 h2) ?_
      rw [← Nat.pow_add, show k + (N - k) = N by omega]
      exact Nat.le_refl _
    have h4 : (16 : Nat) ^ N ≤ 16 ^ 12 := Nat.pow_le_pow_right (by decide) (by omega)
    have h5 : cN N k * a ^ k * h ^ (N - k) ≤ 1024 * 16 ^ 12 := by
      rw [Nat.mul_assoc]
      exact Nat.mul_le_mul (Nat.le_of_lt hc) (Nat.le_trans h3 h4)
    have h6 : (1024 : Nat) * 16 ^ 12 = 2 ^ 58 := by decide
    rw [h6] at h5
    show sN N a h k + cN N k * a ^ k * h ^ (N - k) ≤ (k + 1) * 2 ^ 58
    rw [Nat.succ_mul]
    exact Nat.add_le_add ih h5
theorem l_mod {x y : Nat} (hx : x < 2 ^ 63) (hy : y < 2 ^ 63) (h0 : 0 < y) : lN x - lN x / lN y * lN y = lN (x % y) := by
  rw [pk_lDiv hx h0 hy, lN_mul, lN_sub (Nat.div_mul_le_self x y)]
  congr 1
  have := Nat.div_add_mod x y
  rw [Nat.mul_comm] at this
  omega
theorem gcd_n : ∀ n x y : Nat, y ≤ x → x < 2 ^ 63 → (x + y) * 2 ^ n < 3 ^ n → gT (n + 1) (lN x) (lN y) ∧ gE (n + 1) (lN x) (lN y) = lN (Nat.gcd x y)
  | 0, x, y, _, _, h => by
    have hy : y = 0 := by omega
    subst hy
    exact ⟨Or.inl rfl, by rw [Nat.gcd_zero_right]; exact if_pos rfl⟩
  | n + 1, x, y, hyx, hx, h => by
    rcases Nat.eq_zero_or_pos y with q | q
    · subst q
      exact ⟨Or.inl rfl, by rw [Nat.gcd_zero_right]; exact if_pos rfl⟩
    · have hne : ¬ lN y = 0 := fun z => by
        have := (pk_lEQ (a := y) (b := 0) (by omega) (by decide)).mp z
        omega
      have hlt := Nat.mod_lt x q
      have hsum : y + x % y ≤ x := by
        have h1 := Nat.div_add_mod x y
        have h2 : 1 ≤ x / y := (Nat.le_div_iff_mul_le q).mpr (by omega)
        have h3 : y * 1 ≤ y * (x / y) := Nat.mul_le_mul_left y h2
        omega
      have hb : (y + x % y) * 2 ^ n < 3 ^ n := by
        have e1 : (x + y) * 2 ^ (n + 1) = 2 * (x + y) * 2 ^ n := by rw [Nat.pow_succ]; rw [Nat.mul_comm (2 ^ n) 2, ← Nat.mul_assoc, Nat.mul_comm (x + y) 2]
        have e2 : (3 : Nat) ^ (n + 1) = 3 * 3 ^ n := by rw [Nat.pow_succ, Nat.mul_comm]
        rw [e1, e2] at h
        have e3 : 3 * (y + x % y) ≤ 2 * (x + y) := by omega
        have e4 : 3 * (y + x % y) * 2 ^ n ≤ 2 * (x + y) * 2 ^ n := Nat.mul_le_mul_right _ e3
        have e5 : 3 * ((y + x % y) * 2 ^ n) < 3 * 3 ^ n := by
          rw [← Nat.mul_assoc]
          exact Nat.lt_of_le_of_lt e4 h
        exact Nat.lt_of_mul_lt_mul_left e5
      obtain ⟨g1, g2⟩ := gcd_n n y (x % y) (by omega) (by omega) hb
      have em := l_mod (x := x) (y := y) hx (by omega) q
      refine ⟨Or.inr (by rw [em]; exact g1), ?_⟩
      show (if lN y = 0 then lN x else gE (n + 1) (lN y) (lN x - lN x / lN y * lN y)) = _
      rw [if_neg hne, em, g2, Nat.gcd_comm x y, Nat.gcd_rec y x, Nat.gcd_comm (x % y) y]
theorem big32 : 2 ^ 64 * 2 ^ 998 < 3 ^ 998 := by decide +kernel
/-- both find the greatest common divisor, in whichever order -/
theorem gcd_s {x y : Nat} (hx : x < 2 ^ 62) (hy : y < 2 ^ 62) : gT 1000 (lN x) (lN y) ∧ gE 1000 (lN x) (lN y) = lN (Nat.gcd x y) := by
  have hbig : ∀ s : Nat, s < 2 ^ 64 → s * 2 ^ 998 < 3 ^ 998 := fun s hs => Nat.lt_of_le_of_lt (Nat.mul_le_mul_right _ (Nat.le_of_lt hs)) big32
  rcases Nat.eq_zero_or_pos y with q | q
  · subst q
    exact ⟨Or.inl rfl, by rw [Nat.gcd_zero_right]; exact if_pos rfl⟩
  · have hne : ¬ lN y = 0 := fun z => by
      have := (pk_lEQ (a := y) (b := 0) (by omega) (by decide)).mp z
      omega
    have hlt := Nat.mod_lt x q
    obtain ⟨g1, g2⟩ := gcd_n 998 y (x % y) (by omega) (by omega) (hbig _ (by omega))
    have em := l_mod (x := x) (y := y) (by omega) (by omega) q
    refine ⟨Or.inr (by rw [em]; exact g1), ?_⟩
    show (if lN y = 0 then lN x else gE 999 (lN y) (lN x - lN x / lN y * lN y)) = _
    rw [if_neg hne, em, g2, Nat.gcd_comm x y, Nat.gcd_rec y x, Nat.gcd_comm (x % y) y]
theorem odds_s {N u : Nat} {a b pt : Int32} (hN : N ≤ 12) (hin : bShare a b 16 = true) : gT 1000 (oddF N u a b) (oddA N b) ∧ ¬ gE 1000 (oddF N u a b) (oddA N b) = 0 ∧ oddV N u a b pt = oddM N u a b pt := by
  obtain ⟨h1, h2, h3, h4⟩ := bSh hin
  have hb0 : ¬ b < 0 := fun h => h1 (by
    rw [Int32.lt_iff_toInt_lt] at h ⊢
    have e0 : (0 : Int32).toInt = 0 := rfl
    have e1 : (1 : Int32).toInt = 1 := rfl
    omega)
  obtain ⟨b', hb', rfl⟩ := nI_up (m := 16) hb0 h2 (by decide)
  obtain ⟨a', ha', rfl⟩ := nI_up (m := b') h3 h4 (by omega)
  have hb1 : 1 ≤ b' := by
    rcases Nat.eq_zero_or_pos b' with q | q
    · subst q
      exact absurd (by decide) h1
    · exact q
  have eA : oddA N (nI b') = lN (b' ^ N) := by
    unfold oddA
    rw [nI_l (by omega), powL_n]
  have eF : oddF N u (nI a') (nI b') = lN (sN N a' (b' - a') (min N u + 1)) := by
    unfold oddF
    rw [pk_sub ha', nI_l (by omega), nI_l (by omega), wfS_n (by omega) _ (by omega)]
  have bF : sN N a' (b' - a') (min N u + 1) < 2 ^ 62 := by
    have := sN_le (N := N) (a := a') (h := b' - a') (by omega) (by omega) (by omega) (min N u + 1) (by omega)
    have h13 : (min N u + 1) * 2 ^ 58 ≤ 13 * 2 ^ 58 := Nat.mul_le_mul_right _ (by omega)
    omega
  have bA : b' ^ N < 2 ^ 62 := Nat.lt_of_le_of_lt (Nat.le_trans (Nat.pow_le_pow_left hb' N) (Nat.pow_le_pow_right (by decide) hN)) (show 16 ^ 12 < 2 ^ 62 by decide)
  have pA : 0 < b' ^ N := Nat.pow_pos hb1
  generalize b' ^ N = A at *
  generalize sN N a' (b' - a') (min N u + 1) = F at *
  obtain ⟨t1, g1⟩ := gcd_s bF bA
  obtain ⟨-, g2⟩ := gcd_s bA bF
  have gp : 0 < Nat.gcd F A := Nat.gcd_pos_of_pos_right F pA
  have gl : Nat.gcd F A ≤ A := Nat.gcd_le_right F pA
  have hV : ∃ v, v < 2 ^ 62 ∧ (if pt = 0 then lN F else lN A) = lN v := by
    split
    · exact ⟨F, bF, rfl⟩
    · exact ⟨A, bA, rfl⟩
  obtain ⟨v, hv, eV⟩ := hV
  rw [eA, eF]
  refine ⟨t1, ?_, ?_⟩
  · rw [g1]
    intro z
    have := (pk_lEQ (b := 0) (by omega) (by decide)).mp z
    omega
  · unfold oddV oddM
    rw [eA, eF, g1, g2, eV, Nat.gcd_comm A F]
    split
    · next hle =>
      have hg1 : Nat.gcd F A = 1 := by
        by_cases q : Nat.gcd F A = 1
        · exact q
        · exfalso
          have hh := (lg_cmp_le _ _).mp hle
          rw [Int64.le_iff_toInt_le, show (lN (Nat.gcd F A)).toInt = _ from lg_ofNat_toInt (by omega)] at hh
          have e1 : (1 : Int64).toInt = 1 := rfl
          omega
      rw [hg1, pk_lDiv (by omega) (by decide) (by decide), Nat.div_one]
    · rfl
