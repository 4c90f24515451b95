/-! the chart's relation, and a test over it -/
def cf (I : Im) (t j : Nat) : Bool := decide (j < t) && decide (¬ I 67 (t - 1 - j) = 0)
def RC (I : Im) (T : Nat) : Prop := ∃ z t s : Nat, I 49 0 = nI z ∧ I 53 16 = nI z ∧ 1 ≤ z ∧ z ≤ 20 ∧ I 49 1 = I 53 17 ∧ I 49 3 = nI s ∧ I 53 18 = nI s ∧ s ≤ 20 ∧ I 53 19 = nI t ∧ t ≤ T ∧ I 49 2 = nI (bv (cf I t) z)
theorem bv_cong {f g : Nat → Bool} : ∀ n, (∀ j, j < n → f j = g j) → bv f n = bv g n
  | 0, _ => rfl
  | n + 1, h => by
    show bv f n + (if f n = true then 2 ^ n else 0) = bv g n + (if g n = true then 2 ^ n else 0)
    rw [bv_cong n (fun j hj => h j (by omega)), h n (by omega)]
theorem ct_cong {f g : Nat → Bool} : ∀ n, (∀ j, j < n → f j = g j) → ct f n = ct g n
  | 0, _ => rfl
  | n + 1, h => by
    show (if f n = true then ct f n + 1 else ct f n) = (if g n = true then ct g n + 1 else ct g n)
    rw [ct_cong n (fun j hj => h j (by omega)), h n (by omega)]
def sh (b : Bool) (f : Nat → Bool) : Nat → Bool | 0 => b | j + 1 => f j
theorem bv_sh (b : Bool) (f : Nat → Bool) : ∀ n, bv (sh b f) (n + 1) = (if b = true then 1 else 0) + 2 * bv f n
  | 0 => by cases b <;> rfl
  | n + 1 => by
    show bv (sh b f) (n + 1) + (if f n = true then 2 ^ (n + 1) else 0) = (if b = true then 1 else 0) + 2 * (bv f n + (if f n = true then 2 ^ n else 0))
    rw [bv_sh b f n, Nat.pow_succ]
    by_cases q : f n = true
    · rw [if_pos q, if_pos q]; omega
    · rw [if_neg q, if_neg q]; omega
theorem ch_1 : ((1 : Int32) &&& 31).toBitVec.smod 32 = 1#32 := by decide +kernel
theorem ch_shl (x : Nat) : nI x <<< ((1 : Int32) &&& 31) = nI (2 * x) := by
  apply Int32.toBitVec_inj.mp
  rw [Int32.toBitVec_shiftLeft, ch_1]
  apply BitVec.eq_of_toNat_eq
  show (BitVec.ofNat 32 x <<< 1#32).toNat = (BitVec.ofNat 32 (2 * x)).toNat
  simp only [BitVec.shiftLeft_eq', BitVec.toNat_shiftLeft, BitVec.toNat_ofNat, Nat.shiftLeft_eq]
  rw [show (2 : Nat) ^ (1 % 2 ^ 32) = 2 from rfl]
  omega
theorem ch_mask : ∀ z, z < 21 → ((1 : Int32) <<< (nI z &&& 31)) - 1 = nI (2 ^ z - 1) := by decide +kernel
theorem chB_n {I : Im} {z : Nat} {f : Nat → Bool} {b : Bool} (h0 : I 49 0 = nI z) (hz : 1 ≤ z) (hz2 : z ≤ 20) (h2 : I 49 2 = nI (bv f z)) : chB I b = nI (bv (sh b f) z) := by
  obtain ⟨n, rfl⟩ : ∃ n, z = n + 1 := ⟨z - 1, by omega⟩
  have hb : zB b = nI (if b = true then 1 else 0) := by cases b <;> rfl
  have hlt : (if b = true then 1 else 0) < 2 ^ 1 := by split <;> decide
  have hbv := bv_lt (sh b f) (n + 1)
  unfold chB
  rw [h0, h2, ch_shl, ch_mask (n + 1) (by omega), hb, xI_or, xI_and]
  congr 1
  have e1 := Nat.two_pow_add_eq_or_of_lt hlt (bv f (n + 1))
  rw [Nat.pow_one] at e1
  rw [← e1, Nat.and_two_pow_sub_one_eq_mod]
  rw [bv_sh] at hbv ⊢
  have e2 : bv f (n + 1) = bv f n + (if f n = true then 2 ^ n else 0) := rfl
  have e3 : (2 : Nat) ^ (n + 1) = 2 * 2 ^ n := by rw [Nat.pow_succ, Nat.mul_comm]
  generalize hc : (if b = true then 1 else 0) = c at *
  rw [e2]
  by_cases q : f n = true
  · rw [if_pos q, show 2 * (bv f n + 2 ^ n) + c = (c + 2 * bv f n) + 2 ^ (n + 1) by omega, Nat.add_mod_right, Nat.mod_eq_of_lt hbv]
  · rw [if_neg q, Nat.add_zero, Nat.add_comm, Nat.mod_eq_of_lt hbv]
theorem mtN_ct (A : Im) (t : Nat) : ∀ c, mtN A t c = ct (fun j => decide (¬ A 67 (t - j) = 0)) c
  | 0 => rfl
  | c + 1 => by
    show (if A 67 (t - c) = 0 then mtN A t c else mtN A t c + 1) = (if decide (¬ A 67 (t - c) = 0) = true then ct _ c + 1 else ct _ c)
    rw [mtN_ct A t c]
    by_cases h : A 67 (t - c) = 0
    · rw [if_pos h, if_neg (by simp [h])]
    · rw [if_neg h, if_pos (by simp [h])]
theorem ct_min (g : Nat → Bool) (n : Nat) : ∀ z, ct g (min n z) = ct (fun j => decide (j < n) && g j) z
  | 0 => by rw [Nat.min_zero]; rfl
  | z + 1 => by
    show _ = (if (decide (z < n) && g z) = true then ct _ z + 1 else ct _ z)
    rw [← ct_min g n z]
    rcases Nat.lt_or_ge z n with q | q
    · rw [show min n (z + 1) = z + 1 by omega, show min n z = z by omega, decide_eq_true q, Bool.true_and]
      rfl
    · rw [show min n (z + 1) = min n z by omega, decide_eq_false (by omega), Bool.false_and, if_neg Bool.false_ne_true]
theorem chM_fr (I : Im) (b : Bool) {c k : Nat} (h : ¬ (c = 49 ∧ k = 2)) : chM I b c k = I c k := u2_ne h
theorem chI_fr (I : Im) (b : Bool) {c k : Nat} (h : c ≠ 49 ∨ k < 2) : chI I b c k = I c k := by
  unfold chI
  split
  · split
    · exact (u2_ne (by omega)).trans (chM_fr I b (by omega))
    · exact chM_fr I b (by omega)
  · exact (u2_ne (by omega)).trans (chM_fr I b (by omega))
theorem mt3_fr (I : Im) (t : Nat) (b : Bool) {c k : Nat} (h : c ≠ 53 ∨ (k ≠ 0 ∧ k ≠ 19)) (h2 : c ≠ 67) : mt3 I t b c k = I c k := (u2_ne (by omega)).trans ((u2_ne (by omega)).trans (u2_ne (by omega)))
theorem mtI_fr (I : Im) (t z : Nat) (b : Bool) {c k : Nat} (h : c ≠ 53 ∨ (k ≠ 0 ∧ k ≠ 18 ∧ k ≠ 19)) (h2 : c ≠ 67) : mtI I t z b c k = I c k := by
  unfold mtI
  split
  · split
    · exact (u2_ne (by omega)).trans (mt3_fr I t b (by omega) h2)
    · exact (u2_ne (by omega)).trans (mt3_fr I t b (by omega) h2)
  · exact (u2_ne (by omega)).trans (mt3_fr I t b (by omega) h2)
theorem mtI_67 (I : Im) (t z : Nat) (b : Bool) (k : Nat) : mtI I t z b 67 k = mt3 I t b 67 k := by
  unfold mtI
  split
  · split <;> exact u2_ne (by omega)
  · exact u2_ne (by omega)
theorem mtI_19 (I : Im) (t z : Nat) (b : Bool) : mtI I t z b 53 19 = nI (t + 1) := by
  have e : mt3 I t b 53 19 = nI (t + 1) := u2_eq _ _ _ _
  unfold mtI
  split
  · split <;> exact (u2_ne (by omega)).trans e
  · exact (u2_ne (by omega)).trans e
theorem mtI_0 (I : Im) (t z : Nat) (b : Bool) : mtI I t z b 53 0 = 0 := by
  have e : mt3 I t b 53 0 = 0 := (u2_ne (by omega)).trans ((u2_ne (by omega)).trans (u2_eq _ _ _ _))
  unfold mtI
  split
  · split <;> exact (u2_ne (by omega)).trans e
  · exact (u2_ne (by omega)).trans e
/-- a test: the class's answer and the reference's, and the relation behind -/
theorem RC.test {I : Im} {T : Nat} (h : RC I T) (b : Bool) : ∃ z t, chI I b 53 16 = nI z ∧ 1 ≤ z ∧ z ≤ 20 ∧ chI I b 53 19 = nI t ∧ t ≤ T ∧ chR I b = mtR (chI I b) t z b ∧ RC (mtI (chI I b) t z b) (T + 1) := by
  obtain ⟨z, t, s, h1, h2, h3, h4, h5, h6, h7, h8, h9, h10, h11⟩ := h
  generalize hI1 : chI I b = I1
  have fr : ∀ c k, (c ≠ 49 ∨ k < 2) → I1 c k = I c k := fun c k q => by rw [← hI1]; exact chI_fr I b q
  have cB := chB_n (b := b) h1 h3 h4 h11
  -- the bits and the tests after
  have hf : ∀ M : Im, (∀ k, M 67 k = mt3 I1 t b 67 k) → ∀ j, j < z → sh b (cf I t) j = cf M (t + 1) j := by
    intro M hM j _
    cases j with
    | zero =>
      show b = (decide (0 < t + 1) && decide (¬ M 67 (t + 1 - 1 - 0) = 0))
      rw [hM, show t + 1 - 1 - 0 = t by omega, show mt3 I1 t b 67 t = zB b from (u2_ne (by omega)).trans (u2_eq _ _ _ _), decide_eq_true (by omega), Bool.true_and]
      cases b <;> decide
    | succ j =>
      show (decide (j < t) && decide (¬ I 67 (t - 1 - j) = 0)) = (decide (j + 1 < t + 1) && decide (¬ M 67 (t + 1 - 1 - (j + 1)) = 0))
      by_cases q : j < t
      · rw [hM, show t + 1 - 1 - (j + 1) = t - 1 - j by omega, show mt3 I1 t b 67 (t - 1 - j) = I 67 (t - 1 - j) from (u2_ne (by omega)).trans ((u2_ne (by omega)).trans ((u2_ne (by omega)).trans (fr 67 _ (by omega)))), decide_eq_true q, decide_eq_true (show j + 1 < t + 1 by omega)]
      · rw [decide_eq_false q, decide_eq_false (show ¬ j + 1 < t + 1 by omega), Bool.false_and, Bool.false_and]
  have hcount : bcF (chB I b) = nI (mtC I1 t z b) := by
    rw [cB, bcF_bv _ h4]
    congr 1
    show _ = mtN (mt3 I1 t b) t (min (t + 1) z)
    rw [mtN_ct, ct_min]
    refine ct_cong z (fun j hj => ?_)
    rw [hf (mt3 I1 t b) (fun _ => rfl) j hj]
    rfl
  have e49 : chM I b 49 3 = nI s := (chM_fr I b (by omega)).trans h6
  have e18 : I1 53 18 = nI s := (fr 53 18 (by omega)).trans h7
  have e17 : I1 53 17 = I 49 1 := (fr 53 17 (by omega)).trans h5.symm
  have eM1 : chM I b 49 1 = I 49 1 := chM_fr I b (by omega)
  have eM2 : chM I b 49 2 = chB I b := u2_eq _ _ _ _
  have hcmp : (I 49 1 < nI (mtC I1 t z b)) ↔ ¬ nI (mtC I1 t z b) ≤ I 49 1 := by
    rw [Int32.lt_iff_toInt_lt, Int32.le_iff_toInt_le]
    omega
  refine ⟨z, t, (fr 53 16 (by omega)).trans h2, h3, h4, (fr 53 19 (by omega)).trans h9, h10, ?_, ?_⟩
  · unfold chR mtR
    rw [e49, e18, eM1, eM2, hcount, e17]
    congr 1
    exact decide_eq_decide.mpr hcmp
  · have hbits : ∀ M : Im, (∀ k, M 67 k = mt3 I1 t b 67 k) → nI (bv (sh b (cf I t)) z) = nI (bv (cf M (t + 1)) z) := fun M hM => by rw [bv_cong z (hf M hM)]
    have common : ∀ s2 : Nat, s2 ≤ 20 → I1 49 3 = nI s2 → mtI I1 t z b 53 18 = nI s2 → I1 49 2 = chB I b → RC (mtI I1 t z b) (T + 1) := by
      intro s2 hs2 a1 a2 a3
      refine ⟨z, t + 1, s2, ?_, ?_, h3, h4, ?_, ?_, a2, hs2, mtI_19 _ _ _ _, by omega, ?_⟩
      · exact (mtI_fr _ _ _ _ (by omega) (by omega)).trans ((fr 49 0 (by omega)).trans h1)
      · exact (mtI_fr _ _ _ _ (by omega) (by omega)).trans ((fr 53 16 (by omega)).trans h2)
      · rw [mtI_fr _ _ _ _ (by omega) (by omega), mtI_fr _ _ _ _ (by omega) (by omega), fr 49 1 (by omega), fr 53 17 (by omega)]
        exact h5
      · exact (mtI_fr _ _ _ _ (by omega) (by omega)).trans a1
      · rw [mtI_fr _ _ _ _ (by omega) (by omega), a3, cB]
        exact hbits _ (fun k => mtI_67 _ _ _ _ k)
    by_cases q : nI s ≤ 0
    · have hs0 : s = 0 := by
        rw [show (0 : Int32) = nI 0 from rfl, nI_leI (by omega) (by decide)] at q
        omega
      subst hs0
      by_cases q2 : nI (mtC I1 t z b) ≤ I 49 1
      · have hI : chI I b = chM I b := by
          unfold chI
          rw [e49, if_pos q, eM1, eM2, hcount, if_neg (fun z => hcmp.mp z q2)]
        refine common 0 (by omega) ?_ ?_ ?_
        · rw [← hI1, hI]; exact e49
        · unfold mtI
          rw [e18, if_pos q, e17, if_pos q2]
          exact u2_eq _ _ _ _
        · rw [← hI1, hI]; exact eM2
      · have hI : chI I b = u2 (chM I b) 49 3 (chM I b 49 0) := by
          unfold chI
          rw [e49, if_pos q, eM1, eM2, hcount, if_pos (hcmp.mpr q2)]
        refine common z (by omega) ?_ ?_ ?_
        · rw [← hI1, hI, u2_eq]; exact (chM_fr I b (by omega)).trans h1
        · unfold mtI
          rw [e18, if_pos q, e17, if_neg q2]
          exact u2_eq _ _ _ _
        · rw [← hI1, hI]; exact (u2_ne (by omega)).trans eM2
    · have hs1 : 1 ≤ s := by
        rcases Nat.eq_zero_or_pos s with z0 | z0
        · subst z0; exact absurd (by decide) q
        · exact z0
      have hI : chI I b = u2 (chM I b) 49 3 (chM I b 49 3 - 1) := by
        unfold chI
        rw [e49, if_neg q]
      have em : nI s - 1 = nI (s - 1) := pk_sub (b := 1) hs1
      refine common (s - 1) (by omega) ?_ ?_ ?_
      · rw [← hI1, hI, u2_eq, e49, em]
      · unfold mtI
        rw [e18, if_neg q, em]
        exact u2_eq _ _ _ _
      · rw [← hI1, hI]; exact (u2_ne (by omega)).trans eM2
