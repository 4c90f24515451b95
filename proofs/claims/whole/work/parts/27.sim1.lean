/-! the class's fit and the reference's, side by side: A is the class's memory, B the reference's -/
def FP (b : Nat) (A B : Dm) : Prop := ∀ i j, i < 3 → j < 3 → A (b + 1 + 1 + i) j = B 61 (3 * i + j)
def FT (b : Nat) (A B : Dm) : Prop := ∀ i, i < 3 → A (b + 5) i = B 62 i
/-- what a fit of the class may change; what a fit of the reference may -/
def FrA (b : Nat) (A A' : Dm) : Prop := ∀ c k, (c < b ∨ b + 7 ≤ c) → A' c k = A c k
def FrB (B B' : Dm) : Prop := ∀ c k, (c ≠ 61 ∧ c ≠ 62 ∧ c ≠ 65) → B' c k = B c k
theorem FrA.rf {b : Nat} {A : Dm} : FrA b A A := fun _ _ _ => rfl
theorem FrB.rf {B : Dm} : FrB B B := fun _ _ _ => rfl
theorem FrA.tr {b : Nat} {A A1 A2 : Dm} (h : FrA b A A1) (g : FrA b A1 A2) : FrA b A A2 := fun c k q => (g c k q).trans (h c k q)
theorem FrB.tr {A A1 A2 : Dm} (h : FrB A A1) (g : FrB A1 A2) : FrB A A2 := fun c k q => (g c k q).trans (h c k q)
theorem FrA.u {b : Nat} {A A1 : Dm} (h : FrA b A A1) {c k : Nat} {v : UInt64} (hc : b ≤ c ∧ c < b + 7) : FrA b A (u2 A1 c k v) := fun c' k' q => (u2_ne (by omega)).trans (h c' k' q)
theorem FrB.u {A A1 : Dm} (h : FrB A A1) {c k : Nat} {v : UInt64} (hc : c = 61 ∨ c = 62 ∨ c = 65) : FrB A (u2 A1 c k v) := fun c' k' q => (u2_ne (by omega)).trans (h c' k' q)
theorem FP_p {b : Nat} {A B : Dm} (h : FP b A B) {i j : Nat} (hi : i < 3) (hj : j < 3) {v w : UInt64} (e : v = w) : FP b (u2 A (b + 1 + 1 + i) j v) (u2 B 61 (3 * i + j) w) := by
  intro i' j' hi' hj'
  by_cases q : i' = i ∧ j' = j
  · obtain ⟨rfl, rfl⟩ := q
    rw [u2_eq, u2_eq, e]
  · rw [u2_ne (by omega), u2_ne (by omega)]
    exact h i' j' hi' hj'
theorem FT_t {b : Nat} {A B : Dm} (h : FT b A B) {i : Nat} {v w : UInt64} (e : v = w) : FT b (u2 A (b + 5) i v) (u2 B 62 i w) := by
  intro i' hi'
  by_cases q : i' = i
  · subst q
    rw [u2_eq, u2_eq, e]
  · rw [u2_ne (by omega), u2_ne (by omega)]
    exact h i' hi'
theorem FP_a {b : Nat} {A B A' B' : Dm} (h : FP b A B) (hA : ∀ i j, i < 3 → A' (b + 1 + 1 + i) j = A (b + 1 + 1 + i) j) (hB : ∀ j, B' 61 j = B 61 j) : FP b A' B' := fun i j hi hj => ((hA i j hi).trans (h i j hi hj)).trans (hB _).symm
theorem FT_a {b : Nat} {A B A' B' : Dm} (h : FT b A B) (hA : ∀ j, A' (b + 5) j = A (b + 5) j) (hB : ∀ j, B' 62 j = B 62 j) : FT b A' B' := fun i hi => ((hA i).trans (h i hi)).trans (hB _).symm
/-! terms -/
theorem dTerm_c {I : Im} {A A' : Dm} {c i : Nat} (h : ∀ k, A' c k = A c k) : dTerm I A' c i = dTerm I A c i := by
  simp only [dTerm, dMean, h]
theorem mSum_c {B B' : Dm} {d : Nat} (h : ∀ k, B' 54 k = B 54 k) : ∀ r, mSum B' d r = mSum B d r
  | 0 => rfl
  | r + 1 => by simp only [mSum, mSum_c h r, h]
theorem mTerm_c {I : Im} {B B' : Dm} {d i : Nat} (h : ∀ c k, c = 54 ∨ c = 56 ∨ c = 57 → B' c k = B c k) : mTerm I B' d i = mTerm I B d i := by
  simp only [mTerm, mSum_c (fun k => h 54 k (Or.inl rfl)), h 56 _ (Or.inr (Or.inl rfl)), h 57 _ (Or.inr (Or.inr rfl))]
theorem mCompl_c {I : Im} {B B' : Dm} {d : Nat} (h : B' 56 d = B 56 d) : mCompl I B' d = mCompl I B d := by simp only [mCompl, h]
/-! zeros -/
theorem cl1_v (b i : Nat) (A : Dm) : ∀ j, (∀ k, k < j → cl1 b i A j (b + 1 + 1 + i) k = 0) ∧ ∀ c k, c ≠ b + 1 + 1 + i → cl1 b i A j c k = A c k
  | 0 => ⟨fun k h => absurd h (Nat.not_lt_zero k), fun _ _ _ => rfl⟩
  | j + 1 => by
    obtain ⟨h1, h2⟩ := cl1_v b i A j
    refine ⟨fun k hk => ?_, fun c k hc => (u2_ne (fun q => hc q.1)).trans (h2 c k hc)⟩
    by_cases q : k = j
    · subst q
      exact u2_eq _ _ _ _
    · exact (u2_ne (fun z => q z.2)).trans (h1 k (by omega))
theorem cl0_v (b : Nat) (A : Dm) : ∀ n, n ≤ 3 → (∀ i k, i < n → k < 3 → cl0 b A n (b + 1 + 1 + i) k = 0) ∧ (∀ i, i < n → cl0 b A n (b + 5) i = 0) ∧ FrA b A (cl0 b A n)
  | 0, _ => ⟨fun _ _ h => absurd h (Nat.not_lt_zero _), fun _ h => absurd h (Nat.not_lt_zero _), FrA.rf⟩
  | n + 1, hn => by
    obtain ⟨h1, h2, h3⟩ := cl0_v b A n (by omega)
    obtain ⟨g1, g2⟩ := cl1_v b n (u2 (cl0 b A n) (b + 5) n 0) 3
    refine ⟨fun i k hi hk => ?_, fun i hi => ?_, fun c k q => ?_⟩
    · by_cases q : i = n
      · subst q
        exact g1 k hk
      · exact (g2 _ k (by omega)).trans ((u2_ne (by omega)).trans (h1 i k (by omega) hk))
    · refine (g2 _ i (by omega)).trans ?_
      by_cases q : i = n
      · subst q
        exact u2_eq _ _ _ _
      · exact (u2_ne (fun z => q z.2)).trans (h2 i (by omega))
    · exact (g2 c k (by omega)).trans ((u2_ne (by omega)).trans (h3 c k q))
theorem mc0_v (B : Dm) : ∀ n, (∀ k, k < n → mc0 B n 61 k = 0) ∧ (∀ k, k < n → mc0 B n 62 (k / 3) = 0) ∧ FrB B (mc0 B n)
  | 0 => ⟨fun _ h => absurd h (Nat.not_lt_zero _), fun _ h => absurd h (Nat.not_lt_zero _), FrB.rf⟩
  | n + 1 => by
    obtain ⟨h1, h2, h3⟩ := mc0_v B n
    refine ⟨fun k hk => ?_, fun k hk => ?_, fun c k q => ?_⟩
    · refine (u2_ne (by omega)).trans ?_
      by_cases q : k = n
      · subst q
        exact u2_eq _ _ _ _
      · exact (u2_ne (fun z => q z.2)).trans (h1 k (by omega))
    · by_cases q : k / 3 = n / 3
      · show u2 (u2 (mc0 B n) 61 n 0) 62 (n / 3) 0 62 (k / 3) = 0
        rw [q]
        exact u2_eq _ _ _ _
      · exact (u2_ne (fun z => q z.2)).trans ((u2_ne (by omega)).trans (h2 k (by
          have : k ≠ n := fun z => q (by rw [z])
          omega)))
    · exact (u2_ne (by omega)).trans ((u2_ne (by omega)).trans (h3 c k q))
theorem zero_s (b : Nat) (A B : Dm) : FP b (cl0 b A 3) (mc0 B 9) ∧ FT b (cl0 b A 3) (mc0 B 9) ∧ FrA b A (cl0 b A 3) ∧ FrB B (mc0 B 9) := by
  obtain ⟨h1, h2, h3⟩ := cl0_v b A 3 (Nat.le_refl _)
  obtain ⟨g1, g2, g3⟩ := mc0_v B 9
  refine ⟨fun i j hi hj => (h1 i j hi hj).trans (g1 _ (by omega)).symm, fun i hi => (h2 i hi).trans ?_, h3, g3⟩
  have := g2 (3 * i) (by omega)
  rw [show 3 * i / 3 = i by omega] at this
  exact this.symm
/-! a board's part -/
theorem add1_s {b d i : Nat} {I K : Im} {A B : Dm} (hi : i < 3) (hb : 2 + d < b) (hP : FP b A B) (ht : ∀ j, j < 3 → dTerm I A (2 + d) j = mTerm K B d j) : ∀ j, j ≤ 3 →
    FP b (ad1 b I (2 + d) i A j) (ma1 K d i B j) ∧ (∀ c k, c ≠ b + 1 + 1 + i → ad1 b I (2 + d) i A j c k = A c k) ∧ (∀ c k, c ≠ 61 → ma1 K d i B j c k = B c k)
  | 0, _ => ⟨hP, fun _ _ _ => rfl, fun _ _ _ => rfl⟩
  | j + 1, hj => by
    obtain ⟨h1, h2, h3⟩ := add1_s hi hb hP ht j (by omega)
    have e1 : ∀ m, dTerm I (ad1 b I (2 + d) i A j) (2 + d) m = dTerm I A (2 + d) m := fun m => dTerm_c (fun k => h2 _ k (by omega))
    have e2 : ∀ m, mTerm K (ma1 K d i B j) d m = mTerm K B d m := fun m => mTerm_c (fun c k q => h3 c k (by omega))
    refine ⟨FP_p h1 hi (by omega) ?_, fun c k q => (u2_ne (fun z => q z.1)).trans (h2 c k q), fun c k q => (u2_ne (fun z => q z.1)).trans (h3 c k q)⟩
    rw [h1 i j hi (by omega), e1, e1, e2, e2, ht i hi, ht j (by omega)]
theorem add_s {b d : Nat} {I K : Im} {A B : Dm} (hb : 2 + d < b) (hP : FP b A B) (hT : FT b A B) (ht : ∀ j, j < 3 → dTerm I A (2 + d) j = mTerm K B d j) (hs : A (2 + d) 4 = B 58 d) : ∀ i, i ≤ 3 →
    FP b (ad0 b I (2 + d) A i) (ma0 K d B i) ∧ FT b (ad0 b I (2 + d) A i) (ma0 K d B i) ∧ FrA b A (ad0 b I (2 + d) A i) ∧ FrB B (ma0 K d B i)
  | 0, _ => ⟨hP, hT, FrA.rf, FrB.rf⟩
  | i + 1, hi => by
    obtain ⟨h1, h2, h3, h4⟩ := add_s hb hP hT ht hs i (by omega)
    have t1 : ∀ m, dTerm I (ad0 b I (2 + d) A i) (2 + d) m = dTerm I A (2 + d) m := fun m => dTerm_c (fun k => h3 _ k (Or.inl hb))
    have t2 : ∀ m, mTerm K (ma0 K d B i) d m = mTerm K B d m := fun m => mTerm_c (fun c k q => h4 c k (by omega))
    have hX := add1_s (K := K) (I := I) (i := i) (A := u2 (ad0 b I (2 + d) A i) (b + 5) i (Ad (ad0 b I (2 + d) A i (b + 5) i) (Mu (dTerm I (ad0 b I (2 + d) A i) (2 + d) i) (ad0 b I (2 + d) A i (2 + d) 4)))) (B := ma0 K d B i) (by omega) hb (FP_a h1 (fun i' j hi' => u2_ne (by omega)) (fun _ => rfl))
      (fun j hj => by rw [dTerm_c (A := ad0 b I (2 + d) A i) (fun k => u2_ne (by omega)), t1, t2]; exact ht j hj) 3 (Nat.le_refl _)
    obtain ⟨g1, g2, g3⟩ := hX
    refine ⟨FP_a g1 (fun _ _ _ => rfl) (fun j => u2_ne (by omega)), ?_, fun c k q => (g2 c k (by omega)).trans ((u2_ne (by omega)).trans (h3 c k q)), fun c k q => (u2_ne (by omega)).trans ((g3 c k q.1).trans (h4 c k q))⟩
    intro i' hi'
    refine (g2 _ i' (by omega)).trans ?_
    by_cases q : i' = i
    · subst q
      rw [u2_eq]
      refine Eq.trans ?_ (u2_eq _ _ _ _).symm
      rw [g3 62 i' (by omega), g3 58 d (by omega), mTerm_c (B := ma0 K d B i') (fun c k q => g3 c k (by omega)), t1, t2, h2 i' (by omega), ht i' (by omega), h3 _ 4 (Or.inl hb), h4 58 d (by omega), hs]
    · refine (u2_ne (fun z => q z.2)).trans ((h2 i' hi').trans ?_)
      exact ((u2_ne (fun z => q z.2)).trans (g3 62 i' (by omega))).symm
/-! elimination -/
theorem les_s {b r c : Nat} {f g : UInt64} {A B : Dm} (hr : r < 3) (hc : c < 3) (hP : FP b A B) (hf : f = g) : ∀ k, c + k ≤ 3 →
    FP b (le1 b r c f A k) (mj1 c r g B k) ∧ (∀ c' k', c' ≠ b + 1 + 1 + r → le1 b r c f A k c' k' = A c' k') ∧ (∀ c' k', ¬ (c' = 61 ∧ 3 * r ≤ k') → mj1 c r g B k c' k' = B c' k')
  | 0, _ => ⟨hP, fun _ _ _ => rfl, fun _ _ _ => rfl⟩
  | k + 1, hk => by
    obtain ⟨h1, h2, h3⟩ := les_s hr hc hP hf k (by omega)
    refine ⟨FP_p h1 hr (by omega) ?_, fun c' k' q => (u2_ne (fun z => q z.1)).trans (h2 c' k' q), fun c' k' q => (u2_ne (by omega)).trans (h3 c' k' q)⟩
    rw [h1 r (c + k) hr (by omega), h1 c (c + k) hc (by omega), hf]
theorem lessen_s {b r c : Nat} {f g : UInt64} {A B : Dm} (hr : r < 3) (hc : c < 3) (hP : FP b A B) (hT : FT b A B) (hf : f = g) :
    FP b (le0 b r c f A) (mr0 c r g B) ∧ FT b (le0 b r c f A) (mr0 c r g B) ∧ FrA b A (le0 b r c f A) ∧ (∀ c' k', ¬ (c' = 61 ∧ 3 * r ≤ k') → ¬ (c' = 62 ∧ k' = r) → mr0 c r g B c' k' = B c' k') := by
  obtain ⟨h1, h2, h3⟩ := les_s hr hc hP hf (3 - c) (by omega)
  have hT2 : FT b (le1 b r c f A (3 - c)) (mj1 c r g B (3 - c)) := FT_a hT (fun j => h2 _ j (by omega)) (fun j => h3 _ j (by omega))
  refine ⟨FP_a h1 (fun i j hi => u2_ne (by omega)) (fun j => u2_ne (by omega)), FT_t hT2 ?_, fun c' k' q => (u2_ne (by omega)).trans (h2 c' k' (by omega)), fun c' k' q q2 => (u2_ne q2).trans (h3 c' k' q)⟩
  rw [hT2 r hr, hT2 c hc, hf]
theorem col_s {b c : Nat} {A B : Dm} (hP : FP b A B) (hT : FT b A B) : ∀ k, c + 1 + k ≤ 3 →
    FP b (el1 b c A k) (me1 c (B 61 (4 * c)) B k) ∧ FT b (el1 b c A k) (me1 c (B 61 (4 * c)) B k) ∧ FrA b A (el1 b c A k) ∧ (∀ c' k', ¬ (c' = 61 ∧ 3 * (c + 1) ≤ k') → ¬ (c' = 62 ∧ c + 1 ≤ k') → me1 c (B 61 (4 * c)) B k c' k' = B c' k')
  | 0, _ => ⟨hP, hT, FrA.rf, fun _ _ _ _ => rfl⟩
  | k + 1, hk => by
    obtain ⟨h1, h2, h3, h4⟩ := col_s (c := c) hP hT k (by omega)
    obtain ⟨g1, g2, g3, g4⟩ := lessen_s (b := b) (r := c + 1 + k) (c := c) (f := Dv (el1 b c A k (b + 1 + 1 + (c + 1 + k)) c) (el1 b c A k (b + 1 + 1 + c) c)) (g := Dv (me1 c (B 61 (4 * c)) B k 61 (3 * (c + 1 + k) + c)) (B 61 (4 * c))) (by omega) (by omega) h1 h2 (by
      rw [h1 (c + 1 + k) c (by omega) (by omega), h1 c c (by omega) (by omega), show 3 * c + c = 4 * c by omega, h4 61 (4 * c) (by omega) (by omega)])
    exact ⟨g1, g2, h3.tr g3, fun c' k' q q2 => (g4 c' k' (by omega) (by omega)).trans (h4 c' k' q q2)⟩
theorem elim_s {b : Nat} {A B : Dm} (hP : FP b A B) (hT : FT b A B) : ∀ c, c ≤ 3 →
    FP b (el0 b A c) (me0 B c) ∧ FT b (el0 b A c) (me0 B c) ∧ FrA b A (el0 b A c) ∧ FrB B (me0 B c) ∧ elR b A c = meR B c ∧ (∀ c', c' < c → me0 B c 61 (4 * c') = me0 B c' 61 (4 * c'))
  | 0, _ => ⟨hP, hT, FrA.rf, FrB.rf, rfl, fun _ h => absurd h (Nat.not_lt_zero _)⟩
  | c + 1, hc => by
    obtain ⟨h1, h2, h3, h4, h5, h6⟩ := elim_s hP hT c (by omega)
    have e : el0 b A c (b + 1 + 1 + c) c = me0 B c 61 (4 * c) := by rw [h1 c c (by omega) (by omega), show 3 * c + c = 4 * c by omega]
    have hlast : ∀ (M : Dm), (∀ k', k' < 3 * (c + 1) → M 61 k' = me0 B c 61 k') → ∀ c', c' < c + 1 → M 61 (4 * c') = me0 B c' 61 (4 * c') := by
      intro M hM c' hc'
      rw [hM _ (by omega)]
      rcases Nat.lt_or_ge c' c with q | q
      · exact h6 c' q
      · rw [show c' = c by omega]
    by_cases q : pvO (me0 B c 61 (4 * c)) = true
    · rw [show el0 b A (c + 1) = el0 b A c from if_pos (by rw [e]; exact q), show me0 B (c + 1) = me0 B c from if_pos q, show elR b A (c + 1) = elR b A c from if_pos (by rw [e]; exact q), show meR B (c + 1) = meR B c from if_pos q]
      exact ⟨h1, h2, h3, h4, h5, hlast _ (fun _ _ => rfl)⟩
    · rw [show el0 b A (c + 1) = el1 b c (el0 b A c) (2 - c) from if_neg (by rw [e]; exact q), show me0 B (c + 1) = me1 c (me0 B c 61 (4 * c)) (me0 B c) (2 - c) from if_neg q, show elR b A (c + 1) = elR b A c + 1 from if_neg (by rw [e]; exact q), show meR B (c + 1) = meR B c + 1 from if_neg q]
      obtain ⟨g1, g2, g3, g4⟩ := col_s (c := c) h1 h2 (2 - c) (by omega)
      exact ⟨g1, g2, h3.tr g3, h4.tr (fun c' k' z => g4 c' k' (by omega) (by omega)), by rw [h5], hlast _ (fun k' hk' => g4 61 k' (by omega) (by omega))⟩
/-! the numbers -/
theorem sub1_s {b c : Nat} {A B : Dm} (hc : c < 3) (hP : FP b A B) (hT : FT b A B) : ∀ k, c + 1 + k ≤ 3 → (∀ m, c < m → m < 3 → A (b + 6) m = B 65 m) → su1 b c A k = ms1 c B k
  | 0, _, _ => hT c hc
  | k + 1, hk, hn => by
    show Sb (su1 b c A k) _ = Sb (ms1 c B k) _
    rw [sub1_s hc hP hT k (by omega) hn, hP c (c + 1 + k) hc (by omega), hn (c + 1 + k) (by omega) (by omega)]
theorem sub_s {b : Nat} {I : Im} {A B : Dm} (hP : FP b A B) (hT : FT b A B) (hI : ∀ c, c < 3 → I 63 c = zB (pvO (B 61 (4 * c)))) : ∀ k, k ≤ 3 →
    FP b (su0 b A k) (ms0 I B k) ∧ FT b (su0 b A k) (ms0 I B k) ∧ FrA b A (su0 b A k) ∧ FrB B (ms0 I B k) ∧ (∀ c, B 61 c = ms0 I B k 61 c) ∧ (∀ m, 3 - k ≤ m → m < 3 → su0 b A k (b + 6) m = ms0 I B k 65 m)
  | 0, _ => ⟨hP, hT, FrA.rf, FrB.rf, fun _ => rfl, fun m h1 h2 => by omega⟩
  | k + 1, hk => by
    obtain ⟨h1, h2, h3, h4, h5, h6⟩ := sub_s hP hT hI k (by omega)
    have e : su0 b A k (b + 1 + 1 + (2 - k)) (2 - k) = ms0 I B k 61 (4 * (2 - k)) := by rw [h1 (2 - k) (2 - k) (by omega) (by omega), show 3 * (2 - k) + (2 - k) = 4 * (2 - k) by omega]
    refine ⟨FP_a h1 (fun i j hi => u2_ne (by omega)) (fun j => u2_ne (by omega)), FT_a h2 (fun j => u2_ne (by omega)) (fun j => u2_ne (by omega)), h3.u (by omega), h4.u (by omega), fun c => (h5 c).trans (u2_ne (by omega)).symm, ?_⟩
    intro m hm1 hm2
    by_cases q : m = 2 - k
    · subst q
      refine (u2_eq _ _ _ _).trans (Eq.trans ?_ (u2_eq _ _ _ _).symm)
      rw [e, hI (2 - k) (by omega), h5, sub1_s (c := 2 - k) (by omega) h1 h2 k (by omega) (fun m q1 q2 => h6 m (by omega) q2)]
      cases hp : pvO (ms0 I B k 61 (4 * (2 - k)))
      · rw [if_neg Bool.false_ne_true, if_pos zB_f]
      · rw [if_pos rfl, if_neg (show ¬ zB true = 0 by decide)]
    · exact (u2_ne (fun z => q z.2)).trans ((h6 m (by omega) hm2).trans (u2_ne (fun z => q z.2)).symm)
/-! over the boards: the class walks all 32, the reference the first n -/
/-- the boards of the class and of the reference are the same -/
def RB (I : Im) (G : Dm) (n : Nat) : Prop :=
  I 0 2 = nI n ∧ I 53 2 = nI n ∧ n ≤ 32 ∧
  (∀ b, b < 32 → ∃ r, r ≤ 8 ∧ I (2 + b) 0 = nI r ∧ I 55 b = nI r ∧ G (2 + b) 1 = mSum G b r) ∧
  (∀ b, b < 32 → G (2 + b) 2 = G 56 b ∧ G (2 + b) 3 = G 57 b ∧ G (2 + b) 4 = G 58 b) ∧
  (∀ b, b < 32 → I (2 + b) 5 = I 59 b ∧ I (2 + b) 6 = I 60 b ∧ (n ≤ b → I 55 b = 0 ∧ I 59 b = 0 ∧ I 60 b = 0))
theorem RB.mOK {I : Im} {G : Dm} {n : Nat} (h : RB I G n) : mOK I := fun b hb => (h.2.2.2.1 b hb).elim fun r q => ⟨r, q.1, q.2.2.1⟩
theorem nI0_lt1 {r : Nat} (hr : r ≤ 8) : nI r < 1 ↔ r = 0 := by
  rw [show (1 : Int32) = nI 1 from rfl, nI_ltI (by omega) (by decide)]; omega
theorem nI0_le0 {r : Nat} (hr : r ≤ 8) : nI r ≤ 0 ↔ r = 0 := by
  rw [show (0 : Int32) = nI 0 from rfl, nI_leI (by omega) (by decide)]; omega
theorem RB.compl {I : Im} {G : Dm} {n d : Nat} (h : RB I G n) (hd : d < 32) : bCompl I G (2 + d) = mCompl I G d := by
  obtain ⟨r, h1, h2, h3, -⟩ := h.2.2.2.1 d hd
  obtain ⟨h4, -, -⟩ := h.2.2.2.2.1 d hd
  unfold bCompl mCompl
  rw [h2, h3, h4]
  congr 2
  rw [eq_iff_iff, nI0_lt1 h1, nI0_le0 h1]
theorem mCompl_r {I : Im} {G : Dm} {d r : Nat} (h : mCompl I G d = true) (hr : I 55 d = nI r) : 1 ≤ r := by
  unfold mCompl at h
  rw [Bool.and_eq_true] at h
  have h1 := of_decide_eq_true h.1
  rcases Nat.eq_zero_or_pos r with q | q
  · subst q
    exact absurd (by rw [hr]; decide) h1
  · exact q
theorem RB.term {I : Im} {G : Dm} {n d : Nat} (h : RB I G n) (hd : d < 32) (hc : mCompl I G d = true) {j : Nat} (hj : j < 3) : dTerm I G (2 + d) j = mTerm I G d j := by
  obtain ⟨r, h1, h2, h3, h4⟩ := h.2.2.2.1 d hd
  obtain ⟨h5, h6, -⟩ := h.2.2.2.2.1 d hd
  have hr := mCompl_r hc h3
  unfold dTerm mTerm dMean
  rw [h2, h3, h4, h5, h6, nI_clamp (by omega), if_neg (nI_nle (by omega) (by omega))]
  rcases (show j = 0 ∨ j = 1 ∨ j = 2 by omega) with rfl | rfl | rfl <;> rfl
theorem RB.out {I : Im} {G : Dm} {n d : Nat} (h : RB I G n) (hd : d < 32) (hn : n ≤ d) : mCompl I G d = false := by
  have := ((h.2.2.2.2.2 d hd).2.2 hn).1
  unfold mCompl
  rw [this]
  rfl
theorem RB.fit {I : Im} {G : Dm} {n d : Nat} (h : RB I G n) (hd : d < 32) : bFit I G (2 + d) = (decide (¬ I 59 d = 0) && mCompl I G d) := by
  unfold bFit
  rw [h.compl hd, (h.2.2.2.2.2 d hd).1, Bool.and_comm]
theorem bFit_c {I : Im} {A A' : Dm} {c : Nat} (h : A' c 2 = A c 2) : bFit I A' c = bFit I A c := by simp only [bFit, bCompl, h]
theorem boards_s {b n : Nat} {I K : Im} {G A B : Dm} {sk : Nat → Bool} {w : Int32} (hb : 34 ≤ b) (hR : RB I G n) (hK : ∀ c k, c = 55 ∨ c = 59 → K c k = I c k) (hA : ∀ c k, c < 34 → A c k = G c k) (hB : ∀ c k, c = 54 ∨ c = 56 ∨ c = 57 ∨ c = 58 → B c k = G c k) (hsk : ∀ i, i < 32 → sk i = decide (nI i = w)) :
    ∀ i, i ≤ 32 → FP b (rk1 b I sk A i) (mb0 K w B (min i n)) ∧ FT b (rk1 b I sk A i) (mb0 K w B (min i n)) ∧ FrA b A (rk1 b I sk A i) ∧ FrB B (mb0 K w B (min i n))
  | 0, _ => by
    rw [Nat.zero_min]
    exact zero_s b A B
  | i + 1, hi => by
    obtain ⟨h1, h2, h3, h4⟩ := boards_s hb hR hK hA hB hsk i (by omega)
    have hAc : ∀ c k, c < 34 → rk1 b I sk A i c k = G c k := fun c k q => (h3 c k (Or.inl (by omega))).trans (hA c k q)
    have eF : bFit I (rk1 b I sk A i) (2 + i) = (decide (¬ I 59 i = 0) && mCompl I G i) := (bFit_c (hAc _ 2 (by omega))).trans (hR.fit (by omega))
    rcases Nat.lt_or_ge i n with q | q
    · rw [show min i n = i by omega] at h1 h2 h4
      rw [show min (i + 1) n = i + 1 by omega]
      have hBc : ∀ c k, c = 54 ∨ c = 56 ∨ c = 57 ∨ c = 58 → mb0 K w B i c k = G c k := fun c k z => (h4 c k (by omega)).trans (hB c k z)
      have eM : mCompl K (mb0 K w B i) i = mCompl I G i := by
        unfold mCompl
        rw [hK 55 i (Or.inl rfl), hBc 56 i (by omega)]
      have eq : (bFit I (rk1 b I sk A i) (2 + i) && !(sk i)) = (!(decide (nI i = w)) && (decide (¬ K 59 i = 0) && mCompl K (mb0 K w B i) i)) := by
        rw [eF, eM, hsk i (by omega), hK 59 i (Or.inr rfl), Bool.and_comm]
      by_cases hq : (!(decide (nI i = w)) && (decide (¬ K 59 i = 0) && mCompl K (mb0 K w B i) i)) = true
      · rw [show rk1 b I sk A (i + 1) = ad0 b I (2 + i) (rk1 b I sk A i) 3 from if_pos (eq.trans hq), show mb0 K w B (i + 1) = ma0 K i (mb0 K w B i) 3 from if_pos hq]
        have hc : mCompl I G i = true := by
          rw [Bool.and_eq_true, Bool.and_eq_true] at hq
          rw [← eM]
          exact hq.2.2
        obtain ⟨g1, g2, g3, g4⟩ := add_s (K := K) (I := I) (d := i) (by omega) h1 h2 (fun j hj => by
          rw [dTerm_c (A := G) (fun k => hAc _ k (by omega)), hR.term (by omega) hc hj]
          unfold mTerm
          rw [hK 55 i (Or.inl rfl), mSum_c (B := G) (B' := mb0 K w B i) (fun k => hBc 54 k (Or.inl rfl)), hBc 56 i (by omega), hBc 57 i (by omega)]) (by rw [hAc _ 4 (by omega), hBc 58 i (by omega)]; exact (hR.2.2.2.2.1 i (by omega)).2.2) 3 (Nat.le_refl _)
        exact ⟨g1, g2, h3.tr g3, h4.tr g4⟩
      · rw [show rk1 b I sk A (i + 1) = rk1 b I sk A i from if_neg (by rw [eq]; exact hq), show mb0 K w B (i + 1) = mb0 K w B i from if_neg hq]
        exact ⟨h1, h2, h3, h4⟩
    · rw [show min (i + 1) n = min i n by omega]
      rw [show rk1 b I sk A (i + 1) = rk1 b I sk A i from if_neg (by rw [eF, hR.out (by omega) q, Bool.and_false, Bool.false_and]; exact Bool.false_ne_true)]
      exact ⟨h1, h2, h3, h4⟩
theorem meI_63 (K : Im) (B : Dm) : ∀ n c, c < n → meI K B n 63 c = zB (pvO (me0 B c 61 (4 * c)))
  | 0, c, h => absurd h (Nat.not_lt_zero c)
  | n + 1, c, h => by
    show u2 (meI K B n) 63 n _ 63 c = _
    by_cases q : c = n
    · subst q
      exact u2_eq _ _ _ _
    · exact (u2_ne (fun z => q z.2)).trans (meI_63 K B n c (by omega))
theorem meI_fr (K : Im) (B : Dm) : ∀ n c k, c ≠ 63 → meI K B n c k = K c k
  | 0, _, _, _ => rfl
  | n + 1, c, k, h => (u2_ne (fun z => h z.1)).trans (meI_fr K B n c k h)
/-- the whole of a fit: as many columns, and the same numbers -/
theorem fit_s {b n : Nat} {I K : Im} {G A B : Dm} {sk : Nat → Bool} {w : Int32} (hb : 34 ≤ b) (hR : RB I G n) (hK : ∀ c k, c = 55 ∨ c = 59 → K c k = I c k) (hA : ∀ c k, c < 34 → A c k = G c k) (hB : ∀ c k, c = 54 ∨ c = 56 ∨ c = 57 ∨ c = 58 → B c k = G c k) (hsk : ∀ i, i < 32 → sk i = decide (nI i = w)) :
    rkR b I sk A = slR K w B n ∧ (∀ m, m < 3 → rkG b I sk A (b + 6) m = slG K w B n 65 m) ∧ FrA b A (rkG b I sk A) ∧ FrB B (slG K w B n) ∧ (∀ c k, c ≠ 63 → slI K w B n c k = K c k) := by
  obtain ⟨h1, h2, h3, h4⟩ := boards_s hb hR hK hA hB hsk 32 (Nat.le_refl _)
  rw [show min 32 n = n by have := hR.2.2.1; omega] at h1 h2 h4
  obtain ⟨g1, g2, g3, g4, g5, g6⟩ := elim_s h1 h2 3 (Nat.le_refl _)
  obtain ⟨f1, f2, f3, f4, f5, f6⟩ := sub_s (I := slI K w B n) g1 g2 (fun c hc => by rw [g6 c hc]; exact meI_63 K _ 3 c hc) 3 (Nat.le_refl _)
  exact ⟨g5, fun m hm => f6 m (by omega) hm, (h3.tr g3).tr f3, (h4.tr g4).tr f4, fun c k q => meI_fr K _ 3 c k q⟩
