/-! settings and proofs, side by side -/
theorem kf1_fr (I : Im) (G : Dm) : ∀ n c k, (34 ≤ c ∨ k ≠ 7 ∨ c < 2 ∨ 2 + n ≤ c) → n ≤ 32 → kf1 I G n c k = G c k
  | 0, _, _, _, _ => rfl
  | n + 1, c, k, h, hn => (u2_ne (by omega)).trans (kf1_fr I G n c k (by omega) (by omega))
theorem fore_c {b : Nat} {I : Im} {A A' : Dm} {c : Nat} (h : ∀ k, k ≠ 7 → A' c k = A c k) (h2 : ∀ k, A' (b + 6) k = A (b + 6) k) : fore b I A' c = fore b I A c := by
  unfold fore dTerm dMean
  rw [h 1 (by decide), h 2 (by decide), h 3 (by decide), h2, h2, h2]
theorem kf1_v (I : Im) (G : Dm) : ∀ n, n ≤ 32 → ∀ i, i < n → kf1 I G n (2 + i) 7 = fore 34 I G (2 + i)
  | 0, _, i, h => absurd h (Nat.not_lt_zero i)
  | n + 1, hn, i, h => by
    show u2 (kf1 I G n) (2 + n) 7 _ (2 + i) 7 = _
    by_cases q : i = n
    · subst q
      rw [u2_eq]
      exact fore_c (fun k hk => kf1_fr I G i (2 + i) k (Or.inr (Or.inl hk)) (by omega)) (fun k => kf1_fr I G i 40 k (Or.inl (by decide)) (by omega))
    · exact (u2_ne (by omega)).trans (kf1_v I G n (by omega) i (by omega))
theorem fore_told {I : Im} {G : Dm} {n d : Nat} {C0 C1 C2 : UInt64} {b : Nat} (hR : RB I G n) (hd : d < 32) (hc : mCompl I G d = true) (h0 : G (b + 6) 0 = C0) (h1 : G (b + 6) 1 = C1) (h2 : G (b + 6) 2 = C2) : fore b I G (2 + d) = mTold I G d C0 C1 C2 := by
  unfold fore mTold
  rw [h0, h1, h2, hR.term hd hc (by decide), hR.term hd hc (by decide), hR.term hd hc (by decide)]
def RN (G : Dm) : Prop := ∀ k, k < 3 → G 40 k = G 64 k
theorem enP_s {I : Im} {G : Dm} {n : Nat} {X : UInt64} (hR : RB I G n) (hN : RN G) {i : Nat} (hi : i < 32) : enP I (kf1 I G 32) X i = meP I G X i := by
  unfold enP meP
  rw [bFit_c (A := G) (kf1_fr I G 32 (2 + i) 2 (Or.inr (Or.inl (by decide))) (Nat.le_refl _)), hR.fit hi, kf1_v I G 32 (Nat.le_refl _) i hi]
  cases hc : mCompl I G i
  · rw [Bool.and_false, Bool.false_and, Bool.false_and, Bool.and_false]
  · rw [fore_told (b := 34) hR hi hc (hN 0 (by decide)) (hN 1 (by decide)) (hN 2 (by decide)), Bool.and_assoc]
theorem enQ_s {I : Im} {G : Dm} {n : Nat} {L : UInt64} (hR : RB I G n) {i : Nat} (hi : i < 32) : enQ (kf1 I G 32) L i = meQ G L i := by
  unfold enQ meQ
  rw [kf1_fr I G 32 (2 + i) 4 (Or.inr (Or.inl (by decide))) (Nat.le_refl _), (hR.2.2.2.2.1 i hi).2.2]
theorem meP_out {I : Im} {G : Dm} {n : Nat} {X : UInt64} (hR : RB I G n) {i : Nat} (hi : i < 32) (hn : n ≤ i) : meP I G X i = false := by
  unfold meP
  rw [hR.out hi hn, Bool.false_and, Bool.and_false]
theorem enC_s {I : Im} {G : Dm} {n : Nat} {X : UInt64} (hR : RB I G n) (hN : RN G) : ∀ i, i ≤ 32 → enC I (kf1 I G 32) X i = meC I G X (min i n)
  | 0, _ => by rw [Nat.zero_min]; rfl
  | i + 1, hi => by
    have ih := enC_s hR hN (X := X) i (by omega)
    have e := enP_s (X := X) hR hN (i := i) (by omega)
    show (if enP I (kf1 I G 32) X i = true then enC I (kf1 I G 32) X i + 1 else enC I (kf1 I G 32) X i) = _
    rw [e, ih]
    rcases Nat.lt_or_ge i n with q | q
    · rw [show min i n = i by omega, show min (i + 1) n = i + 1 by omega]
      rfl
    · rw [meP_out hR (by omega) q, if_neg Bool.false_ne_true, show min (i + 1) n = min i n by omega]
theorem enW_s {I : Im} {G : Dm} {n : Nat} {X L : UInt64} (hR : RB I G n) (hN : RN G) : ∀ i, i ≤ 32 → enW I (kf1 I G 32) X L i = meW I G X L (min i n)
  | 0, _ => by rw [Nat.zero_min]; rfl
  | i + 1, hi => by
    have ih := enW_s hR hN (X := X) (L := L) i (by omega)
    have e := enP_s (X := X) hR hN (i := i) (by omega)
    have e2 := enQ_s (L := L) hR (i := i) (by omega)
    show (if (enP I (kf1 I G 32) X i && enQ (kf1 I G 32) L i) = true then enW I (kf1 I G 32) X L i + 1 else enW I (kf1 I G 32) X L i) = _
    rw [e, e2, ih]
    rcases Nat.lt_or_ge i n with q | q
    · rw [show min i n = i by omega, show min (i + 1) n = i + 1 by omega]
      rfl
    · rw [meP_out hR (by omega) q, Bool.false_and, if_neg Bool.false_ne_true, show min (i + 1) n = min i n by omega]
theorem stF_s {I : Im} {G : Dm} {n : Nat} {L : UInt64} {a b : Int32} (hR : RB I G n) (hN : RN G) : ∀ f i, stF I (kf1 I G 32) L a b f i = msF I G L a b n f i
  | 0, _ => rfl
  | f + 1, i => by
    have h32 : min 32 n = n := by have := hR.2.2.1; omega
    show (if enR I (kf1 I G 32) _ L a b = true then _ else _) = (if meOK I G _ L a b n = true then _ else _)
    rw [stF_s hR hN f (i + 1)]
    unfold enR meOK
    rw [enC_s hR hN 32 (Nat.le_refl _), enW_s hR hN 32 (Nat.le_refl _), h32]
/-! proofs -/
theorem prI_fr (I : Im) (G : Dm) (X : UInt64) : ∀ n c k, (k ≠ 6 ∨ c < 2 ∨ 2 + n ≤ c) → prI I G X n c k = I c k
  | 0, _, _, _ => rfl
  | n + 1, c, k, h => by
    show (if _ then u2 _ _ _ _ else _) c k = _
    split
    · exact (u2_ne (by omega)).trans (prI_fr I G X n c k (by omega))
    · exact prI_fr I G X n c k (by omega)
theorem mpI_fr (I : Im) (G : Dm) (X : UInt64) : ∀ n c k, (c ≠ 60 ∨ n ≤ k) → ¬ (c = 53 ∧ k = 0) → mpI I G X n c k = I c k
  | 0, _, _, _, h => u2_ne (fun z => h z)
  | n + 1, c, k, h, h2 => by
    show (if _ then u2 _ _ _ _ else _) c k = _
    split
    · exact (u2_ne (by omega)).trans (mpI_fr I G X n c k (by omega) h2)
    · exact mpI_fr I G X n c k (by omega) h2
/-- the class's proof over 32 boards, the reference's over n, the latter over the former's memory -/
theorem pr_s {I K : Im} {G : Dm} {X : UInt64} {n : Nat} (hR : RB I G n) (hK : ∀ c k, c = 59 ∨ c = 60 → K c k = I c k) : ∀ i, i ≤ 32 → prN I G X i = mpN K G X (min i n) ∧ (∀ d, d < 32 → prI I G X i (2 + d) 6 = mpI K G X (min i n) 60 d)
  | 0, _ => by
    rw [Nat.zero_min]
    exact ⟨rfl, fun d hd => by rw [show mpI K G X 0 60 d = K 60 d from u2_ne (by omega), hK 60 d (Or.inr rfl)]; exact (hR.2.2.2.2.2 d hd).2.1⟩
  | i + 1, hi => by
    obtain ⟨h1, h2⟩ := pr_s (X := X) hR hK i (by omega)
    obtain ⟨b5, b6, b7⟩ := hR.2.2.2.2.2 i (by omega)
    have e4 := (hR.2.2.2.2.1 i (by omega)).2.2
    have p5 : prI I G X i (2 + i) 5 = I 59 i := (prI_fr I G X i (2 + i) 5 (Or.inl (by decide))).trans b5
    have p6 : prI I G X i (2 + i) 6 = I 60 i := (prI_fr I G X i (2 + i) 6 (Or.inr (Or.inr (Nat.le_refl _)))).trans b6
    rcases Nat.lt_or_ge i n with q | q
    · rw [show min i n = i by omega] at h1 h2
      rw [show min (i + 1) n = i + 1 by omega]
      have q5 : mpI K G X i 59 i = I 59 i := (mpI_fr K G X i 59 i (Or.inl (by decide)) (by omega)).trans (hK 59 i (Or.inl rfl))
      have q6 : mpI K G X i 60 i = I 60 i := (mpI_fr K G X i 60 i (Or.inr (Nat.le_refl _)) (by omega)).trans (hK 60 i (Or.inr rfl))
      have ec : prC (prI I G X i) G X i = mpC (mpI K G X i) G X i := by
        unfold prC mpC
        rw [p5, p6, q5, q6, e4]
      by_cases hq : mpC (mpI K G X i) G X i = true
      · rw [show prN I G X (i + 1) = prN I G X i + 1 from if_pos (ec.trans hq), show mpN K G X (i + 1) = mpN K G X i + 1 from if_pos hq, show prI I G X (i + 1) = u2 (prI I G X i) (2 + i) 6 1 from if_pos (ec.trans hq), show mpI K G X (i + 1) = u2 (mpI K G X i) 60 i 1 from if_pos hq, h1]
        refine ⟨rfl, fun d hd => ?_⟩
        by_cases z : d = i
        · subst z
          rw [u2_eq, u2_eq]
        · rw [u2_ne (by omega), u2_ne (by omega)]
          exact h2 d hd
      · rw [show prN I G X (i + 1) = prN I G X i from if_neg (by rw [ec]; exact hq), show mpN K G X (i + 1) = mpN K G X i from if_neg hq, show prI I G X (i + 1) = prI I G X i from if_neg (by rw [ec]; exact hq), show mpI K G X (i + 1) = mpI K G X i from if_neg hq]
        exact ⟨h1, h2⟩
    · rw [show min (i + 1) n = min i n by omega]
      have ec : ¬ prC (prI I G X i) G X i = true := by
        unfold prC
        rw [p5, (b7 q).2.1]
        intro h
        cases h
      rw [show prN I G X (i + 1) = prN I G X i from if_neg ec, show prI I G X (i + 1) = prI I G X i from if_neg ec]
      exact ⟨h1, h2⟩
