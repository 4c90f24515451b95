/-! every operation, by cases, second part -/
theorem told_c {I I' : Im} {G G' : Dm} {d : Nat} {C0 C1 C2 : UInt64} (hI : ∀ k, I' 55 k = I 55 k) (hG : ∀ c k, c = 54 ∨ c = 56 ∨ c = 57 → G' c k = G c k) : mTold I' G' d C0 C1 C2 = mTold I G d C0 C1 C2 := by
  have e : ∀ i, mTerm I' G' d i = mTerm I G d i := fun i => by
    rw [mTerm_c (B := G) hG]
    unfold mTerm
    rw [hI]
  unfold mTold
  rw [e, e, e]
set_option maxHeartbeats 1000000 in
theorem op_broken {l : Launch} {D : va_G} {cy ad : Nat → Nat} {I : Im} {G : Dm} {J : Jm} {T : Nat} (hno : l.stackTraces = false) (hadI : adI ad) (h0 : Rel I G J T) (hT : T < 8192) (v0 : Int32) (X1 : UInt64) : ∃ (code1 : Int32) (I1 : Im) (G1 : Dm) (J1 : Jm) (I2 : Im) (G2 : Dm), (∀ x1 : UInt64, cn x1 = X1 → nD l yL_broken (.codeWith yL_broken cL_broken 5 (some .int) [(0, 6, 9, 19), (0, 6, 13, 21), (0, 6, 17, 13)]) D cy ad [.ref (ad 0), .int v0, .double x1] I G J (qI D cy ad code1 I1 G1 J1)) ∧ (∀ x1 : UInt64, cn x1 = X1 → kD l yX5_broken (.code yX5_broken cX5_broken 4 none) rU D cy ad [.ref (ad 53), .int v0, .double x1] I1 G1 J1 (qV D cy ad I2 G2 J1)) ∧ I2 53 0 = code1 ∧ Rel I2 G2 J1 (T + 1) := by
  have h : Rel I G J (T + 1) := h0.le (Nat.le_succ T)
  obtain ⟨hJ, ⟨n, hB⟩, hN, hL, hC, hR⟩ := id h
  have hn := hB.1
  have hn5 := hB.2.1
  have hn2 := hB.2.2.1
  rcases idx v0 (n := n) (by omega) with q | ⟨k, hk, rfl⟩
  · exact ⟨1, I, G, J, u2 I 53 0 1, G, fun x1 hx1 => v_L_broken_IOOBE hadI (uX (x1_X4_broken hadI hno (by rw [hn]; exact q))), fun x1 hx1 => uM (x1_X5_broken hadI (by rw [hn5]; exact q)), u2_eq _ _ _ _, h.t 1⟩
  · have hk32 : k < 32 := by omega
    obtain ⟨b5, b6, -⟩ := hB.2.2.2.2.2 k hk32
    cases hin : bIn X1 0 1000
    · exact ⟨2, I, G, J, u2 I 53 0 2, G, fun x1 hx1 => v_L_broken_IAE hadI (uX (x2_X4_broken hadI hno hn hk hn2 hx1 hin)), fun x1 hx1 => uM (x2_X5_broken hadI hn5 hk hn2 hx1 ((in_1000 X1).symm.trans hin)), u2_eq _ _ _ _, h.t 2⟩
    · have hin5 : mBt X1 0 4652007308841189376 = true := (in_1000 X1).symm.trans hin
      by_cases q : I 59 k = 0 ∧ I 60 k = 0
      · obtain ⟨q5, q6⟩ := q
        have e : ∀ c j, ¬ (c = 2 + k ∧ j = 5) → ¬ (c = 53 ∧ j = 0) → ¬ (c = 59 ∧ j = k) → u2 (u2 (u2 I (2 + k) 5 1) 53 0 0) 59 k 1 c j = I c j := fun c j q1 q2 q3 => ((u2_ne (by omega)).trans ((u2_ne (by omega)).trans (u2_ne (by omega))))
        have eg : ∀ c j, ¬ (c = 2 + k ∧ j = 4) → ¬ (c = 58 ∧ j = k) → u2 (u2 G (2 + k) 4 X1) 58 k X1 c j = G c j := fun c j q1 q2 => ((u2_ne (by omega)).trans (u2_ne (by omega)))
        refine ⟨0, u2 I (2 + k) 5 1, u2 G (2 + k) 4 X1, J, u2 (u2 (u2 I (2 + k) 5 1) 53 0 0) 59 k 1, u2 (u2 G (2 + k) 4 X1) 58 k X1, fun x1 hx1 => v_L_broken hadI (uM (k_X4_broken hadI hn hk hn2 hx1 hin (b5.trans q5) (b6.trans q6))), fun x1 hx1 => uM (k_X5_broken hadI ((u2_ne (by omega)).trans hn5) hk hn2 hx1 hin5 ((u2_ne (by omega)).trans q5) ((u2_ne (by omega)).trans q6)), (u2_ne (by omega)).trans (u2_eq _ _ _ _), ?_⟩
        refine h.mk (n := n) ?_ rfl (e 0 0 (by omega) (by omega) (by omega)) (RN_c hN (fun c j z => eg c j (by omega) (by omega))) (RL_c hL (fun c j z => eg c j (by omega) (by omega))) (fun c j z => e c j (by omega) (by omega) (by omega)) (fun c j z => e c j (by omega) (by omega) (by omega)) (fun c j z => eg c j (by omega) (by omega))
        refine ⟨(e 0 2 (by omega) (by omega) (by omega)).trans hn, (e 53 2 (by omega) (by omega) (by omega)).trans hn5, hn2, fun b hb => ?_, fun b hb => ?_, fun b hb => ?_⟩
        · obtain ⟨r2, f1, f2, f3, f4⟩ := hB.2.2.2.1 b hb
          refine ⟨r2, f1, (e _ 0 (by omega) (by omega) (by omega)).trans f2, (e 55 b (by omega) (by omega) (by omega)).trans f3, ?_⟩
          rw [mSum_c (B := G) (fun j => eg _ j (by omega) (by omega)), eg _ 1 (by omega) (by omega), f4]
        · obtain ⟨f1, f2, f3⟩ := hB.2.2.2.2.1 b hb
          rw [eg (2 + b) 2 (by omega) (by omega), eg (2 + b) 3 (by omega) (by omega), eg 56 b (by omega) (by omega), eg 57 b (by omega) (by omega)]
          refine ⟨f1, f2, ?_⟩
          by_cases z : b = k
          · subst z
            exact ((u2_ne (by omega)).trans (u2_eq _ _ _ _)).trans (u2_eq _ _ _ _).symm
          · rw [eg (2 + b) 4 (by omega) (by omega), eg 58 b (by omega) (by omega)]; exact f3
        · obtain ⟨f1, f2, f3⟩ := hB.2.2.2.2.2 b hb
          rw [e (2 + b) 6 (by omega) (by omega) (by omega), e 60 b (by omega) (by omega) (by omega), e 55 b (by omega) (by omega) (by omega)]
          by_cases z : b = k
          · subst z
            exact ⟨((u2_ne (by omega)).trans ((u2_ne (by omega)).trans (u2_eq _ _ _ _))).trans (u2_eq _ _ _ _).symm, f2, fun z => absurd z (by omega)⟩
          · rw [e (2 + b) 5 (by omega) (by omega) (by omega), e 59 b (by omega) (by omega) (by omega)]
            exact ⟨f1, f2, f3⟩
      · have q' : ¬ I 59 k = 0 ∨ ¬ I 60 k = 0 := Decidable.not_and_iff_not_or_not.mp q
        exact ⟨3, I, G, J, u2 I 53 0 3, G, fun x1 hx1 => v_L_broken_ISE hadI (uX (x3_X4_broken hadI hno hn hk hn2 hx1 hin (by rw [b5, b6]; exact q'))), fun x1 hx1 => uM (x3_X5_broken hadI hn5 hk hn2 hx1 hin5 q'), u2_eq _ _ _ _, h.t 3⟩

theorem nI_m1 : ∀ i, i < 32 → decide (nI i = -1) = false := by decide +kernel
theorem mf0_v (B : Dm) : ∀ n, (∀ k, k < n → mf0 B n 64 k = B 65 k) ∧ ∀ c k, c ≠ 64 → mf0 B n c k = B c k
  | 0 => ⟨fun _ h => absurd h (Nat.not_lt_zero _), fun _ _ _ => rfl⟩
  | n + 1 => by
    obtain ⟨h1, h2⟩ := mf0_v B n
    refine ⟨fun k hk => ?_, fun c k q => (u2_ne (fun z => q z.1)).trans (h2 c k q)⟩
    show u2 (mf0 B n) 64 n (mf0 B n 65 n) 64 k = _
    by_cases z : k = n
    · subst z
      rw [u2_eq]
      exact h2 65 k (by decide)
    · exact (u2_ne (fun y => z y.2)).trans (h1 k (by omega))
set_option maxHeartbeats 1000000 in
theorem op_fit {l : Launch} {D : va_G} {cy ad : Nat → Nat} {I : Im} {G : Dm} {J : Jm} {T : Nat} (hno : l.stackTraces = false) (hadI : adI ad) (h0 : Rel I G J T) (hT : T < 8192)  : ∃ (a0 b0 : Int32) (I1 : Im) (G1 : Dm) (J1 : Jm) (I2 : Im) (G2 : Dm), (kD l yX4_fit (.code yX4_fit cX4_fit 1 (some .int)) rU D cy ad [.ref (ad 0)] I G J (qI D cy ad a0 I1 G1 J1)) ∧ (kD l yX5_fit (.code yX5_fit cX5_fit 3 (some .int)) rU D cy ad [.ref (ad 53)] I1 G1 J1 (qI D cy ad b0 I2 G2 J1)) ∧ a0 = b0 ∧ Rel I2 G2 J1 (T + 1) := by
  have h : Rel I G J (T + 1) := h0.le (Nat.le_succ T)
  obtain ⟨hJ, ⟨n, hB⟩, hN, hL, hC, hR⟩ := id h
  have hn := hB.1
  have hn5 := hB.2.1
  have hn2 := hB.2.2.1
  have hS := fit_s (b := 34) (I := I) (K := u2 I 53 0 0) (A := G) (B := rkG 34 I sk0 G) (sk := sk0) (w := -1) (Nat.le_refl _) hB (fun c k z => u2_ne (by omega)) (fun _ _ _ => rfl) (fun c k z => ?_) (fun i hi => (nI_m1 i hi).symm)
  · obtain ⟨e1, e2, e3, e4, e5⟩ := hS
    have hI : ∀ c k, ¬ (c = 53 ∧ k = 0) → c ≠ 63 → slI (u2 I 53 0 0) (-1) (rkG 34 I sk0 G) n c k = I c k := fun c k z1 z2 => (e5 c k z2).trans (u2_ne z1)
    have hG : ∀ c k, c ≠ 64 → c ≠ 61 ∧ c ≠ 62 ∧ c ≠ 65 → mf0 (slG (u2 I 53 0 0) (-1) (rkG 34 I sk0 G) n) 3 c k = rkG 34 I sk0 G c k := fun c k z1 z2 => ((mf0_v _ 3).2 c k z1).trans (e4 c k z2)
    have hG0 : ∀ c k, c ≠ 64 → c ≠ 61 ∧ c ≠ 62 ∧ c ≠ 65 → (c < 34 ∨ 41 ≤ c) → mf0 (slG (u2 I 53 0 0) (-1) (rkG 34 I sk0 G) n) 3 c k = G c k := fun c k z1 z2 z3 => (hG c k z1 z2).trans (e3 c k z3)
    have hRB : RB (u2 I 53 0 0) (rkG 34 I sk0 G) n := RB_c hB (fun c k z => u2_ne (by omega)) (fun c k z => e3 c k (by omega))
    have hBI : RB I (rkG 34 I sk0 G) n := RB_c hB (fun c k z => rfl) (fun c k z => e3 c k (by omega))
    refine ⟨nI (rkR 34 I sk0 G), nI (slR (u2 I 53 0 0) (-1) (rkG 34 I sk0 G) n), I, rkG 34 I sk0 G, J, slI (u2 I 53 0 0) (-1) (rkG 34 I sk0 G) n, mf0 (slG (u2 I 53 0 0) (-1) (rkG 34 I sk0 G) n) 3, uD (k_X4_fit hadI), uD (k_X5_fit hadI hBI.mOK hn5 hn2), by rw [e1], ?_⟩
    refine h.mk (n := n) (RB_c hB (fun c k z => hI c k (by omega) (by omega)) (fun c k z => hG0 c k (by omega) (by omega) (by omega))) rfl (hI 0 0 (by omega) (by omega)) ?_ (RL_c hL (fun c k z => hG0 c k (by omega) (by omega) (by omega))) (fun c k z => hI c k (by omega) (by omega)) (fun c k z => hI c k (by omega) (by omega)) (fun c k z => hG0 c k (by omega) (by omega) (by omega))
    intro k hk
    rw [hG 40 k (by omega) (by omega), (mf0_v _ 3).1 k hk]
    exact e2 k hk
  · obtain ⟨-, -, f3, -, -⟩ := fit_s (b := 34) (I := I) (K := I) (A := G) (B := G) (sk := sk0) (w := -1) (Nat.le_refl _) hB (fun _ _ _ => rfl) (fun _ _ _ => rfl) (fun _ _ _ => rfl) (fun i hi => (nI_m1 i hi).symm)
    exact f3 c k (by omega)

set_option maxHeartbeats 1000000 in
theorem op_number {l : Launch} {D : va_G} {cy ad : Nat → Nat} {I : Im} {G : Dm} {J : Jm} {T : Nat} (hno : l.stackTraces = false) (hadI : adI ad) (h0 : Rel I G J T) (hT : T < 8192) (v0 : Int32) : ∃ (code1 : Int32) (b0 : UInt64) (I1 : Im) (G1 : Dm) (J1 : Jm) (I2 : Im) (G2 : Dm), (nD l yL_number (.codeWith yL_number cL_number 4 (some .int) [(0, 8, 11, 19)]) D cy ad [.ref (ad 0), .int v0, .ref (ad 71)] I G J (qI D cy ad code1 I1 G1 J1)) ∧ (kD l yX5_number (.code yX5_number cX5_number 2 (some .double)) rU D cy ad [.ref (ad 53), .int v0] I1 G1 J1 (qD D cy ad b0 I2 G2 J1)) ∧ I2 53 0 = code1 ∧ (code1 = 0 → dEq (G2 71 0) b0) ∧ Rel I2 G2 J1 (T + 1) := by
  have h : Rel I G J (T + 1) := h0.le (Nat.le_succ T)
  obtain ⟨hJ, ⟨n, hB⟩, hN, hL, hC, hR⟩ := id h
  have hn := hB.1
  have hn5 := hB.2.1
  have hn2 := hB.2.2.1
  rcases idx v0 (n := 3) (by omega) with q | ⟨k, hk, rfl⟩
  · have q5 : v0 < 0 ∨ ¬ v0 ≤ 2 := q.imp id (fun z y => z (lt_3.mpr y))
    exact ⟨1, 0, I, G, J, u2 I 53 0 1, G, v_L_number_IOOBE hadI (uX (x_X4_number hadI hno q)), uM (x_X5_number hadI q5), u2_eq _ _ _ _, fun z => absurd z (by decide), h.t 1⟩
  · exact ⟨0, G 64 k, I, u2 G 71 0 (G 40 k), J, u2 I 53 0 0, u2 G 71 0 (G 40 k), v_L_number hadI (uM (k_X4_number hadI hk)), uM (k_X5_number (G := u2 G 71 0 (G 40 k)) hadI hk), u2_eq _ _ _ _, fun _ => by rw [u2_eq, hN k hk]; exact dEq_rf _, (h.t 0).d _⟩

set_option maxHeartbeats 1000000 in
theorem op_foretold {l : Launch} {D : va_G} {cy ad : Nat → Nat} {I : Im} {G : Dm} {J : Jm} {T : Nat} (hno : l.stackTraces = false) (hadI : adI ad) (h0 : Rel I G J T) (hT : T < 8192) (v0 : Int32) : ∃ (code1 : Int32) (b0 : UInt64) (I1 : Im) (G1 : Dm) (J1 : Jm) (I2 : Im) (G2 : Dm), (nD l yL_foretold (.codeWith yL_foretold cL_foretold 4 (some .int) [(0, 8, 11, 19), (0, 8, 14, 13)]) D cy ad [.ref (ad 0), .int v0, .ref (ad 71)] I G J (qI D cy ad code1 I1 G1 J1)) ∧ (kD l yX5_foretold (.code yX5_foretold cX5_foretold 2 (some .double)) rU D cy ad [.ref (ad 53), .int v0] I1 G1 J1 (qD D cy ad b0 I2 G2 J1)) ∧ I2 53 0 = code1 ∧ (code1 = 0 → dEq (G2 71 0) b0) ∧ Rel I2 G2 J1 (T + 1) := by
  have h : Rel I G J (T + 1) := h0.le (Nat.le_succ T)
  obtain ⟨hJ, ⟨n, hB⟩, hN, hL, hC, hR⟩ := id h
  have hn := hB.1
  have hn5 := hB.2.1
  have hn2 := hB.2.2.1
  rcases idx v0 (n := n) (by omega) with q | ⟨k, hk, rfl⟩
  · exact ⟨1, 0, I, G, J, u2 I 53 0 1, G, v_L_foretold_IOOBE hadI (uX (x1_X4_foretold hadI hno (by rw [hn]; exact q))), uM (x1_X5_foretold hadI (by rw [hn5]; exact q)), u2_eq _ _ _ _, fun z => absurd z (by decide), h.t 1⟩
  · have hk32 : k < 32 := by omega
    have hcc := hB.compl hk32
    cases hc : mCompl I G k
    · exact ⟨2, 0, I, G, J, u2 I 53 0 2, G, v_L_foretold_ISE hadI (uX (x2_X4_foretold hadI hno hn hk hn2 (hcc.trans hc))), uM (x2_X5_foretold hadI hn5 hk hn2 hc), u2_eq _ _ _ _, fun z => absurd z (by decide), h.t 2⟩
    · refine ⟨0, mTold (u2 I 53 0 0) (u2 G 71 0 (fore 34 I G (2 + k))) k (G 64 0) (G 64 1) (G 64 2), I, u2 G 71 0 (fore 34 I G (2 + k)), J, u2 I 53 0 0, u2 G 71 0 (fore 34 I G (2 + k)), v_L_foretold hadI (uD (k_X4_foretold hadI hn hk hn2 (hcc.trans hc))), uD (k_X5_foretold (G := u2 G 71 0 (fore 34 I G (2 + k))) hadI hn5 hk hn2 hB.mOK ((mCompl_c (u2_ne (by omega))).trans hc)), u2_eq _ _ _ _, fun _ => ?_, (h.t 0).d _⟩
      rw [u2_eq, fore_told (b := 34) hB hk32 hc (hN 0 (by decide)) (hN 1 (by decide)) (hN 2 (by decide))]
      rw [told_c (I := I) (G := G) (fun _ => u2_ne (by omega)) (fun c j z => u2_ne (by omega))]
      exact dEq_rf _

set_option maxHeartbeats 1000000 in
theorem op_leftOut {l : Launch} {D : va_G} {cy ad : Nat → Nat} {I : Im} {G : Dm} {J : Jm} {T : Nat} (hno : l.stackTraces = false) (hadI : adI ad) (h0 : Rel I G J T) (hT : T < 8192) (v0 : Int32) : ∃ (code1 : Int32) (b0 : UInt64) (I1 : Im) (G1 : Dm) (J1 : Jm) (I2 : Im) (G2 : Dm), (nD l yL_leftOut (.codeWith yL_leftOut cL_leftOut 4 (some .int) [(0, 8, 11, 19), (0, 8, 14, 13)]) D cy ad [.ref (ad 0), .int v0, .ref (ad 71)] I G J (qI D cy ad code1 I1 G1 J1)) ∧ (kD l yX5_leftOut (.code yX5_leftOut cX5_leftOut 3 (some .double)) rU D cy ad [.ref (ad 53), .int v0] I1 G1 J1 (qD D cy ad b0 I2 G2 J1)) ∧ I2 53 0 = code1 ∧ (code1 = 0 → dEq (G2 71 0) b0) ∧ Rel I2 G2 J1 (T + 1) := by
  have h : Rel I G J (T + 1) := h0.le (Nat.le_succ T)
  obtain ⟨hJ, ⟨n, hB⟩, hN, hL, hC, hR⟩ := id h
  have hn := hB.1
  have hn5 := hB.2.1
  have hn2 := hB.2.2.1
  rcases idx v0 (n := n) (by omega) with q | ⟨k, hk, rfl⟩
  · exact ⟨1, 0, I, G, J, u2 I 53 0 1, G, v_L_leftOut_IOOBE hadI (uX (x1_X4_leftOut hadI hno (by rw [hn]; exact q))), uM (x1_X5_leftOut hadI (by rw [hn5]; exact q)), u2_eq _ _ _ _, fun z => absurd z (by decide), h.t 1⟩
  · have hk32 : k < 32 := by omega
    have hcc := hB.compl hk32
    cases hc : mCompl I G k
    · exact ⟨2, 0, I, G, J, u2 I 53 0 2, G, v_L_leftOut_ISE hadI (uX (x2_X4_leftOut hadI hno hn hk hn2 (hcc.trans hc))), uM (x2_X5_leftOut hadI hn5 hk hn2 hc), u2_eq _ _ _ _, fun z => absurd z (by decide), h.t 2⟩
    · have hsk : ∀ i, i < 32 → sk1 k i = decide (nI i = nI k) := fun i hi => decide_eq_decide.mpr (nI_eq (by omega) (by omega)).symm
      obtain ⟨-, -, f3, -, -⟩ := fit_s (b := 41) (I := I) (K := I) (A := G) (B := G) (sk := sk1 k) (w := nI k) (by omega) hB (fun _ _ _ => rfl) (fun _ _ _ => rfl) (fun _ _ _ => rfl) hsk
      generalize hv : fore 41 I (rkG 41 I (sk1 k) G) (2 + k) = v at *
      generalize hG1 : u2 (rkG 41 I (sk1 k) G) 71 0 v = G1 at *
      have g1 : ∀ c j, (c < 41 ∨ 48 ≤ c) → c ≠ 71 → G1 c j = G c j := fun c j z1 z2 => by rw [← hG1]; exact (u2_ne (by omega)).trans (f3 c j z1)
      have hB1 : RB I G1 n := RB_c hB (fun _ _ _ => rfl) (fun c j z => g1 c j (by omega) (by omega))
      obtain ⟨e1, e2, e3, e4, e5⟩ := fit_s (b := 41) (I := I) (K := u2 I 53 0 0) (A := G) (B := G1) (sk := sk1 k) (w := nI k) (by omega) hB (fun c j z => u2_ne (by omega)) (fun _ _ _ => rfl) (fun c j z => g1 c j (by omega) (by omega)) hsk
      have hI : ∀ c j, ¬ (c = 53 ∧ j = 0) → c ≠ 63 → slI (u2 I 53 0 0) (nI k) G1 n c j = I c j := fun c j z1 z2 => (e5 c j z2).trans (u2_ne z1)
      have hG : ∀ c j, c ≠ 61 ∧ c ≠ 62 ∧ c ≠ 65 → slG (u2 I 53 0 0) (nI k) G1 n c j = G1 c j := e4
      have hG0 : ∀ c j, (c < 41 ∨ 48 ≤ c) → c ≠ 71 → c ≠ 61 ∧ c ≠ 62 ∧ c ≠ 65 → slG (u2 I 53 0 0) (nI k) G1 n c j = G c j := fun c j z1 z2 z3 => (hG c j z3).trans (g1 c j z1 z2)
      have h71 : slG (u2 I 53 0 0) (nI k) G1 n 71 0 = v := (hG 71 0 (by omega)).trans (by rw [← hG1]; exact u2_eq _ _ _ _)
      have h0' : slI (u2 I 53 0 0) (nI k) G1 n 53 0 = 0 := (e5 53 0 (by omega)).trans (u2_eq _ _ _ _)
      have hw : nD l yL_leftOut (.codeWith yL_leftOut cL_leftOut 4 (some .int) [(0, 8, 11, 19), (0, 8, 14, 13)]) D cy ad [.ref (ad 0), .int (nI k), .ref (ad 71)] I G J (qI D cy ad 0 I G1 J) := by
        rw [← hG1]
        have hc0 := k_X4_leftOut (l := l) (D := D) (cy := cy) (J := J) hadI hn hk hn2 (hcc.trans hc)
        rw [hv] at hc0
        exact v_L_leftOut hadI (uD hc0)
      refine ⟨0, _, I, G1, J, slI (u2 I 53 0 0) (nI k) G1 n, slG (u2 I 53 0 0) (nI k) G1 n, hw, uD (k_X5_leftOut hadI hn5 hk hn2 hB1.mOK ((mCompl_c (g1 56 k (by omega) (by omega))).trans hc)), h0', fun _ => ?_, ?_⟩
      · rw [h71, ← hv]
        rw [fore_told (b := 41) (RB_c hB (fun _ _ _ => rfl) (fun c j z => f3 c j (by omega)) : RB I (rkG 41 I (sk1 k) G) n) hk32 ((mCompl_c (f3 56 k (by omega))).trans hc) (e2 0 (by decide)) (e2 1 (by decide)) (e2 2 (by decide))]
        rw [told_c (I := slI (u2 I 53 0 0) (nI k) G1 n) (G := slG (u2 I 53 0 0) (nI k) G1 n) (fun j => (hI 55 j (by omega) (by omega)).symm) (fun c j z => (f3 c j (by omega)).trans (hG0 c j (by omega) (by omega) (by omega)).symm)]
        exact dEq_rf _
      · exact Rel_c h hI (fun c j z => hG0 c j (by omega) (by omega) (by omega)) rfl

