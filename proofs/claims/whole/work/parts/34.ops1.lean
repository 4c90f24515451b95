/-! every operation, by cases: what the class answers, what the reference answers, and the relation behind -/
theorem Rel.mk {I I' : Im} {G G' : Dm} {J J' : Jm} {T : Nat} (h : Rel I G J T) {n : Nat} (hB : RB I' G' n) (hJ : J' 53 1 = J 53 1) (h0 : I' 0 0 = I 0 0) (hN : RN G') (hL : RLm G') (hc : ∀ c k, c = 49 ∨ c = 67 ∨ (c = 53 ∧ 16 ≤ k ∧ k ≤ 19) → I' c k = I c k) (hr : ∀ c k, c = 50 ∨ c = 51 ∨ c = 68 ∨ (c = 53 ∧ k = 21) → I' c k = I c k) (hg : ∀ c k, c = 52 ∨ c = 69 → G' c k = G c k) : Rel I' G' J' T :=
  ⟨by rw [hJ, h0]; exact h.1, ⟨n, hB⟩, hN, hL, RC_c h.2.2.2.2.1 hc, RR_c h.2.2.2.2.2 hr hg⟩
set_option maxHeartbeats 1000000 in
theorem op_board {l : Launch} {D : va_G} {cy ad : Nat → Nat} {I : Im} {G : Dm} {J : Jm} {T : Nat} (hno : l.stackTraces = false) (hadI : adI ad) (h0 : Rel I G J T) (hT : T < 8192)  : ∃ (code1 : Int32) (b0 : Int32) (I1 : Im) (G1 : Dm) (J1 : Jm) (I2 : Im) (G2 : Dm), (nD l yL_board (.codeWith yL_board cL_board 3 (some .int) [(0, 8, 11, 13)]) D cy ad [.ref (ad 0), .ref (ad 70)] I G J (qI D cy ad code1 I1 G1 J1)) ∧ (kD l yX5_board (.code yX5_board cX5_board 1 (some .int)) rU D cy ad [.ref (ad 53)] I1 G1 J1 (qI D cy ad b0 I2 G2 J1)) ∧ I2 53 0 = code1 ∧ (code1 = 0 → J1 70 0 = b0.toInt64) ∧ Rel I2 G2 J1 (T + 1) := by
  have h : Rel I G J (T + 1) := h0.le (Nat.le_succ T)
  obtain ⟨hJ, ⟨n, hB⟩, hN, hL, hC, hR⟩ := id h
  have hn := hB.1
  have hn5 := hB.2.1
  have hn2 := hB.2.2.1
  by_cases q : n < 32
  · have e : ∀ c k, ¬ (c = 0 ∧ k = 2) → ¬ (c = 53 ∧ (k = 0 ∨ k = 2)) → u2 (u2 (u2 I 0 2 (nI (n + 1))) 53 0 0) 53 2 (nI (n + 1)) c k = I c k := fun c k q1 q2 => ((u2_ne (by omega)).trans ((u2_ne (by omega)).trans (u2_ne (by omega))))
    refine ⟨0, nI n, u2 I 0 2 (nI (n + 1)), G, u2 J 70 0 (nI n).toInt64, u2 (u2 (u2 I 0 2 (nI (n + 1))) 53 0 0) 53 2 (nI (n + 1)), G, v_L_board hadI (uM (k_X4_board hadI hn q)), uM (k_X5_board hadI ((u2_ne (by omega)).trans hn5) q), (u2_ne (by omega)).trans (u2_eq _ _ _ _), fun _ => u2_eq _ _ _ _, ?_⟩
    refine h.mk (n := n + 1) ?_ (u2_ne (by omega)) (e 0 0 (by omega) (by omega)) hN hL (fun c k z => e c k (by omega) (by omega)) (fun c k z => e c k (by omega) (by omega)) (fun _ _ _ => rfl)
    refine ⟨(u2_ne (by omega)).trans ((u2_ne (by omega)).trans (u2_eq _ _ _ _)), u2_eq _ _ _ _, by omega, fun b hb => ?_, hB.2.2.2.2.1, fun b hb => ?_⟩
    · obtain ⟨r, g1, g2, g3, g4⟩ := hB.2.2.2.1 b hb
      exact ⟨r, g1, (e _ 0 (by omega) (by omega)).trans g2, (e 55 b (by omega) (by omega)).trans g3, g4⟩
    · obtain ⟨g1, g2, g3⟩ := hB.2.2.2.2.2 b hb
      rw [e (2 + b) 5 (by omega) (by omega), e (2 + b) 6 (by omega) (by omega), e 55 b (by omega) (by omega), e 59 b (by omega) (by omega), e 60 b (by omega) (by omega)]
      exact ⟨g1, g2, fun z => g3 (by omega)⟩
  · obtain rfl : n = 32 := by omega
    exact ⟨1, 0, I, G, J, u2 I 53 0 1, G, v_L_board_ISE hadI (uX (x_X4_board hadI hno (by rw [hn]; decide))), uM (x_X5_board hadI hn5), u2_eq _ _ _ _, fun z => absurd z (by decide), h.t 1⟩

set_option maxHeartbeats 1000000 in
theorem op_row {l : Launch} {D : va_G} {cy ad : Nat → Nat} {I : Im} {G : Dm} {J : Jm} {T : Nat} (hno : l.stackTraces = false) (hadI : adI ad) (h0 : Rel I G J T) (hT : T < 8192) (v0 : Int32) (X1 : UInt64) : ∃ (code1 : Int32) (b0 : Int32) (I1 : Im) (G1 : Dm) (J1 : Jm) (I2 : Im) (G2 : Dm), (∀ x1 : UInt64, cn x1 = X1 → nD l yL_row (.codeWith yL_row cL_row 6 (some .int) [(0, 11, 14, 19), (0, 11, 18, 21), (0, 11, 22, 13)]) D cy ad [.ref (ad 0), .int v0, .double x1, .ref (ad 70)] I G J (qI D cy ad code1 I1 G1 J1)) ∧ (∀ x1 : UInt64, cn x1 = X1 → kD l yX5_row (.code yX5_row cX5_row 4 (some .int)) rU D cy ad [.ref (ad 53), .int v0, .double x1] I1 G1 J1 (qI D cy ad b0 I2 G2 J1)) ∧ I2 53 0 = code1 ∧ (code1 = 0 → J1 70 0 = b0.toInt64) ∧ Rel I2 G2 J1 (T + 1) := by
  have h : Rel I G J (T + 1) := h0.le (Nat.le_succ T)
  obtain ⟨hJ, ⟨n, hB⟩, hN, hL, hC, hR⟩ := id h
  have hn := hB.1
  have hn5 := hB.2.1
  have hn2 := hB.2.2.1
  rcases idx v0 (n := n) (by omega) with q | ⟨k, hk, rfl⟩
  · exact ⟨1, 0, I, G, J, u2 I 53 0 1, G, fun x1 hx1 => v_L_row_IOOBE hadI (uX (x1_X4_row hadI hno (by rw [hn]; exact q))), fun x1 hx1 => uM (x1_X5_row hadI (by rw [hn5]; exact q)), u2_eq _ _ _ _, fun z => absurd z (by decide), h.t 1⟩
  · have hk32 : k < 32 := by omega
    cases hin : bIn X1 0 1000
    · exact ⟨2, 0, I, G, J, u2 I 53 0 2, G, fun x1 hx1 => v_L_row_IAE hadI (uX (x2_X4_row hadI hno hn hk hn2 hx1 hin)), fun x1 hx1 => uM (x2_X5_row hadI hn5 hk hn2 hx1 ((in_1000 X1).symm.trans hin)), u2_eq _ _ _ _, fun z => absurd z (by decide), h.t 2⟩
    · obtain ⟨r, g1, g2, g3, g4⟩ := hB.2.2.2.1 k hk32
      have hin5 : mBt X1 0 4652007308841189376 = true := (in_1000 X1).symm.trans hin
      by_cases q : r < 8
      · have e : ∀ c j, ¬ (c = 2 + k ∧ j = 0) → ¬ (c = 53 ∧ j = 0) → ¬ (c = 55 ∧ j = k) → u2 (u2 (u2 I (2 + k) 0 (nI (r + 1))) 53 0 0) 55 k (nI (r + 1)) c j = I c j := fun c j q1 q2 q3 => ((u2_ne (by omega)).trans ((u2_ne (by omega)).trans (u2_ne (by omega))))
        have eg : ∀ c j, ¬ (c = 2 + k ∧ j = 1) → c ≠ 54 → u2 (u2 G (2 + k) 1 (Ad (G (2 + k) 1) X1)) 54 (8 * k + r) X1 c j = G c j := fun c j q1 q2 => ((u2_ne (by omega)).trans (u2_ne (by omega)))
        refine ⟨0, nI (r + 1), u2 I (2 + k) 0 (nI (r + 1)), u2 G (2 + k) 1 (Ad (G (2 + k) 1) X1), u2 J 70 0 (nI (r + 1)).toInt64, u2 (u2 (u2 I (2 + k) 0 (nI (r + 1))) 53 0 0) 55 k (nI (r + 1)), u2 (u2 G (2 + k) 1 (Ad (G (2 + k) 1) X1)) 54 (8 * k + r) X1, fun x1 hx1 => v_L_row hadI (uD (k_X4_row hadI hn hk hn2 hx1 hin g2 q)), fun x1 hx1 => uD (k_X5_row hadI ((u2_ne (by omega)).trans hn5) hk hn2 hx1 hin5 ((u2_ne (by omega)).trans g3) q), (u2_ne (by omega)).trans (u2_eq _ _ _ _), fun _ => u2_eq _ _ _ _, ?_⟩
        refine h.mk (n := n) ?_ (u2_ne (by omega)) (e 0 0 (by omega) (by omega) (by omega)) (RN_c hN (fun c j z => eg c j (by omega) (by omega))) (RL_c hL (fun c j z => eg c j (by omega) (by omega))) (fun c j z => e c j (by omega) (by omega) (by omega)) (fun c j z => e c j (by omega) (by omega) (by omega)) (fun c j z => eg c j (by omega) (by omega))
        refine ⟨(e 0 2 (by omega) (by omega) (by omega)).trans hn, (e 53 2 (by omega) (by omega) (by omega)).trans hn5, hn2, fun b hb => ?_, fun b hb => ?_, fun b hb => ?_⟩
        · by_cases z : b = k
          · subst z
            refine ⟨r + 1, by omega, (u2_ne (by omega)).trans ((u2_ne (by omega)).trans (u2_eq _ _ _ _)), u2_eq _ _ _ _, ?_⟩
            rw [mS_up q, mSum_c (B := G) (fun j => u2_ne (by omega)), u2_ne (by omega), u2_eq, g4]
          · obtain ⟨r2, f1, f2, f3, f4⟩ := hB.2.2.2.1 b hb
            refine ⟨r2, f1, (e _ 0 (by omega) (by omega) (by omega)).trans f2, (e 55 b (by omega) (by omega) (by omega)).trans f3, ?_⟩
            rw [mS_ne q z r2 f1, mSum_c (B := G) (fun j => u2_ne (by omega)), eg _ 1 (by omega) (by omega), f4]
        · rw [eg (2 + b) 2 (by omega) (by omega), eg (2 + b) 3 (by omega) (by omega), eg (2 + b) 4 (by omega) (by omega), eg 56 b (by omega) (by omega), eg 57 b (by omega) (by omega), eg 58 b (by omega) (by omega)]
          exact hB.2.2.2.2.1 b hb
        · rw [e (2 + b) 5 (by omega) (by omega) (by omega), e (2 + b) 6 (by omega) (by omega) (by omega), e 59 b (by omega) (by omega) (by omega), e 60 b (by omega) (by omega) (by omega)]
          obtain ⟨f1, f2, f3⟩ := hB.2.2.2.2.2 b hb
          exact ⟨f1, f2, fun z => by rw [e 55 b (by omega) (by omega) (by omega)]; exact f3 z⟩
      · obtain rfl : r = 8 := by omega
        exact ⟨3, 0, I, G, J, u2 I 53 0 3, G, fun x1 hx1 => v_L_row_ISE hadI (uX (x3_X4_row hadI hno hn hk hn2 hx1 hin (by rw [g2]; decide))), fun x1 hx1 => uM (x3_X5_row hadI hn5 hk hn2 hx1 hin5 g3), u2_eq _ _ _ _, fun z => absurd z (by decide), h.t 3⟩

set_option maxHeartbeats 1000000 in
theorem op_echo {l : Launch} {D : va_G} {cy ad : Nat → Nat} {I : Im} {G : Dm} {J : Jm} {T : Nat} (hno : l.stackTraces = false) (hadI : adI ad) (h0 : Rel I G J T) (hT : T < 8192) (v0 : Int32) (X1 : UInt64) (X2 : UInt64) : ∃ (code1 : Int32) (I1 : Im) (G1 : Dm) (J1 : Jm) (I2 : Im) (G2 : Dm), (∀ x1 : UInt64, cn x1 = X1 → ∀ x2 : UInt64, cn x2 = X2 → nD l yL_echo (.codeWith yL_echo cL_echo 7 (some .int) [(0, 8, 11, 19), (0, 8, 15, 21)]) D cy ad [.ref (ad 0), .int v0, .double x1, .double x2] I G J (qI D cy ad code1 I1 G1 J1)) ∧ (∀ x1 : UInt64, cn x1 = X1 → ∀ x2 : UInt64, cn x2 = X2 → kD l yX5_echo (.code yX5_echo cX5_echo 6 none) rU D cy ad [.ref (ad 53), .int v0, .double x1, .double x2] I1 G1 J1 (qV D cy ad I2 G2 J1)) ∧ I2 53 0 = code1 ∧ Rel I2 G2 J1 (T + 1) := by
  have h : Rel I G J (T + 1) := h0.le (Nat.le_succ T)
  obtain ⟨hJ, ⟨n, hB⟩, hN, hL, hC, hR⟩ := id h
  have hn := hB.1
  have hn5 := hB.2.1
  have hn2 := hB.2.2.1
  rcases idx v0 (n := n) (by omega) with q | ⟨k, hk, rfl⟩
  · exact ⟨1, I, G, J, u2 I 53 0 1, G, fun x1 hx1 => fun x2 hx2 => v_L_echo_IOOBE hadI (uX (x1_X4_echo hadI hno (by rw [hn]; exact q))), fun x1 hx1 => fun x2 hx2 => uM (x1_X5_echo hadI (by rw [hn5]; exact q)), u2_eq _ _ _ _, h.t 1⟩
  · have hk32 : k < 32 := by omega
    cases hin : (bIn X1 0 100 && bIn X2 0 10)
    · exact ⟨2, I, G, J, u2 I 53 0 2, G, fun x1 hx1 => fun x2 hx2 => v_L_echo_IAE hadI (uX (x2_X4_echo hadI hno hn hk hn2 hx1 hx2 hin)), fun x1 hx1 => fun x2 hx2 => uM (x2_X5_echo hadI hn5 hk hn2 hx1 hx2 (by rw [← in_100, ← in_10]; exact hin)), u2_eq _ _ _ _, h.t 2⟩
    · have eg : ∀ c j, ¬ (c = 2 + k ∧ j = 2) → ¬ (c = 56 ∧ j = k) → u2 (u2 G (2 + k) 2 (Mu (Mu X2 X1) X1)) 56 k (Mu (Mu X2 X1) X1) c j = G c j := fun c j q1 q2 => ((u2_ne (by omega)).trans (u2_ne (by omega)))
      obtain ⟨i1, i2⟩ := Bool.and_eq_true_iff.mp hin
      refine ⟨0, I, u2 G (2 + k) 2 (Mu (Mu X2 X1) X1), J, u2 I 53 0 0, u2 (u2 G (2 + k) 2 (Mu (Mu X2 X1) X1)) 56 k (Mu (Mu X2 X1) X1), fun x1 hx1 x2 hx2 => v_L_echo hadI (uD (k_X4_echo hadI hn hk hn2 hx1 hx2 i1 i2)), fun x1 hx1 x2 hx2 => uD (k_X5_echo hadI hn5 hk hn2 hx1 hx2 ((in_100 X1).symm.trans i1) ((in_10 X2).symm.trans i2)), u2_eq _ _ _ _, ?_⟩
      refine (h.t 0).mk (n := n) ?_ rfl rfl (RN_c hN (fun c j z => eg c j (by omega) (by omega))) (RL_c hL (fun c j z => eg c j (by omega) (by omega))) (fun c j z => rfl) (fun c j z => rfl) (fun c j z => eg c j (by omega) (by omega))
      refine ⟨(u2_ne (by omega)).trans hn, (u2_ne (by omega)).trans hn5, hn2, fun b hb => ?_, fun b hb => ?_, fun b hb => ?_⟩
      · obtain ⟨r2, f1, f2, f3, f4⟩ := hB.2.2.2.1 b hb
        refine ⟨r2, f1, (u2_ne (by omega)).trans f2, (u2_ne (by omega)).trans f3, ?_⟩
        rw [mSum_c (B := G) (fun j => eg _ j (by omega) (by omega)), eg _ 1 (by omega) (by omega), f4]
      · obtain ⟨f1, f2, f3⟩ := hB.2.2.2.2.1 b hb
        by_cases z : b = k
        · subst z
          refine ⟨((u2_ne (by omega)).trans (u2_eq _ _ _ _)).trans (u2_eq _ _ _ _).symm, ?_, ?_⟩
          · rw [eg (2 + b) 3 (by omega) (by omega), eg 57 b (by omega) (by omega)]; exact f2
          · rw [eg (2 + b) 4 (by omega) (by omega), eg 58 b (by omega) (by omega)]; exact f3
        · rw [eg (2 + b) 2 (by omega) (by omega), eg (2 + b) 3 (by omega) (by omega), eg (2 + b) 4 (by omega) (by omega), eg 56 b (by omega) (by omega), eg 57 b (by omega) (by omega), eg 58 b (by omega) (by omega)]
          exact ⟨f1, f2, f3⟩
      · obtain ⟨f1, f2, f3⟩ := hB.2.2.2.2.2 b hb
        rw [u2_ne (by omega), u2_ne (by omega), u2_ne (by omega), u2_ne (by omega), u2_ne (by omega)]
        exact ⟨f1, f2, f3⟩

set_option maxHeartbeats 1000000 in
theorem op_knots {l : Launch} {D : va_G} {cy ad : Nat → Nat} {I : Im} {G : Dm} {J : Jm} {T : Nat} (hno : l.stackTraces = false) (hadI : adI ad) (h0 : Rel I G J T) (hT : T < 8192) (v0 : Int32) (X1 : UInt64) : ∃ (code1 : Int32) (I1 : Im) (G1 : Dm) (J1 : Jm) (I2 : Im) (G2 : Dm), (∀ x1 : UInt64, cn x1 = X1 → nD l yL_knots (.codeWith yL_knots cL_knots 5 (some .int) [(0, 6, 9, 19), (0, 6, 13, 21)]) D cy ad [.ref (ad 0), .int v0, .double x1] I G J (qI D cy ad code1 I1 G1 J1)) ∧ (∀ x1 : UInt64, cn x1 = X1 → kD l yX5_knots (.code yX5_knots cX5_knots 4 none) rU D cy ad [.ref (ad 53), .int v0, .double x1] I1 G1 J1 (qV D cy ad I2 G2 J1)) ∧ I2 53 0 = code1 ∧ Rel I2 G2 J1 (T + 1) := by
  have h : Rel I G J (T + 1) := h0.le (Nat.le_succ T)
  obtain ⟨hJ, ⟨n, hB⟩, hN, hL, hC, hR⟩ := id h
  have hn := hB.1
  have hn5 := hB.2.1
  have hn2 := hB.2.2.1
  rcases idx v0 (n := n) (by omega) with q | ⟨k, hk, rfl⟩
  · exact ⟨1, I, G, J, u2 I 53 0 1, G, fun x1 hx1 => v_L_knots_IOOBE hadI (uX (x1_X4_knots hadI hno (by rw [hn]; exact q))), fun x1 hx1 => uM (x1_X5_knots hadI (by rw [hn5]; exact q)), u2_eq _ _ _ _, h.t 1⟩
  · have hk32 : k < 32 := by omega
    cases hin : bIn X1 0 1
    · exact ⟨2, I, G, J, u2 I 53 0 2, G, fun x1 hx1 => v_L_knots_IAE hadI (uX (x2_X4_knots hadI hno hn hk hn2 hx1 hin)), fun x1 hx1 => uM (x2_X5_knots hadI hn5 hk hn2 hx1 ((in_1 X1).symm.trans hin)), u2_eq _ _ _ _, h.t 2⟩
    · have eg : ∀ c j, ¬ (c = 2 + k ∧ j = 3) → ¬ (c = 57 ∧ j = k) → u2 (u2 G (2 + k) 3 X1) 57 k X1 c j = G c j := fun c j q1 q2 => ((u2_ne (by omega)).trans (u2_ne (by omega)))
      have hin5 := (in_1 X1).symm.trans hin
      refine ⟨0, I, u2 G (2 + k) 3 X1, J, u2 I 53 0 0, u2 (u2 G (2 + k) 3 X1) 57 k X1, fun x1 hx1 => v_L_knots hadI (uM (k_X4_knots hadI hn hk hn2 hx1 hin)), fun x1 hx1 => uM (k_X5_knots hadI hn5 hk hn2 hx1 hin5), u2_eq _ _ _ _, ?_⟩
      refine (h.t 0).mk (n := n) ?_ rfl rfl (RN_c hN (fun c j z => eg c j (by omega) (by omega))) (RL_c hL (fun c j z => eg c j (by omega) (by omega))) (fun c j z => rfl) (fun c j z => rfl) (fun c j z => eg c j (by omega) (by omega))
      refine ⟨(u2_ne (by omega)).trans hn, (u2_ne (by omega)).trans hn5, hn2, fun b hb => ?_, fun b hb => ?_, fun b hb => ?_⟩
      · obtain ⟨r2, f1, f2, f3, f4⟩ := hB.2.2.2.1 b hb
        refine ⟨r2, f1, (u2_ne (by omega)).trans f2, (u2_ne (by omega)).trans f3, ?_⟩
        rw [mSum_c (B := G) (fun j => eg _ j (by omega) (by omega)), eg _ 1 (by omega) (by omega), f4]
      · obtain ⟨f1, f2, f3⟩ := hB.2.2.2.2.1 b hb
        by_cases z : b = k
        · subst z
          refine ⟨?_, ((u2_ne (by omega)).trans (u2_eq _ _ _ _)).trans (u2_eq _ _ _ _).symm, ?_⟩
          · rw [eg (2 + b) 2 (by omega) (by omega), eg 56 b (by omega) (by omega)]; exact f1
          · rw [eg (2 + b) 4 (by omega) (by omega), eg 58 b (by omega) (by omega)]; exact f3
        · rw [eg (2 + b) 2 (by omega) (by omega), eg (2 + b) 3 (by omega) (by omega), eg (2 + b) 4 (by omega) (by omega), eg 56 b (by omega) (by omega), eg 57 b (by omega) (by omega), eg 58 b (by omega) (by omega)]
          exact ⟨f1, f2, f3⟩
      · obtain ⟨f1, f2, f3⟩ := hB.2.2.2.2.2 b hb
        rw [u2_ne (by omega), u2_ne (by omega), u2_ne (by omega), u2_ne (by omega), u2_ne (by omega)]
        exact ⟨f1, f2, f3⟩

